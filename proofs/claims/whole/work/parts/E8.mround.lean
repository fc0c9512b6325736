/-! the reference's steps, on: printed by wip/whole/e8.py -/
def m_s3_O (S : aS) (a b : Int) : Option T4 := if sTp S a.toNat 2 = 0 ∨ sTp S b.toNat 2 = 0 then none else some (((tpR S a).1 * (tpR S b).2.2.1) + ((tpR S b).1 * (tpR S a).2.2.1), ((tpR S a).2.1 * (tpR S b).2.2.1) + ((tpR S b).2.1 * (tpR S a).2.2.1), 2 * (tpR S a).2.2.1 * (tpR S b).2.2.1, 0)
set_option maxRecDepth 100000 in
set_option maxHeartbeats 4000000 in
theorem m_simple3 {w : aW} {d : Nat} (hd : 9 ≤ d) {h : aH} {o : Nat} (ms : MS h o) (V : Nat → Nat → Int) {S : aS} (ok : OkT S) (mt : MT V o S) (hF : 0 ≤ V o 1 ∧ V o 1 + 32 ≤ 700) (a : Int) (ha : 0 ≤ a ∧ a < sT S) (b : Int) (hb : 0 ≤ b ∧ b < sT S) (tP : SB V o (o + 24) (tpR S a) (20)) (tQ : SB V o (o + 25) (tpR S b) (20))  : WP w d 308 [aO (some o), aI 3, aI a, aI b] (hw h V) (RI (fun r h1 => ∃ V1, h1 = hw h V1 ∧ KM V V1 o 32 (fun q => q = o + 29) ∧ r = (keepM S 0 (m_s3_O S a b)).1 ∧ MT V1 o (keepM S 0 (m_s3_O S a b)).2)) := by
  obtain ⟨d, rfl⟩ : ∃ d1, d = d1 + 1 := ⟨d - 1, by omega⟩
  refine WP.enter (cd := cd_X12_simple) rfl ?_
  have G0 := Gs.refl V o (fun q => q = o + 29)
  obtain ⟨Pp, Pq, Pr, Ps, sP, xPp, xPq, xPr, xPs⟩ := tP
  obtain ⟨Qp, Qq, Qr, Qs, sQ, xQp, xQq, xQr, xQs⟩ := tQ
  have hn := ok.1
  have fa2 : (tpR S a).2.2.1 = sTp S a.toNat 2 := rfl
  have fb2 : (tpR S b).2.2.1 = sTp S b.toNat 2 := rfl
  have fa0 : (tpR S a).1 = sTp S a.toNat 0 := rfl
  have fb0 : (tpR S b).1 = sTp S b.toNat 0 := rfl
  have fa1 : (tpR S a).2.1 = sTp S a.toNat 1 := rfl
  have fb1 : (tpR S b).2.1 = sTp S b.toNat 1 := rfl
  have hls : largs 0 [aO (some o), aI 3, aI a, aI b] = [(0, aO (some o)), (1, aI 3), (2, aI a), (3, aI b)] := rfl
  rw [hls]
  clear hls
  refine g_iload_n rfl rfl ?_
  refine g_tsw (t := 91) rfl (by rfl) ?_
  refine g_aload_n rfl rfl ?_
  refine g_iload_n rfl rfl ?_
  refine g_callVI [aI a] [] rfl rfl rfl rfl (Nat.le_of_ble_eq_true rfl) ms.1 (m_isFar (by omega) ms V ok mt a ha) ?_
  rintro r1 _ ⟨rfl, e2⟩
  rw [e2]
  clear e2 r1
  refine g_b_ne rfl (fun c96 => ?_) (fun c96 => ?_)
  · skip
    refine g_bipush rfl ?_
    refine g_iret rfl ?_
    have ek : keepM S 0 (m_s3_O S a b) = (-3, S) := by
      have eo : m_s3_O S a b = none := by
        unfold m_s3_O
        exact if_pos (by omega)
      rw [eo]
      rfl
    rw [ek]
    exact ⟨V, rfl, KM.of (G0.mono (by omega)), rfl, mt⟩
  · skip
    refine g_aload_n rfl rfl ?_
    refine g_iload_n rfl rfl ?_
    refine g_callVI [aI b] [] rfl rfl rfl rfl (Nat.le_of_ble_eq_true rfl) ms.1 (m_isFar (by omega) ms V ok mt b hb) ?_
    rintro r3 _ ⟨rfl, e4⟩
    rw [e4]
    clear e4 r3
    refine g_b_eq rfl (fun c104 => ?_) (fun c104 => ?_)
    · skip
      refine g_aload_n rfl rfl ?_
      refine g_aload_n rfl rfl ?_
      refine g_getR rfl ms.1 (mr_got ms) ?_
      refine g_aload_n rfl rfl ?_
      refine g_aload_n rfl rfl ?_
      refine g_aload_n rfl rfl ?_
      refine g_getR rfl ms.1 (mr_one ms) ?_
      refine g_iconst rfl ?_
      refine g_iald (i := 0) rfl (mt_one ms) (by omega) (by omega) ?_
      refine g_top (v2 := aI ((Pp : Int))) (congrArg aI (by exact sP.1)) ?_
      refine g_aload_n rfl rfl ?_
      refine g_getR rfl ms.1 (mr_two ms) ?_
      refine g_iconst rfl ?_
      refine g_iald (i := 2) rfl (mt_two ms) (by omega) (by omega) ?_
      refine g_top (v2 := aI ((Qr : Int))) (congrArg aI (by exact sQ.2.2.1)) ?_
      refine g_callVI [aI ((Pp : Int)), aI ((Qr : Int))] [aO (some o), aO (some (o + 29)), aO (some o)] rfl rfl rfl rfl (Nat.le_of_ble_eq_true rfl) ms.1 (r_mul (by omega) ms V (by have := G0.2.2.1; omega) xPp xQr (by omega)) ?_
      rintro _ _ ⟨p5, rfl, V5, rfl, g5, xp5⟩
      have G_6 := G0.trans (g5.gs _)
      refine g_aload_n rfl rfl ?_
      refine g_aload_n rfl rfl ?_
      refine g_getR rfl ms.1 (mr_two ms) ?_
      refine g_iconst rfl ?_
      refine g_iald (i := 0) rfl (mt_two ms) (by omega) (by omega) ?_
      refine g_top (v2 := aI ((Qp : Int))) (congrArg aI (by exact (g5.sa (show SLa o ((o + 25)) by unfold SLa; omega) sQ).1)) ?_
      refine g_aload_n rfl rfl ?_
      refine g_getR rfl ms.1 (mr_one ms) ?_
      refine g_iconst rfl ?_
      refine g_iald (i := 2) rfl (mt_one ms) (by omega) (by omega) ?_
      refine g_top (v2 := aI ((Pr : Int))) (congrArg aI (by exact (g5.sa (show SLa o ((o + 24)) by unfold SLa; omega) sP).2.2.1)) ?_
      refine g_callVI [aI ((Qp : Int)), aI ((Pr : Int))] [aI ((p5 : Int)), aO (some o), aO (some (o + 29)), aO (some o)] rfl rfl rfl rfl (Nat.le_of_ble_eq_true rfl) ms.1 (r_mul (by omega) ms V5 (by have := G_6.2.2.1; omega) (g5.rb xQp) (g5.rb xPr) (by omega)) ?_
      rintro _ _ ⟨p7, rfl, V7, rfl, g7, xp7⟩
      have G_8 := G_6.trans (g7.gs _)
      refine g_callVI [aI ((p5 : Int)), aI ((p7 : Int))] [aO (some (o + 29)), aO (some o)] rfl rfl rfl rfl (Nat.le_of_ble_eq_true rfl) ms.1 (r_add (by omega) ms V7 (by have := G_8.2.2.1; omega) (g7.rb xp5) xp7 (41) (by omega) (by omega) (by omega)) ?_
      rintro _ _ ⟨p9, rfl, V9, rfl, g9, xp9⟩
      have G_10 := G_8.trans (g9.gs _)
      refine g_aload_n rfl rfl ?_
      refine g_aload_n rfl rfl ?_
      refine g_aload_n rfl rfl ?_
      refine g_getR rfl ms.1 (mr_one ms) ?_
      refine g_iconst rfl ?_
      refine g_iald (i := 1) rfl (mt_one ms) (by omega) (by omega) ?_
      refine g_top (v2 := aI ((Pq : Int))) (congrArg aI (by exact (g9.sa (show SLa o ((o + 24)) by unfold SLa; omega) (g7.sa (show SLa o ((o + 24)) by unfold SLa; omega) (g5.sa (show SLa o ((o + 24)) by unfold SLa; omega) sP))).2.1)) ?_
      refine g_aload_n rfl rfl ?_
      refine g_getR rfl ms.1 (mr_two ms) ?_
      refine g_iconst rfl ?_
      refine g_iald (i := 2) rfl (mt_two ms) (by omega) (by omega) ?_
      refine g_top (v2 := aI ((Qr : Int))) (congrArg aI (by exact (g9.sa (show SLa o ((o + 25)) by unfold SLa; omega) (g7.sa (show SLa o ((o + 25)) by unfold SLa; omega) (g5.sa (show SLa o ((o + 25)) by unfold SLa; omega) sQ))).2.2.1)) ?_
      refine g_callVI [aI ((Pq : Int)), aI ((Qr : Int))] [aO (some o), aI ((p9 : Int)), aO (some (o + 29)), aO (some o)] rfl rfl rfl rfl (Nat.le_of_ble_eq_true rfl) ms.1 (r_mul (by omega) ms V9 (by have := G_10.2.2.1; omega) (g9.rb (g7.rb (g5.rb xPq))) (g9.rb (g7.rb (g5.rb xQr))) (by omega)) ?_
      rintro _ _ ⟨p11, rfl, V11, rfl, g11, xp11⟩
      have G_12 := G_10.trans (g11.gs _)
      refine g_aload_n rfl rfl ?_
      refine g_aload_n rfl rfl ?_
      refine g_getR rfl ms.1 (mr_two ms) ?_
      refine g_iconst rfl ?_
      refine g_iald (i := 1) rfl (mt_two ms) (by omega) (by omega) ?_
      refine g_top (v2 := aI ((Qq : Int))) (congrArg aI (by exact (g11.sa (show SLa o ((o + 25)) by unfold SLa; omega) (g9.sa (show SLa o ((o + 25)) by unfold SLa; omega) (g7.sa (show SLa o ((o + 25)) by unfold SLa; omega) (g5.sa (show SLa o ((o + 25)) by unfold SLa; omega) sQ)))).2.1)) ?_
      refine g_aload_n rfl rfl ?_
      refine g_getR rfl ms.1 (mr_one ms) ?_
      refine g_iconst rfl ?_
      refine g_iald (i := 2) rfl (mt_one ms) (by omega) (by omega) ?_
      refine g_top (v2 := aI ((Pr : Int))) (congrArg aI (by exact (g11.sa (show SLa o ((o + 24)) by unfold SLa; omega) (g9.sa (show SLa o ((o + 24)) by unfold SLa; omega) (g7.sa (show SLa o ((o + 24)) by unfold SLa; omega) (g5.sa (show SLa o ((o + 24)) by unfold SLa; omega) sP)))).2.2.1)) ?_
      refine g_callVI [aI ((Qq : Int)), aI ((Pr : Int))] [aI ((p11 : Int)), aO (some o), aI ((p9 : Int)), aO (some (o + 29)), aO (some o)] rfl rfl rfl rfl (Nat.le_of_ble_eq_true rfl) ms.1 (r_mul (by omega) ms V11 (by have := G_12.2.2.1; omega) (g11.rb (g9.rb (g7.rb (g5.rb xQq)))) (g11.rb (g9.rb (g7.rb (g5.rb xPr)))) (by omega)) ?_
      rintro _ _ ⟨p13, rfl, V13, rfl, g13, xp13⟩
      have G_14 := G_12.trans (g13.gs _)
      refine g_callVI [aI ((p11 : Int)), aI ((p13 : Int))] [aI ((p9 : Int)), aO (some (o + 29)), aO (some o)] rfl rfl rfl rfl (Nat.le_of_ble_eq_true rfl) ms.1 (r_add (by omega) ms V13 (by have := G_14.2.2.1; omega) (g13.rb xp11) xp13 (41) (by omega) (by omega) (by omega)) ?_
      rintro _ _ ⟨p15, rfl, V15, rfl, g15, xp15⟩
      have G_16 := G_14.trans (g15.gs _)
      refine g_aload_n rfl rfl ?_
      refine g_aload_n rfl rfl ?_
      refine g_ldc2 rfl ?_
      refine g_callVI [aJ 2] [aO (some o), aI ((p15 : Int)), aI ((p9 : Int)), aO (some (o + 29)), aO (some o)] rfl rfl rfl rfl (Nat.le_of_ble_eq_true rfl) ms.1 (r_num (by omega) ms V15 (by have := G_16.2.2.1; omega) 2 (by omega) 1 (by decide)) ?_
      rintro _ _ ⟨p17, rfl, V17, rfl, g17, xp17⟩
      have G_18 := G_16.trans (g17.gs _)
      refine g_aload_n rfl rfl ?_
      refine g_getR rfl ms.1 (mr_one ms) ?_
      refine g_iconst rfl ?_
      refine g_iald (i := 2) rfl (mt_one ms) (by omega) (by omega) ?_
      refine g_top (v2 := aI ((Pr : Int))) (congrArg aI (by exact (g17.sa (show SLa o ((o + 24)) by unfold SLa; omega) (g15.sa (show SLa o ((o + 24)) by unfold SLa; omega) (g13.sa (show SLa o ((o + 24)) by unfold SLa; omega) (g11.sa (show SLa o ((o + 24)) by unfold SLa; omega) (g9.sa (show SLa o ((o + 24)) by unfold SLa; omega) (g7.sa (show SLa o ((o + 24)) by unfold SLa; omega) (g5.sa (show SLa o ((o + 24)) by unfold SLa; omega) sP))))))).2.2.1)) ?_
      refine g_aload_n rfl rfl ?_
      refine g_getR rfl ms.1 (mr_two ms) ?_
      refine g_iconst rfl ?_
      refine g_iald (i := 2) rfl (mt_two ms) (by omega) (by omega) ?_
      refine g_top (v2 := aI ((Qr : Int))) (congrArg aI (by exact (g17.sa (show SLa o ((o + 25)) by unfold SLa; omega) (g15.sa (show SLa o ((o + 25)) by unfold SLa; omega) (g13.sa (show SLa o ((o + 25)) by unfold SLa; omega) (g11.sa (show SLa o ((o + 25)) by unfold SLa; omega) (g9.sa (show SLa o ((o + 25)) by unfold SLa; omega) (g7.sa (show SLa o ((o + 25)) by unfold SLa; omega) (g5.sa (show SLa o ((o + 25)) by unfold SLa; omega) sQ))))))).2.2.1)) ?_
      refine g_callVI [aI ((p17 : Int)), aI ((Pr : Int)), aI ((Qr : Int))] [aI ((p15 : Int)), aI ((p9 : Int)), aO (some (o + 29)), aO (some o)] rfl rfl rfl rfl (Nat.le_of_ble_eq_true rfl) ms.1 (r_mul3 (by omega) ms V17 (by have := G_18.2.2.1; omega) xp17 (g17.rb (g15.rb (g13.rb (g11.rb (g9.rb (g7.rb (g5.rb xPr))))))) (g17.rb (g15.rb (g13.rb (g11.rb (g9.rb (g7.rb (g5.rb xQr))))))) (by omega)) ?_
      rintro _ _ ⟨p19, rfl, V19, rfl, g19, xp19⟩
      have G_20 := G_18.trans (g19.gs _)
      refine g_callVN [aO (some (o + 29)), aI ((p9 : Int)), aI ((p15 : Int)), aI ((p19 : Int))] [] rfl rfl rfl rfl (Nat.le_of_ble_eq_true rfl) ms.1 (m_put (by omega) ms V19 (by have := G_20.2.2.1; omega) ((o + 29)) (show SLa o ((o + 29)) by unfold SLa; omega) p9 p15 p19) ?_
      rintro _ ⟨V21, rfl, p21, g21, s21, xp21⟩
      have G_22 := G_20.trans (g21.wide (fun q hq => by have hq : q = o + 29 := hq; show q = o + 29; omega))
      refine g_aload_n rfl rfl ?_
      refine g_aload_n rfl rfl ?_
      refine g_getR rfl ms.1 (mr_got ms) ?_
      refine g_iconst rfl ?_
      refine g_callVI [aO (some (o + 29)), aI 0] [] rfl rfl rfl rfl (Nat.le_of_ble_eq_true rfl) ms.1 (m_keepT0 (by omega) ms V21 ok (g21.mt (show ¬((o + 4) = o + 29) by omega) (show ¬((o + 5) = o + 29) by omega) (g19.mt (g17.mt (g15.mt (g13.mt (g11.mt (g9.mt (g7.mt (g5.mt mt))))))))) (by have := G_22.2.2.1; omega) ((o + 29)) (show SLa o ((o + 29)) by unfold SLa; omega) (show SB V21 o (o + 29) (((((tpR S a).1) * ((tpR S b).2.2.1)) + (((tpR S b).1) * ((tpR S a).2.2.1)), (((tpR S a).2.1) * ((tpR S b).2.2.1)) + (((tpR S b).2.1) * ((tpR S a).2.2.1)), 2 * ((tpR S a).2.2.1) * ((tpR S b).2.2.1), 0)) (41) from ⟨_, _, _, _, s21, ((g21.rb (g19.rb (g17.rb (g15.rb (g13.rb (g11.rb xp9)))))).up (by omega)), ((g21.rb (g19.rb (g17.rb xp15))).up (by omega)), ((g21.rb xp19).up (by omega)), (xp21.up (by omega))⟩) (by omega)) ?_
      rintro r23 _ ⟨V23, rfl, k23, e23, m23⟩
      refine g_iret rfl ?_
      have ek : keepM S 0 (m_s3_O S a b) = keepT S 0 (lowK 0 (((((tpR S a).1) * ((tpR S b).2.2.1)) + (((tpR S b).1) * ((tpR S a).2.2.1)), (((tpR S a).2.1) * ((tpR S b).2.2.1)) + (((tpR S b).2.1) * ((tpR S a).2.2.1)), 2 * ((tpR S a).2.2.1) * ((tpR S b).2.2.1), 0))) := by
        have eo : m_s3_O S a b = some (((((tpR S a).1) * ((tpR S b).2.2.1)) + (((tpR S b).1) * ((tpR S a).2.2.1)), (((tpR S a).2.1) * ((tpR S b).2.2.1)) + (((tpR S b).2.1) * ((tpR S a).2.2.1)), 2 * ((tpR S a).2.2.1) * ((tpR S b).2.2.1), 0)) := by
          unfold m_s3_O
          exact if_neg (by omega)
        rw [eo]
        rfl
      rw [ek]
      exact ⟨_, rfl, (Gs.km G_22 k23 (fun q hq => by have hq : q = o + 29 := hq; show q = o + 29; omega)).mono (by omega), e23, m23⟩
    · skip
      refine g_bipush rfl ?_
      refine g_iret rfl ?_
      have ek : keepM S 0 (m_s3_O S a b) = (-3, S) := by
        have eo : m_s3_O S a b = none := by
          unfold m_s3_O
          exact if_pos (by omega)
        rw [eo]
        rfl
      rw [ek]
      exact ⟨V, rfl, KM.of (G0.mono (by omega)), rfl, mt⟩
def m_s5_O (S : aS) (a b : Int) : Option T4 := if (sTp S b.toNat 0 = 0 ∧ sTp S b.toNat 1 = 0) ∨ ((m_cross_S (tpR S a) ((tpR S b).2.1, -(tpR S b).1, 0, 0)).1 = 0 ∧ (m_cross_S (tpR S a) ((tpR S b).2.1, -(tpR S b).1, 0, 0)).2.1 = 0 ∧ (m_cross_S (tpR S a) ((tpR S b).2.1, -(tpR S b).1, 0, 0)).2.2.1 = 0) then none else some (m_cross_S (tpR S a) ((tpR S b).2.1, -(tpR S b).1, 0, 0))
set_option maxRecDepth 100000 in
set_option maxHeartbeats 4000000 in
theorem m_simple5 {w : aW} {d : Nat} (hd : 9 ≤ d) {h : aH} {o : Nat} (ms : MS h o) (V : Nat → Nat → Int) {S : aS} (ok : OkT S) (mt : MT V o S) (hF : 0 ≤ V o 1 ∧ V o 1 + 36 ≤ 700) (a : Int) (ha : 0 ≤ a ∧ a < sT S) (b : Int) (hb : 0 ≤ b ∧ b < sT S) (tP : SB V o (o + 24) (tpR S a) (20)) (tQ : SB V o (o + 25) (tpR S b) (20))  : WP w d 308 [aO (some o), aI 5, aI a, aI b] (hw h V) (RI (fun r h1 => ∃ V1, h1 = hw h V1 ∧ KM V V1 o 36 (fun q => q = o + 28 ∨ q = o + 29) ∧ r = (keepM S 1 (m_s5_O S a b)).1 ∧ MT V1 o (keepM S 1 (m_s5_O S a b)).2)) := by
  obtain ⟨d, rfl⟩ : ∃ d1, d = d1 + 1 := ⟨d - 1, by omega⟩
  refine WP.enter (cd := cd_X12_simple) rfl ?_
  have G0 := Gs.refl V o (fun q => q = o + 28 ∨ q = o + 29)
  obtain ⟨Pp, Pq, Pr, Ps, sP, xPp, xPq, xPr, xPs⟩ := tP
  obtain ⟨Qp, Qq, Qr, Qs, sQ, xQp, xQq, xQr, xQs⟩ := tQ
  have hn := ok.1
  have fa2 : (tpR S a).2.2.1 = sTp S a.toNat 2 := rfl
  have fb2 : (tpR S b).2.2.1 = sTp S b.toNat 2 := rfl
  have fa0 : (tpR S a).1 = sTp S a.toNat 0 := rfl
  have fb0 : (tpR S b).1 = sTp S b.toNat 0 := rfl
  have fa1 : (tpR S a).2.1 = sTp S a.toNat 1 := rfl
  have fb1 : (tpR S b).2.1 = sTp S b.toNat 1 := rfl
  have hls : largs 0 [aO (some o), aI 5, aI a, aI b] = [(0, aO (some o)), (1, aI 5), (2, aI a), (3, aI b)] := rfl
  rw [hls]
  clear hls
  refine g_iload_n rfl rfl ?_
  refine g_tsw (t := 278) rfl (by rfl) ?_
  refine g_aload_n rfl rfl ?_
  refine g_iload_n rfl rfl ?_
  refine g_callVI [aI b] [] rfl rfl rfl rfl (Nat.le_of_ble_eq_true rfl) ms.1 (m_isRim (by omega) ms V ok mt b hb) ?_
  rintro r1 _ ⟨rfl, e2⟩
  rw [e2]
  clear e2 r1
  refine g_b_eq rfl (fun c283 => ?_) (fun c283 => ?_)
  · skip
    refine g_iload_n rfl rfl ?_
    refine g_iconst rfl ?_
    refine g_icmp_ne_f rfl (by omega) ?_
    refine g_aload_n rfl rfl ?_
    refine g_aload_n rfl rfl ?_
    refine g_getR rfl ms.1 (mr_five ms) ?_
    refine g_aload_n rfl rfl ?_
    refine g_getR rfl ms.1 (mr_two ms) ?_
    refine g_iconst rfl ?_
    refine g_iald (i := 1) rfl (mt_two ms) (by omega) (by omega) ?_
    refine g_top (v2 := aI ((Qq : Int))) (congrArg aI (by exact sQ.2.1)) ?_
    refine g_aload_n rfl rfl ?_
    refine g_aload_n rfl rfl ?_
    refine g_getR rfl ms.1 (mr_two ms) ?_
    refine g_iconst rfl ?_
    refine g_iald (i := 0) rfl (mt_two ms) (by omega) (by omega) ?_
    refine g_top (v2 := aI ((Qp : Int))) (congrArg aI (by exact sQ.1)) ?_
    refine g_callVI [aI ((Qp : Int))] [aI ((Qq : Int)), aO (some (o + 28)), aO (some o)] rfl rfl rfl rfl (Nat.le_of_ble_eq_true rfl) ms.1 (r_neg (by omega) ms V (by have := G0.2.2.1; omega) xQp (by omega)) ?_
    rintro _ _ ⟨p3, rfl, V3, rfl, g3, xp3⟩
    have G_4 := G0.trans (g3.gs _)
    refine g_aload_n rfl rfl ?_
    refine g_lconst0 rfl ?_
    refine g_callVI [aJ 0] [aI ((p3 : Int)), aI ((Qq : Int)), aO (some (o + 28)), aO (some o)] rfl rfl rfl rfl (Nat.le_of_ble_eq_true rfl) ms.1 (r_num (by omega) ms V3 (by have := G_4.2.2.1; omega) 0 (by omega) 0 (by decide)) ?_
    rintro _ _ ⟨p5, rfl, V5, rfl, g5, xp5⟩
    have G_6 := G_4.trans (g5.gs _)
    refine g_callVN [aO (some (o + 28)), aI ((Qq : Int)), aI ((p3 : Int)), aI ((p5 : Int))] [] rfl rfl rfl rfl (Nat.le_of_ble_eq_true rfl) ms.1 (m_put (by omega) ms V5 (by have := G_6.2.2.1; omega) ((o + 28)) (show SLa o ((o + 28)) by unfold SLa; omega) Qq p3 p5) ?_
    rintro _ ⟨V7, rfl, p7, g7, s7, xp7⟩
    have G_8 := G_6.trans (g7.wide (fun q hq => by have hq : q = o + 28 := hq; show q = o + 28 ∨ q = o + 29; omega))
    refine g_aload_n rfl rfl ?_
    refine g_aload_n rfl rfl ?_
    refine g_getR rfl ms.1 (mr_one ms) ?_
    refine g_aload_n rfl rfl ?_
    refine g_getR rfl ms.1 (mr_five ms) ?_
    refine g_aload_n rfl rfl ?_
    refine g_getR rfl ms.1 (mr_got ms) ?_
    refine g_callVN [aO (some (o + 24)), aO (some (o + 28)), aO (some (o + 29))] [] rfl rfl rfl rfl (Nat.le_of_ble_eq_true rfl) ms.1 (m_cross (by omega) ms V7 (by have := G_8.2.2.1; omega) ((o + 24)) (show SLa o ((o + 24)) by unfold SLa; omega) (show SB V7 o (o + 24) (tpR S a) (20) from ⟨_, _, _, _, (g7.sa (show SLa o ((o + 24)) by unfold SLa; omega) (show ¬(o + 24 = o + 28) by omega) (g5.sa (show SLa o ((o + 24)) by unfold SLa; omega) (g3.sa (show SLa o ((o + 24)) by unfold SLa; omega) sP))), ((g7.rb (g5.rb (g3.rb xPp))).up (by omega)), ((g7.rb (g5.rb (g3.rb xPq))).up (by omega)), ((g7.rb (g5.rb (g3.rb xPr))).up (by omega)), ((g7.rb (g5.rb (g3.rb xPs))).up (by omega))⟩) ((o + 28)) (show SLa o ((o + 28)) by unfold SLa; omega) (show SB V7 o (o + 28) (((tpR S b).2.1, -((tpR S b).1), 0, 0)) (20) from ⟨_, _, _, _, s7, ((g7.rb (g5.rb (g3.rb xQq))).up (by omega)), ((g7.rb (g5.rb xp3)).up (by omega)), ((g7.rb xp5).up (by omega)), (xp7.up (by omega))⟩) ((o + 29)) (show SLa o ((o + 29)) by unfold SLa; omega) (by omega)) ?_
    rintro _ ⟨V9, rfl, g9, t9, u9, v9, y9, s9, xt9, xu9, xv9, xy9⟩
    have G_10 := G_8.trans (g9.wide (fun q hq => by have hq : q = o + 29 := hq; show q = o + 28 ∨ q = o + 29; omega))
    refine g_goto rfl ?_
    refine g_aload_n rfl rfl ?_
    refine g_aload_n rfl rfl ?_
    refine g_getR rfl ms.1 (mr_got ms) ?_
    refine g_callVI [aO (some (o + 29))] [] rfl rfl rfl rfl (Nat.le_of_ble_eq_true rfl) ms.1 (m_isZero (by omega) ms V9 ((o + 29)) (show SLa o ((o + 29)) by unfold SLa; omega) (show SB V9 o (o + 29) (m_cross_S (tpR S a) (((tpR S b).2.1, -((tpR S b).1), 0, 0))) (41) from ⟨_, _, _, _, s9, (xt9.up (by omega)), (xu9.up (by omega)), (xv9.up (by omega)), (xy9.up (by omega))⟩)) ?_
    rintro r11 _ ⟨rfl, e12⟩
    rw [e12]
    clear e12 r11
    refine g_b_eq rfl (fun c366 => ?_) (fun c366 => ?_)
    · skip
      refine g_aload_n rfl rfl ?_
      refine g_aload_n rfl rfl ?_
      refine g_getR rfl ms.1 (mr_got ms) ?_
      refine g_iconst rfl ?_
      refine g_callVI [aO (some (o + 29)), aI 1] [] rfl rfl rfl rfl (Nat.le_of_ble_eq_true rfl) ms.1 (m_keepT1 (by omega) ms V9 ok (g9.mt (show ¬((o + 4) = o + 29) by omega) (show ¬((o + 5) = o + 29) by omega) (g7.mt (show ¬((o + 4) = o + 28) by omega) (show ¬((o + 5) = o + 28) by omega) (g5.mt (g3.mt mt)))) (by have := G_10.2.2.1; omega) ((o + 29)) (show SLa o ((o + 29)) by unfold SLa; omega) (show SB V9 o (o + 29) (m_cross_S (tpR S a) (((tpR S b).2.1, -((tpR S b).1), 0, 0))) (41) from ⟨_, _, _, _, s9, (xt9.up (by omega)), (xu9.up (by omega)), (xv9.up (by omega)), (xy9.up (by omega))⟩) (by omega)) ?_
      rintro r13 _ ⟨V13, rfl, k13, e13, m13⟩
      refine g_iret rfl ?_
      have ek : keepM S 1 (m_s5_O S a b) = keepT S 1 (lowK 1 (m_cross_S (tpR S a) (((tpR S b).2.1, -((tpR S b).1), 0, 0)))) := by
        have eo : m_s5_O S a b = some (m_cross_S (tpR S a) (((tpR S b).2.1, -((tpR S b).1), 0, 0))) := by
          unfold m_s5_O
          exact if_neg (by omega)
        rw [eo]
        rfl
      rw [ek]
      exact ⟨_, rfl, (Gs.km G_10 k13 (fun q hq => by have hq : q = o + 29 := hq; show q = o + 28 ∨ q = o + 29; omega)).mono (by omega), e13, m13⟩
    · skip
      refine g_bipush rfl ?_
      refine g_goto rfl ?_
      refine g_iret rfl ?_
      have ek : keepM S 1 (m_s5_O S a b) = (-3, S) := by
        have eo : m_s5_O S a b = none := by
          unfold m_s5_O
          exact if_pos (by omega)
        rw [eo]
        rfl
      rw [ek]
      exact ⟨V9, rfl, KM.of (G_10.mono (by omega)), rfl, (g9.mt (show ¬((o + 4) = o + 29) by omega) (show ¬((o + 5) = o + 29) by omega) (g7.mt (show ¬((o + 4) = o + 28) by omega) (show ¬((o + 5) = o + 28) by omega) (g5.mt (g3.mt mt))))⟩
  · skip
    refine g_bipush rfl ?_
    refine g_iret rfl ?_
    have ek : keepM S 1 (m_s5_O S a b) = (-3, S) := by
      have eo : m_s5_O S a b = none := by
        unfold m_s5_O
        exact if_pos (by omega)
      rw [eo]
      rfl
    rw [ek]
    exact ⟨V, rfl, KM.of (G0.mono (by omega)), rfl, mt⟩
def m_s6_O (S : aS) (a b : Int) : Option T4 := if (sTp S b.toNat 0 = 0 ∧ sTp S b.toNat 1 = 0) ∨ ((m_upright_S (tpR S a) (tpR S b)).1 = 0 ∧ (m_upright_S (tpR S a) (tpR S b)).2.1 = 0 ∧ (m_upright_S (tpR S a) (tpR S b)).2.2.1 = 0) then none else some (m_upright_S (tpR S a) (tpR S b))
set_option maxRecDepth 100000 in
set_option maxHeartbeats 4000000 in
theorem m_simple6 {w : aW} {d : Nat} (hd : 9 ≤ d) {h : aH} {o : Nat} (ms : MS h o) (V : Nat → Nat → Int) {S : aS} (ok : OkT S) (mt : MT V o S) (hF : 0 ≤ V o 1 ∧ V o 1 + 34 ≤ 700) (a : Int) (ha : 0 ≤ a ∧ a < sT S) (b : Int) (hb : 0 ≤ b ∧ b < sT S) (tP : SB V o (o + 24) (tpR S a) (20)) (tQ : SB V o (o + 25) (tpR S b) (20))  : WP w d 308 [aO (some o), aI 6, aI a, aI b] (hw h V) (RI (fun r h1 => ∃ V1, h1 = hw h V1 ∧ KM V V1 o 34 (fun q => q = o + 28 ∨ q = o + 29) ∧ r = (keepM S 1 (m_s6_O S a b)).1 ∧ MT V1 o (keepM S 1 (m_s6_O S a b)).2)) := by
  obtain ⟨d, rfl⟩ : ∃ d1, d = d1 + 1 := ⟨d - 1, by omega⟩
  refine WP.enter (cd := cd_X12_simple) rfl ?_
  have G0 := Gs.refl V o (fun q => q = o + 28 ∨ q = o + 29)
  obtain ⟨Pp, Pq, Pr, Ps, sP, xPp, xPq, xPr, xPs⟩ := tP
  obtain ⟨Qp, Qq, Qr, Qs, sQ, xQp, xQq, xQr, xQs⟩ := tQ
  have hn := ok.1
  have fa2 : (tpR S a).2.2.1 = sTp S a.toNat 2 := rfl
  have fb2 : (tpR S b).2.2.1 = sTp S b.toNat 2 := rfl
  have fa0 : (tpR S a).1 = sTp S a.toNat 0 := rfl
  have fb0 : (tpR S b).1 = sTp S b.toNat 0 := rfl
  have fa1 : (tpR S a).2.1 = sTp S a.toNat 1 := rfl
  have fb1 : (tpR S b).2.1 = sTp S b.toNat 1 := rfl
  have hls : largs 0 [aO (some o), aI 6, aI a, aI b] = [(0, aO (some o)), (1, aI 6), (2, aI a), (3, aI b)] := rfl
  rw [hls]
  clear hls
  refine g_iload_n rfl rfl ?_
  refine g_tsw (t := 278) rfl (by rfl) ?_
  refine g_aload_n rfl rfl ?_
  refine g_iload_n rfl rfl ?_
  refine g_callVI [aI b] [] rfl rfl rfl rfl (Nat.le_of_ble_eq_true rfl) ms.1 (m_isRim (by omega) ms V ok mt b hb) ?_
  rintro r1 _ ⟨rfl, e2⟩
  rw [e2]
  clear e2 r1
  refine g_b_eq rfl (fun c283 => ?_) (fun c283 => ?_)
  · skip
    refine g_iload_n rfl rfl ?_
    refine g_iconst rfl ?_
    refine g_icmp_ne_t rfl (by omega) ?_
    refine g_aload_n rfl rfl ?_
    refine g_aload_n rfl rfl ?_
    refine g_getR rfl ms.1 (mr_one ms) ?_
    refine g_aload_n rfl rfl ?_
    refine g_getR rfl ms.1 (mr_two ms) ?_
    refine g_aload_n rfl rfl ?_
    refine g_getR rfl ms.1 (mr_got ms) ?_
    refine g_callVN [aO (some (o + 24)), aO (some (o + 25)), aO (some (o + 29))] [] rfl rfl rfl rfl (Nat.le_of_ble_eq_true rfl) ms.1 (m_upright (by omega) ms V (by have := G0.2.2.1; omega) ((o + 24)) (show SLa o ((o + 24)) by unfold SLa; omega) (show SB V o (o + 24) (tpR S a) (20) from ⟨_, _, _, _, sP, (xPp.up (by omega)), (xPq.up (by omega)), (xPr.up (by omega)), (xPs.up (by omega))⟩) ((o + 25)) (show SLa o ((o + 25)) by unfold SLa; omega) (show SB V o (o + 25) (tpR S b) (42) from ⟨_, _, _, _, sQ, (xQp.up (by omega)), (xQq.up (by omega)), (xQr.up (by omega)), (xQs.up (by omega))⟩) ((o + 29)) (show SLa o ((o + 29)) by unfold SLa; omega) (by omega)) ?_
    rintro _ ⟨V3, rfl, g3, t3, u3, v3, y3, s3, xt3, xu3, xv3, xy3⟩
    have G_4 := G0.trans (g3.wide (fun q hq => by have hq : q = o + 28 ∨ q = o + 29 := hq; show q = o + 28 ∨ q = o + 29; omega))
    refine g_aload_n rfl rfl ?_
    refine g_aload_n rfl rfl ?_
    refine g_getR rfl ms.1 (mr_got ms) ?_
    refine g_callVI [aO (some (o + 29))] [] rfl rfl rfl rfl (Nat.le_of_ble_eq_true rfl) ms.1 (m_isZero (by omega) ms V3 ((o + 29)) (show SLa o ((o + 29)) by unfold SLa; omega) (show SB V3 o (o + 29) (m_upright_S (tpR S a) (tpR S b)) (85) from ⟨_, _, _, _, s3, (xt3.up (by omega)), (xu3.up (by omega)), (xv3.up (by omega)), (xy3.up (by omega))⟩)) ?_
    rintro r5 _ ⟨rfl, e6⟩
    rw [e6]
    clear e6 r5
    refine g_b_eq rfl (fun c366 => ?_) (fun c366 => ?_)
    · skip
      refine g_aload_n rfl rfl ?_
      refine g_aload_n rfl rfl ?_
      refine g_getR rfl ms.1 (mr_got ms) ?_
      refine g_iconst rfl ?_
      refine g_callVI [aO (some (o + 29)), aI 1] [] rfl rfl rfl rfl (Nat.le_of_ble_eq_true rfl) ms.1 (m_keepT1 (by omega) ms V3 ok (g3.mt (show ¬((o + 4) = o + 28 ∨ (o + 4) = o + 29) by omega) (show ¬((o + 5) = o + 28 ∨ (o + 5) = o + 29) by omega) mt) (by have := G_4.2.2.1; omega) ((o + 29)) (show SLa o ((o + 29)) by unfold SLa; omega) (show SB V3 o (o + 29) (m_upright_S (tpR S a) (tpR S b)) (85) from ⟨_, _, _, _, s3, (xt3.up (by omega)), (xu3.up (by omega)), (xv3.up (by omega)), (xy3.up (by omega))⟩) (by omega)) ?_
      rintro r7 _ ⟨V7, rfl, k7, e7, m7⟩
      refine g_iret rfl ?_
      have ek : keepM S 1 (m_s6_O S a b) = keepT S 1 (lowK 1 (m_upright_S (tpR S a) (tpR S b))) := by
        have eo : m_s6_O S a b = some (m_upright_S (tpR S a) (tpR S b)) := by
          unfold m_s6_O
          exact if_neg (by omega)
        rw [eo]
        rfl
      rw [ek]
      exact ⟨_, rfl, (Gs.km G_4 k7 (fun q hq => by have hq : q = o + 29 := hq; show q = o + 28 ∨ q = o + 29; omega)).mono (by omega), e7, m7⟩
    · skip
      refine g_bipush rfl ?_
      refine g_goto rfl ?_
      refine g_iret rfl ?_
      have ek : keepM S 1 (m_s6_O S a b) = (-3, S) := by
        have eo : m_s6_O S a b = none := by
          unfold m_s6_O
          exact if_pos (by omega)
        rw [eo]
        rfl
      rw [ek]
      exact ⟨V3, rfl, KM.of (G_4.mono (by omega)), rfl, (g3.mt (show ¬((o + 4) = o + 28 ∨ (o + 4) = o + 29) by omega) (show ¬((o + 5) = o + 28 ∨ (o + 5) = o + 29) by omega) mt)⟩
  · skip
    refine g_bipush rfl ?_
    refine g_iret rfl ?_
    have ek : keepM S 1 (m_s6_O S a b) = (-3, S) := by
      have eo : m_s6_O S a b = none := by
        unfold m_s6_O
        exact if_pos (by omega)
      rw [eo]
      rfl
    rw [ek]
    exact ⟨V, rfl, KM.of (G0.mono (by omega)), rfl, mt⟩
def m_s8_O (S : aS) (a b : Int) : Option T4 := if sTp S a.toNat 2 = 0 ∨ ((((2 * (tpR S b).1 * (tpR S a).1) + ((tpR S b).2.1 * (tpR S a).2.2.1)) * ((2 * (tpR S b).1 * (tpR S a).1) + ((tpR S b).2.1 * (tpR S a).2.2.1))) + (((2 * (tpR S b).1 * (tpR S a).2.1) + ((tpR S b).2.2.1 * (tpR S a).2.2.1)) * ((2 * (tpR S b).1 * (tpR S a).2.1) + ((tpR S b).2.2.1 * (tpR S a).2.2.1)))) = 0 then none else some ((((m_bulge_S (tpR S b)) * (tpR S a).2.2.1) * ((2 * (tpR S b).1 * (tpR S a).1) + ((tpR S b).2.1 * (tpR S a).2.2.1))) - ((tpR S b).2.1 * ((((2 * (tpR S b).1 * (tpR S a).1) + ((tpR S b).2.1 * (tpR S a).2.2.1)) * ((2 * (tpR S b).1 * (tpR S a).1) + ((tpR S b).2.1 * (tpR S a).2.2.1))) + (((2 * (tpR S b).1 * (tpR S a).2.1) + ((tpR S b).2.2.1 * (tpR S a).2.2.1)) * ((2 * (tpR S b).1 * (tpR S a).2.1) + ((tpR S b).2.2.1 * (tpR S a).2.2.1))))), (((m_bulge_S (tpR S b)) * (tpR S a).2.2.1) * ((2 * (tpR S b).1 * (tpR S a).2.1) + ((tpR S b).2.2.1 * (tpR S a).2.2.1))) - ((tpR S b).2.2.1 * ((((2 * (tpR S b).1 * (tpR S a).1) + ((tpR S b).2.1 * (tpR S a).2.2.1)) * ((2 * (tpR S b).1 * (tpR S a).1) + ((tpR S b).2.1 * (tpR S a).2.2.1))) + (((2 * (tpR S b).1 * (tpR S a).2.1) + ((tpR S b).2.2.1 * (tpR S a).2.2.1)) * ((2 * (tpR S b).1 * (tpR S a).2.1) + ((tpR S b).2.2.1 * (tpR S a).2.2.1))))), 2 * (tpR S b).1 * ((((2 * (tpR S b).1 * (tpR S a).1) + ((tpR S b).2.1 * (tpR S a).2.2.1)) * ((2 * (tpR S b).1 * (tpR S a).1) + ((tpR S b).2.1 * (tpR S a).2.2.1))) + (((2 * (tpR S b).1 * (tpR S a).2.1) + ((tpR S b).2.2.1 * (tpR S a).2.2.1)) * ((2 * (tpR S b).1 * (tpR S a).2.1) + ((tpR S b).2.2.1 * (tpR S a).2.2.1)))), 0)
set_option maxRecDepth 100000 in
set_option maxHeartbeats 4000000 in
theorem m_round8 {w : aW} {d : Nat} (hd : 9 ≤ d) {h : aH} {o : Nat} (ms : MS h o) (V : Nat → Nat → Int) {S : aS} (ok : OkT S) (mt : MT V o S) (hF : 0 ≤ V o 1 ∧ V o 1 + 53 ≤ 700) (a : Int) (ha : 0 ≤ a ∧ a < sT S) (b : Int) (hb : 0 ≤ b ∧ b < sT S) (tP : SB V o (o + 24) (tpR S a) (20)) (tQ : SB V o (o + 25) (tpR S b) (20))  : WP w d 309 [aO (some o), aI 8, aI a, aI b] (hw h V) (RI (fun r h1 => ∃ V1, h1 = hw h V1 ∧ KM V V1 o 53 (fun q => q = o + 29) ∧ r = (keepM S 0 (m_s8_O S a b)).1 ∧ MT V1 o (keepM S 0 (m_s8_O S a b)).2)) := by
  obtain ⟨d, rfl⟩ : ∃ d1, d = d1 + 1 := ⟨d - 1, by omega⟩
  refine WP.enter (cd := cd_X12_round) rfl ?_
  have G0 := Gs.refl V o (fun q => q = o + 29)
  obtain ⟨Pp, Pq, Pr, Ps, sP, xPp, xPq, xPr, xPs⟩ := tP
  obtain ⟨Qp, Qq, Qr, Qs, sQ, xQp, xQq, xQr, xQs⟩ := tQ
  have hn := ok.1
  have fa2 : (tpR S a).2.2.1 = sTp S a.toNat 2 := rfl
  have fb2 : (tpR S b).2.2.1 = sTp S b.toNat 2 := rfl
  have fa0 : (tpR S a).1 = sTp S a.toNat 0 := rfl
  have fb0 : (tpR S b).1 = sTp S b.toNat 0 := rfl
  have fa1 : (tpR S a).2.1 = sTp S a.toNat 1 := rfl
  have fb1 : (tpR S b).2.1 = sTp S b.toNat 1 := rfl
  have l0 := @lcmp_0 (((((2 * (tpR S b).1 * (tpR S a).1) + ((tpR S b).2.1 * (tpR S a).2.2.1)) * ((2 * (tpR S b).1 * (tpR S a).1) + ((tpR S b).2.1 * (tpR S a).2.2.1))) + (((2 * (tpR S b).1 * (tpR S a).2.1) + ((tpR S b).2.2.1 * (tpR S a).2.2.1)) * ((2 * (tpR S b).1 * (tpR S a).2.1) + ((tpR S b).2.2.1 * (tpR S a).2.2.1))))) 0
  have hls : largs 0 [aO (some o), aI 8, aI a, aI b] = [(0, aO (some o)), (1, aI 8), (2, aI a), (3, aI b)] := rfl
  rw [hls]
  clear hls
  refine g_iload_n rfl rfl ?_
  refine g_tsw (t := 32) rfl (by rfl) ?_
  refine g_aload_n rfl rfl ?_
  refine g_iload_n rfl rfl ?_
  refine g_callVI [aI a] [] rfl rfl rfl rfl (Nat.le_of_ble_eq_true rfl) ms.1 (m_isFar (by omega) ms V ok mt a ha) ?_
  rintro r1 _ ⟨rfl, e2⟩
  rw [e2]
  clear e2 r1
  refine g_b_eq rfl (fun c37 => ?_) (fun c37 => ?_)
  · skip
    refine g_aload_n rfl rfl ?_
    refine g_aload_n rfl rfl ?_
    refine g_aload_n rfl rfl ?_
    refine g_ldc2 rfl ?_
    refine g_callVI [aJ 2] [aO (some o), aO (some o)] rfl rfl rfl rfl (Nat.le_of_ble_eq_true rfl) ms.1 (r_num (by omega) ms V (by have := G0.2.2.1; omega) 2 (by omega) 1 (by decide)) ?_
    rintro _ _ ⟨p3, rfl, V3, rfl, g3, xp3⟩
    have G_4 := G0.trans (g3.gs _)
    refine g_aload_n rfl rfl ?_
    refine g_getR rfl ms.1 (mr_two ms) ?_
    refine g_iconst rfl ?_
    refine g_iald (i := 0) rfl (mt_two ms) (by omega) (by omega) ?_
    refine g_top (v2 := aI ((Qp : Int))) (congrArg aI (by exact (g3.sa (show SLa o ((o + 25)) by unfold SLa; omega) sQ).1)) ?_
    refine g_aload_n rfl rfl ?_
    refine g_getR rfl ms.1 (mr_one ms) ?_
    refine g_iconst rfl ?_
    refine g_iald (i := 0) rfl (mt_one ms) (by omega) (by omega) ?_
    refine g_top (v2 := aI ((Pp : Int))) (congrArg aI (by exact (g3.sa (show SLa o ((o + 24)) by unfold SLa; omega) sP).1)) ?_
    refine g_callVI [aI ((p3 : Int)), aI ((Qp : Int)), aI ((Pp : Int))] [aO (some o)] rfl rfl rfl rfl (Nat.le_of_ble_eq_true rfl) ms.1 (r_mul3 (by omega) ms V3 (by have := G_4.2.2.1; omega) xp3 (g3.rb xQp) (g3.rb xPp) (by omega)) ?_
    rintro _ _ ⟨p5, rfl, V5, rfl, g5, xp5⟩
    have G_6 := G_4.trans (g5.gs _)
    refine g_aload_n rfl rfl ?_
    refine g_aload_n rfl rfl ?_
    refine g_getR rfl ms.1 (mr_two ms) ?_
    refine g_iconst rfl ?_
    refine g_iald (i := 1) rfl (mt_two ms) (by omega) (by omega) ?_
    refine g_top (v2 := aI ((Qq : Int))) (congrArg aI (by exact (g5.sa (show SLa o ((o + 25)) by unfold SLa; omega) (g3.sa (show SLa o ((o + 25)) by unfold SLa; omega) sQ)).2.1)) ?_
    refine g_aload_n rfl rfl ?_
    refine g_getR rfl ms.1 (mr_one ms) ?_
    refine g_iconst rfl ?_
    refine g_iald (i := 2) rfl (mt_one ms) (by omega) (by omega) ?_
    refine g_top (v2 := aI ((Pr : Int))) (congrArg aI (by exact (g5.sa (show SLa o ((o + 24)) by unfold SLa; omega) (g3.sa (show SLa o ((o + 24)) by unfold SLa; omega) sP)).2.2.1)) ?_
    refine g_callVI [aI ((Qq : Int)), aI ((Pr : Int))] [aI ((p5 : Int)), aO (some o)] rfl rfl rfl rfl (Nat.le_of_ble_eq_true rfl) ms.1 (r_mul (by omega) ms V5 (by have := G_6.2.2.1; omega) (g5.rb (g3.rb xQq)) (g5.rb (g3.rb xPr)) (by omega)) ?_
    rintro _ _ ⟨p7, rfl, V7, rfl, g7, xp7⟩
    have G_8 := G_6.trans (g7.gs _)
    refine g_callVI [aI ((p5 : Int)), aI ((p7 : Int))] [] rfl rfl rfl rfl (Nat.le_of_ble_eq_true rfl) ms.1 (r_add (by omega) ms V7 (by have := G_8.2.2.1; omega) (g7.rb xp5) xp7 (42) (by omega) (by omega) (by omega)) ?_
    rintro _ _ ⟨p9, rfl, V9, rfl, g9, xp9⟩
    have G_10 := G_8.trans (g9.gs _)
    refine g_istore (l1 := [(4, aI ((p9 : Int))), (0, aO (some o)), (1, aI 8), (2, aI a), (3, aI b)]) rfl rfl ?_
    refine g_aload_n rfl rfl ?_
    refine g_aload_n rfl rfl ?_
    refine g_aload_n rfl rfl ?_
    refine g_ldc2 rfl ?_
    refine g_callVI [aJ 2] [aO (some o), aO (some o)] rfl rfl rfl rfl (Nat.le_of_ble_eq_true rfl) ms.1 (r_num (by omega) ms V9 (by have := G_10.2.2.1; omega) 2 (by omega) 1 (by decide)) ?_
    rintro _ _ ⟨p11, rfl, V11, rfl, g11, xp11⟩
    have G_12 := G_10.trans (g11.gs _)
    refine g_aload_n rfl rfl ?_
    refine g_getR rfl ms.1 (mr_two ms) ?_
    refine g_iconst rfl ?_
    refine g_iald (i := 0) rfl (mt_two ms) (by omega) (by omega) ?_
    refine g_top (v2 := aI ((Qp : Int))) (congrArg aI (by exact (g11.sa (show SLa o ((o + 25)) by unfold SLa; omega) (g9.sa (show SLa o ((o + 25)) by unfold SLa; omega) (g7.sa (show SLa o ((o + 25)) by unfold SLa; omega) (g5.sa (show SLa o ((o + 25)) by unfold SLa; omega) (g3.sa (show SLa o ((o + 25)) by unfold SLa; omega) sQ))))).1)) ?_
    refine g_aload_n rfl rfl ?_
    refine g_getR rfl ms.1 (mr_one ms) ?_
    refine g_iconst rfl ?_
    refine g_iald (i := 1) rfl (mt_one ms) (by omega) (by omega) ?_
    refine g_top (v2 := aI ((Pq : Int))) (congrArg aI (by exact (g11.sa (show SLa o ((o + 24)) by unfold SLa; omega) (g9.sa (show SLa o ((o + 24)) by unfold SLa; omega) (g7.sa (show SLa o ((o + 24)) by unfold SLa; omega) (g5.sa (show SLa o ((o + 24)) by unfold SLa; omega) (g3.sa (show SLa o ((o + 24)) by unfold SLa; omega) sP))))).2.1)) ?_
    refine g_callVI [aI ((p11 : Int)), aI ((Qp : Int)), aI ((Pq : Int))] [aO (some o)] rfl rfl rfl rfl (Nat.le_of_ble_eq_true rfl) ms.1 (r_mul3 (by omega) ms V11 (by have := G_12.2.2.1; omega) xp11 (g11.rb (g9.rb (g7.rb (g5.rb (g3.rb xQp))))) (g11.rb (g9.rb (g7.rb (g5.rb (g3.rb xPq))))) (by omega)) ?_
    rintro _ _ ⟨p13, rfl, V13, rfl, g13, xp13⟩
    have G_14 := G_12.trans (g13.gs _)
    refine g_aload_n rfl rfl ?_
    refine g_aload_n rfl rfl ?_
    refine g_getR rfl ms.1 (mr_two ms) ?_
    refine g_iconst rfl ?_
    refine g_iald (i := 2) rfl (mt_two ms) (by omega) (by omega) ?_
    refine g_top (v2 := aI ((Qr : Int))) (congrArg aI (by exact (g13.sa (show SLa o ((o + 25)) by unfold SLa; omega) (g11.sa (show SLa o ((o + 25)) by unfold SLa; omega) (g9.sa (show SLa o ((o + 25)) by unfold SLa; omega) (g7.sa (show SLa o ((o + 25)) by unfold SLa; omega) (g5.sa (show SLa o ((o + 25)) by unfold SLa; omega) (g3.sa (show SLa o ((o + 25)) by unfold SLa; omega) sQ)))))).2.2.1)) ?_
    refine g_aload_n rfl rfl ?_
    refine g_getR rfl ms.1 (mr_one ms) ?_
    refine g_iconst rfl ?_
    refine g_iald (i := 2) rfl (mt_one ms) (by omega) (by omega) ?_
    refine g_top (v2 := aI ((Pr : Int))) (congrArg aI (by exact (g13.sa (show SLa o ((o + 24)) by unfold SLa; omega) (g11.sa (show SLa o ((o + 24)) by unfold SLa; omega) (g9.sa (show SLa o ((o + 24)) by unfold SLa; omega) (g7.sa (show SLa o ((o + 24)) by unfold SLa; omega) (g5.sa (show SLa o ((o + 24)) by unfold SLa; omega) (g3.sa (show SLa o ((o + 24)) by unfold SLa; omega) sP)))))).2.2.1)) ?_
    refine g_callVI [aI ((Qr : Int)), aI ((Pr : Int))] [aI ((p13 : Int)), aO (some o)] rfl rfl rfl rfl (Nat.le_of_ble_eq_true rfl) ms.1 (r_mul (by omega) ms V13 (by have := G_14.2.2.1; omega) (g13.rb (g11.rb (g9.rb (g7.rb (g5.rb (g3.rb xQr)))))) (g13.rb (g11.rb (g9.rb (g7.rb (g5.rb (g3.rb xPr)))))) (by omega)) ?_
    rintro _ _ ⟨p15, rfl, V15, rfl, g15, xp15⟩
    have G_16 := G_14.trans (g15.gs _)
    refine g_callVI [aI ((p13 : Int)), aI ((p15 : Int))] [] rfl rfl rfl rfl (Nat.le_of_ble_eq_true rfl) ms.1 (r_add (by omega) ms V15 (by have := G_16.2.2.1; omega) (g15.rb xp13) xp15 (42) (by omega) (by omega) (by omega)) ?_
    rintro _ _ ⟨p17, rfl, V17, rfl, g17, xp17⟩
    have G_18 := G_16.trans (g17.gs _)
    refine g_istore (l1 := [(5, aI ((p17 : Int))), (4, aI ((p9 : Int))), (0, aO (some o)), (1, aI 8), (2, aI a), (3, aI b)]) rfl rfl ?_
    refine g_aload_n rfl rfl ?_
    refine g_aload_n rfl rfl ?_
    refine g_iload rfl rfl ?_
    refine g_callVI [aI ((p9 : Int))] [aO (some o)] rfl rfl rfl rfl (Nat.le_of_ble_eq_true rfl) ms.1 (r_square (by omega) ms V17 (by have := G_18.2.2.1; omega) (g17.rb (g15.rb (g13.rb (g11.rb xp9)))) (by omega)) ?_
    rintro _ _ ⟨p19, rfl, V19, rfl, g19, xp19⟩
    have G_20 := G_18.trans (g19.gs _)
    refine g_aload_n rfl rfl ?_
    refine g_iload rfl rfl ?_
    refine g_callVI [aI ((p17 : Int))] [aI ((p19 : Int)), aO (some o)] rfl rfl rfl rfl (Nat.le_of_ble_eq_true rfl) ms.1 (r_square (by omega) ms V19 (by have := G_20.2.2.1; omega) (g19.rb xp17) (by omega)) ?_
    rintro _ _ ⟨p21, rfl, V21, rfl, g21, xp21⟩
    have G_22 := G_20.trans (g21.gs _)
    refine g_callVI [aI ((p19 : Int)), aI ((p21 : Int))] [] rfl rfl rfl rfl (Nat.le_of_ble_eq_true rfl) ms.1 (r_add (by omega) ms V21 (by have := G_22.2.2.1; omega) (g21.rb xp19) xp21 (85) (by omega) (by omega) (by omega)) ?_
    rintro _ _ ⟨p23, rfl, V23, rfl, g23, xp23⟩
    have G_24 := G_22.trans (g23.gs _)
    refine g_istore (l1 := [(6, aI ((p23 : Int))), (5, aI ((p17 : Int))), (4, aI ((p9 : Int))), (0, aO (some o)), (1, aI 8), (2, aI a), (3, aI b)]) rfl rfl ?_
    refine g_aload_n rfl rfl ?_
    refine g_iload rfl rfl ?_
    refine g_callVI [aI ((p23 : Int))] [] rfl rfl rfl rfl (Nat.le_of_ble_eq_true rfl) ms.1 (r_sign (by omega) ms V23 xp23) ?_
    rintro r25 _ ⟨rfl, e26⟩
    rw [e26]
    clear e26 r25
    refine g_if_ne rfl (fun c157 => ?_) (fun c157 => ?_)
    · skip
      refine g_aload_n rfl rfl ?_
      refine g_aload_n rfl rfl ?_
      refine g_aload_n rfl rfl ?_
      refine g_getR rfl ms.1 (mr_two ms) ?_
      refine g_callVI [aO (some (o + 25))] [aO (some o)] rfl rfl rfl rfl (Nat.le_of_ble_eq_true rfl) ms.1 (m_bulge (by omega) ms V23 (by have := G_24.2.2.1; omega) ((o + 25)) (show SLa o ((o + 25)) by unfold SLa; omega) (show SB V23 o (o + 25) (tpR S b) (20) from ⟨_, _, _, _, (g23.sa (show SLa o ((o + 25)) by unfold SLa; omega) (g21.sa (show SLa o ((o + 25)) by unfold SLa; omega) (g19.sa (show SLa o ((o + 25)) by unfold SLa; omega) (g17.sa (show SLa o ((o + 25)) by unfold SLa; omega) (g15.sa (show SLa o ((o + 25)) by unfold SLa; omega) (g13.sa (show SLa o ((o + 25)) by unfold SLa; omega) (g11.sa (show SLa o ((o + 25)) by unfold SLa; omega) (g9.sa (show SLa o ((o + 25)) by unfold SLa; omega) (g7.sa (show SLa o ((o + 25)) by unfold SLa; omega) (g5.sa (show SLa o ((o + 25)) by unfold SLa; omega) (g3.sa (show SLa o ((o + 25)) by unfold SLa; omega) sQ))))))))))), ((g23.rb (g21.rb (g19.rb (g17.rb (g15.rb (g13.rb (g11.rb (g9.rb (g7.rb (g5.rb (g3.rb xQp))))))))))).up (by omega)), ((g23.rb (g21.rb (g19.rb (g17.rb (g15.rb (g13.rb (g11.rb (g9.rb (g7.rb (g5.rb (g3.rb xQq))))))))))).up (by omega)), ((g23.rb (g21.rb (g19.rb (g17.rb (g15.rb (g13.rb (g11.rb (g9.rb (g7.rb (g5.rb (g3.rb xQr))))))))))).up (by omega)), ((g23.rb (g21.rb (g19.rb (g17.rb (g15.rb (g13.rb (g11.rb (g9.rb (g7.rb (g5.rb (g3.rb xQs))))))))))).up (by omega))⟩)) ?_
      rintro _ _ ⟨p27, rfl, V27, rfl, g27, xp27⟩
      have G_28 := G_24.trans (g27.gs _)
      refine g_aload_n rfl rfl ?_
      refine g_getR rfl ms.1 (mr_one ms) ?_
      refine g_iconst rfl ?_
      refine g_iald (i := 2) rfl (mt_one ms) (by omega) (by omega) ?_
      refine g_top (v2 := aI ((Pr : Int))) (congrArg aI (by exact (g27.sa (show SLa o ((o + 24)) by unfold SLa; omega) (g23.sa (show SLa o ((o + 24)) by unfold SLa; omega) (g21.sa (show SLa o ((o + 24)) by unfold SLa; omega) (g19.sa (show SLa o ((o + 24)) by unfold SLa; omega) (g17.sa (show SLa o ((o + 24)) by unfold SLa; omega) (g15.sa (show SLa o ((o + 24)) by unfold SLa; omega) (g13.sa (show SLa o ((o + 24)) by unfold SLa; omega) (g11.sa (show SLa o ((o + 24)) by unfold SLa; omega) (g9.sa (show SLa o ((o + 24)) by unfold SLa; omega) (g7.sa (show SLa o ((o + 24)) by unfold SLa; omega) (g5.sa (show SLa o ((o + 24)) by unfold SLa; omega) (g3.sa (show SLa o ((o + 24)) by unfold SLa; omega) sP)))))))))))).2.2.1)) ?_
      refine g_callVI [aI ((p27 : Int)), aI ((Pr : Int))] [] rfl rfl rfl rfl (Nat.le_of_ble_eq_true rfl) ms.1 (r_mul (by omega) ms V27 (by have := G_28.2.2.1; omega) xp27 (g27.rb (g23.rb (g21.rb (g19.rb (g17.rb (g15.rb (g13.rb (g11.rb (g9.rb (g7.rb (g5.rb (g3.rb xPr)))))))))))) (by omega)) ?_
      rintro _ _ ⟨p29, rfl, V29, rfl, g29, xp29⟩
      have G_30 := G_28.trans (g29.gs _)
      refine g_istore (l1 := [(7, aI ((p29 : Int))), (6, aI ((p23 : Int))), (5, aI ((p17 : Int))), (4, aI ((p9 : Int))), (0, aO (some o)), (1, aI 8), (2, aI a), (3, aI b)]) rfl rfl ?_
      refine g_aload_n rfl rfl ?_
      refine g_aload_n rfl rfl ?_
      refine g_getR rfl ms.1 (mr_got ms) ?_
      refine g_aload_n rfl rfl ?_
      refine g_aload_n rfl rfl ?_
      refine g_iload rfl rfl ?_
      refine g_iload rfl rfl ?_
      refine g_callVI [aI ((p29 : Int)), aI ((p9 : Int))] [aO (some o), aO (some (o + 29)), aO (some o)] rfl rfl rfl rfl (Nat.le_of_ble_eq_true rfl) ms.1 (r_mul (by omega) ms V29 (by have := G_30.2.2.1; omega) xp29 (g29.rb (g27.rb (g23.rb (g21.rb (g19.rb (g17.rb (g15.rb (g13.rb (g11.rb xp9))))))))) (by omega)) ?_
      rintro _ _ ⟨p31, rfl, V31, rfl, g31, xp31⟩
      have G_32 := G_30.trans (g31.gs _)
      refine g_aload_n rfl rfl ?_
      refine g_aload_n rfl rfl ?_
      refine g_getR rfl ms.1 (mr_two ms) ?_
      refine g_iconst rfl ?_
      refine g_iald (i := 1) rfl (mt_two ms) (by omega) (by omega) ?_
      refine g_top (v2 := aI ((Qq : Int))) (congrArg aI (by exact (g31.sa (show SLa o ((o + 25)) by unfold SLa; omega) (g29.sa (show SLa o ((o + 25)) by unfold SLa; omega) (g27.sa (show SLa o ((o + 25)) by unfold SLa; omega) (g23.sa (show SLa o ((o + 25)) by unfold SLa; omega) (g21.sa (show SLa o ((o + 25)) by unfold SLa; omega) (g19.sa (show SLa o ((o + 25)) by unfold SLa; omega) (g17.sa (show SLa o ((o + 25)) by unfold SLa; omega) (g15.sa (show SLa o ((o + 25)) by unfold SLa; omega) (g13.sa (show SLa o ((o + 25)) by unfold SLa; omega) (g11.sa (show SLa o ((o + 25)) by unfold SLa; omega) (g9.sa (show SLa o ((o + 25)) by unfold SLa; omega) (g7.sa (show SLa o ((o + 25)) by unfold SLa; omega) (g5.sa (show SLa o ((o + 25)) by unfold SLa; omega) (g3.sa (show SLa o ((o + 25)) by unfold SLa; omega) sQ)))))))))))))).2.1)) ?_
      refine g_iload rfl rfl ?_
      refine g_callVI [aI ((Qq : Int)), aI ((p23 : Int))] [aI ((p31 : Int)), aO (some o), aO (some (o + 29)), aO (some o)] rfl rfl rfl rfl (Nat.le_of_ble_eq_true rfl) ms.1 (r_mul (by omega) ms V31 (by have := G_32.2.2.1; omega) (g31.rb (g29.rb (g27.rb (g23.rb (g21.rb (g19.rb (g17.rb (g15.rb (g13.rb (g11.rb (g9.rb (g7.rb (g5.rb (g3.rb xQq)))))))))))))) (g31.rb (g29.rb (g27.rb xp23))) (by omega)) ?_
      rintro _ _ ⟨p33, rfl, V33, rfl, g33, xp33⟩
      have G_34 := G_32.trans (g33.gs _)
      refine g_callVI [aI ((p31 : Int)), aI ((p33 : Int))] [aO (some (o + 29)), aO (some o)] rfl rfl rfl rfl (Nat.le_of_ble_eq_true rfl) ms.1 (r_sub (by omega) ms V33 (by have := G_34.2.2.1; omega) (g33.rb xp31) xp33 (106) (by omega) (by omega) (by omega)) ?_
      rintro _ _ ⟨p35, rfl, V35, rfl, g35, xp35⟩
      have G_36 := G_34.trans (g35.gs _)
      refine g_aload_n rfl rfl ?_
      refine g_aload_n rfl rfl ?_
      refine g_iload rfl rfl ?_
      refine g_iload rfl rfl ?_
      refine g_callVI [aI ((p29 : Int)), aI ((p17 : Int))] [aO (some o), aI ((p35 : Int)), aO (some (o + 29)), aO (some o)] rfl rfl rfl rfl (Nat.le_of_ble_eq_true rfl) ms.1 (r_mul (by omega) ms V35 (by have := G_36.2.2.1; omega) (g35.rb (g33.rb (g31.rb xp29))) (g35.rb (g33.rb (g31.rb (g29.rb (g27.rb (g23.rb (g21.rb (g19.rb xp17)))))))) (by omega)) ?_
      rintro _ _ ⟨p37, rfl, V37, rfl, g37, xp37⟩
      have G_38 := G_36.trans (g37.gs _)
      refine g_aload_n rfl rfl ?_
      refine g_aload_n rfl rfl ?_
      refine g_getR rfl ms.1 (mr_two ms) ?_
      refine g_iconst rfl ?_
      refine g_iald (i := 2) rfl (mt_two ms) (by omega) (by omega) ?_
      refine g_top (v2 := aI ((Qr : Int))) (congrArg aI (by exact (g37.sa (show SLa o ((o + 25)) by unfold SLa; omega) (g35.sa (show SLa o ((o + 25)) by unfold SLa; omega) (g33.sa (show SLa o ((o + 25)) by unfold SLa; omega) (g31.sa (show SLa o ((o + 25)) by unfold SLa; omega) (g29.sa (show SLa o ((o + 25)) by unfold SLa; omega) (g27.sa (show SLa o ((o + 25)) by unfold SLa; omega) (g23.sa (show SLa o ((o + 25)) by unfold SLa; omega) (g21.sa (show SLa o ((o + 25)) by unfold SLa; omega) (g19.sa (show SLa o ((o + 25)) by unfold SLa; omega) (g17.sa (show SLa o ((o + 25)) by unfold SLa; omega) (g15.sa (show SLa o ((o + 25)) by unfold SLa; omega) (g13.sa (show SLa o ((o + 25)) by unfold SLa; omega) (g11.sa (show SLa o ((o + 25)) by unfold SLa; omega) (g9.sa (show SLa o ((o + 25)) by unfold SLa; omega) (g7.sa (show SLa o ((o + 25)) by unfold SLa; omega) (g5.sa (show SLa o ((o + 25)) by unfold SLa; omega) (g3.sa (show SLa o ((o + 25)) by unfold SLa; omega) sQ))))))))))))))))).2.2.1)) ?_
      refine g_iload rfl rfl ?_
      refine g_callVI [aI ((Qr : Int)), aI ((p23 : Int))] [aI ((p37 : Int)), aO (some o), aI ((p35 : Int)), aO (some (o + 29)), aO (some o)] rfl rfl rfl rfl (Nat.le_of_ble_eq_true rfl) ms.1 (r_mul (by omega) ms V37 (by have := G_38.2.2.1; omega) (g37.rb (g35.rb (g33.rb (g31.rb (g29.rb (g27.rb (g23.rb (g21.rb (g19.rb (g17.rb (g15.rb (g13.rb (g11.rb (g9.rb (g7.rb (g5.rb (g3.rb xQr))))))))))))))))) (g37.rb (g35.rb (g33.rb (g31.rb (g29.rb (g27.rb xp23)))))) (by omega)) ?_
      rintro _ _ ⟨p39, rfl, V39, rfl, g39, xp39⟩
      have G_40 := G_38.trans (g39.gs _)
      refine g_callVI [aI ((p37 : Int)), aI ((p39 : Int))] [aI ((p35 : Int)), aO (some (o + 29)), aO (some o)] rfl rfl rfl rfl (Nat.le_of_ble_eq_true rfl) ms.1 (r_sub (by omega) ms V39 (by have := G_40.2.2.1; omega) (g39.rb xp37) xp39 (106) (by omega) (by omega) (by omega)) ?_
      rintro _ _ ⟨p41, rfl, V41, rfl, g41, xp41⟩
      have G_42 := G_40.trans (g41.gs _)
      refine g_aload_n rfl rfl ?_
      refine g_aload_n rfl rfl ?_
      refine g_ldc2 rfl ?_
      refine g_callVI [aJ 2] [aO (some o), aI ((p41 : Int)), aI ((p35 : Int)), aO (some (o + 29)), aO (some o)] rfl rfl rfl rfl (Nat.le_of_ble_eq_true rfl) ms.1 (r_num (by omega) ms V41 (by have := G_42.2.2.1; omega) 2 (by omega) 1 (by decide)) ?_
      rintro _ _ ⟨p43, rfl, V43, rfl, g43, xp43⟩
      have G_44 := G_42.trans (g43.gs _)
      refine g_aload_n rfl rfl ?_
      refine g_getR rfl ms.1 (mr_two ms) ?_
      refine g_iconst rfl ?_
      refine g_iald (i := 0) rfl (mt_two ms) (by omega) (by omega) ?_
      refine g_top (v2 := aI ((Qp : Int))) (congrArg aI (by exact (g43.sa (show SLa o ((o + 25)) by unfold SLa; omega) (g41.sa (show SLa o ((o + 25)) by unfold SLa; omega) (g39.sa (show SLa o ((o + 25)) by unfold SLa; omega) (g37.sa (show SLa o ((o + 25)) by unfold SLa; omega) (g35.sa (show SLa o ((o + 25)) by unfold SLa; omega) (g33.sa (show SLa o ((o + 25)) by unfold SLa; omega) (g31.sa (show SLa o ((o + 25)) by unfold SLa; omega) (g29.sa (show SLa o ((o + 25)) by unfold SLa; omega) (g27.sa (show SLa o ((o + 25)) by unfold SLa; omega) (g23.sa (show SLa o ((o + 25)) by unfold SLa; omega) (g21.sa (show SLa o ((o + 25)) by unfold SLa; omega) (g19.sa (show SLa o ((o + 25)) by unfold SLa; omega) (g17.sa (show SLa o ((o + 25)) by unfold SLa; omega) (g15.sa (show SLa o ((o + 25)) by unfold SLa; omega) (g13.sa (show SLa o ((o + 25)) by unfold SLa; omega) (g11.sa (show SLa o ((o + 25)) by unfold SLa; omega) (g9.sa (show SLa o ((o + 25)) by unfold SLa; omega) (g7.sa (show SLa o ((o + 25)) by unfold SLa; omega) (g5.sa (show SLa o ((o + 25)) by unfold SLa; omega) (g3.sa (show SLa o ((o + 25)) by unfold SLa; omega) sQ)))))))))))))))))))).1)) ?_
      refine g_iload rfl rfl ?_
      refine g_callVI [aI ((p43 : Int)), aI ((Qp : Int)), aI ((p23 : Int))] [aI ((p41 : Int)), aI ((p35 : Int)), aO (some (o + 29)), aO (some o)] rfl rfl rfl rfl (Nat.le_of_ble_eq_true rfl) ms.1 (r_mul3 (by omega) ms V43 (by have := G_44.2.2.1; omega) xp43 (g43.rb (g41.rb (g39.rb (g37.rb (g35.rb (g33.rb (g31.rb (g29.rb (g27.rb (g23.rb (g21.rb (g19.rb (g17.rb (g15.rb (g13.rb (g11.rb (g9.rb (g7.rb (g5.rb (g3.rb xQp)))))))))))))))))))) (g43.rb (g41.rb (g39.rb (g37.rb (g35.rb (g33.rb (g31.rb (g29.rb (g27.rb xp23))))))))) (by omega)) ?_
      rintro _ _ ⟨p45, rfl, V45, rfl, g45, xp45⟩
      have G_46 := G_44.trans (g45.gs _)
      refine g_callVN [aO (some (o + 29)), aI ((p35 : Int)), aI ((p41 : Int)), aI ((p45 : Int))] [] rfl rfl rfl rfl (Nat.le_of_ble_eq_true rfl) ms.1 (m_put (by omega) ms V45 (by have := G_46.2.2.1; omega) ((o + 29)) (show SLa o ((o + 29)) by unfold SLa; omega) p35 p41 p45) ?_
      rintro _ ⟨V47, rfl, p47, g47, s47, xp47⟩
      have G_48 := G_46.trans (g47.wide (fun q hq => by have hq : q = o + 29 := hq; show q = o + 29; omega))
      refine g_aload_n rfl rfl ?_
      refine g_aload_n rfl rfl ?_
      refine g_getR rfl ms.1 (mr_got ms) ?_
      refine g_iconst rfl ?_
      refine g_callVI [aO (some (o + 29)), aI 0] [] rfl rfl rfl rfl (Nat.le_of_ble_eq_true rfl) ms.1 (m_keepT0 (by omega) ms V47 ok (g47.mt (show ¬((o + 4) = o + 29) by omega) (show ¬((o + 5) = o + 29) by omega) (g45.mt (g43.mt (g41.mt (g39.mt (g37.mt (g35.mt (g33.mt (g31.mt (g29.mt (g27.mt (g23.mt (g21.mt (g19.mt (g17.mt (g15.mt (g13.mt (g11.mt (g9.mt (g7.mt (g5.mt (g3.mt mt)))))))))))))))))))))) (by have := G_48.2.2.1; omega) ((o + 29)) (show SLa o ((o + 29)) by unfold SLa; omega) (show SB V47 o (o + 29) (((((m_bulge_S (tpR S b)) * ((tpR S a).2.2.1)) * ((2 * ((tpR S b).1) * ((tpR S a).1)) + (((tpR S b).2.1) * ((tpR S a).2.2.1)))) - (((tpR S b).2.1) * ((((2 * ((tpR S b).1) * ((tpR S a).1)) + (((tpR S b).2.1) * ((tpR S a).2.2.1))) * ((2 * ((tpR S b).1) * ((tpR S a).1)) + (((tpR S b).2.1) * ((tpR S a).2.2.1)))) + (((2 * ((tpR S b).1) * ((tpR S a).2.1)) + (((tpR S b).2.2.1) * ((tpR S a).2.2.1))) * ((2 * ((tpR S b).1) * ((tpR S a).2.1)) + (((tpR S b).2.2.1) * ((tpR S a).2.2.1)))))), (((m_bulge_S (tpR S b)) * ((tpR S a).2.2.1)) * ((2 * ((tpR S b).1) * ((tpR S a).2.1)) + (((tpR S b).2.2.1) * ((tpR S a).2.2.1)))) - (((tpR S b).2.2.1) * ((((2 * ((tpR S b).1) * ((tpR S a).1)) + (((tpR S b).2.1) * ((tpR S a).2.2.1))) * ((2 * ((tpR S b).1) * ((tpR S a).1)) + (((tpR S b).2.1) * ((tpR S a).2.2.1)))) + (((2 * ((tpR S b).1) * ((tpR S a).2.1)) + (((tpR S b).2.2.1) * ((tpR S a).2.2.1))) * ((2 * ((tpR S b).1) * ((tpR S a).2.1)) + (((tpR S b).2.2.1) * ((tpR S a).2.2.1)))))), 2 * ((tpR S b).1) * ((((2 * ((tpR S b).1) * ((tpR S a).1)) + (((tpR S b).2.1) * ((tpR S a).2.2.1))) * ((2 * ((tpR S b).1) * ((tpR S a).1)) + (((tpR S b).2.1) * ((tpR S a).2.2.1)))) + (((2 * ((tpR S b).1) * ((tpR S a).2.1)) + (((tpR S b).2.2.1) * ((tpR S a).2.2.1))) * ((2 * ((tpR S b).1) * ((tpR S a).2.1)) + (((tpR S b).2.2.1) * ((tpR S a).2.2.1))))), 0)) (106) from ⟨_, _, _, _, s47, ((g47.rb (g45.rb (g43.rb (g41.rb (g39.rb (g37.rb xp35)))))).up (by omega)), ((g47.rb (g45.rb (g43.rb xp41))).up (by omega)), ((g47.rb xp45).up (by omega)), (xp47.up (by omega))⟩) (by omega)) ?_
      rintro r49 _ ⟨V49, rfl, k49, e49, m49⟩
      refine g_iret rfl ?_
      have ek : keepM S 0 (m_s8_O S a b) = keepT S 0 (lowK 0 (((((m_bulge_S (tpR S b)) * ((tpR S a).2.2.1)) * ((2 * ((tpR S b).1) * ((tpR S a).1)) + (((tpR S b).2.1) * ((tpR S a).2.2.1)))) - (((tpR S b).2.1) * ((((2 * ((tpR S b).1) * ((tpR S a).1)) + (((tpR S b).2.1) * ((tpR S a).2.2.1))) * ((2 * ((tpR S b).1) * ((tpR S a).1)) + (((tpR S b).2.1) * ((tpR S a).2.2.1)))) + (((2 * ((tpR S b).1) * ((tpR S a).2.1)) + (((tpR S b).2.2.1) * ((tpR S a).2.2.1))) * ((2 * ((tpR S b).1) * ((tpR S a).2.1)) + (((tpR S b).2.2.1) * ((tpR S a).2.2.1)))))), (((m_bulge_S (tpR S b)) * ((tpR S a).2.2.1)) * ((2 * ((tpR S b).1) * ((tpR S a).2.1)) + (((tpR S b).2.2.1) * ((tpR S a).2.2.1)))) - (((tpR S b).2.2.1) * ((((2 * ((tpR S b).1) * ((tpR S a).1)) + (((tpR S b).2.1) * ((tpR S a).2.2.1))) * ((2 * ((tpR S b).1) * ((tpR S a).1)) + (((tpR S b).2.1) * ((tpR S a).2.2.1)))) + (((2 * ((tpR S b).1) * ((tpR S a).2.1)) + (((tpR S b).2.2.1) * ((tpR S a).2.2.1))) * ((2 * ((tpR S b).1) * ((tpR S a).2.1)) + (((tpR S b).2.2.1) * ((tpR S a).2.2.1)))))), 2 * ((tpR S b).1) * ((((2 * ((tpR S b).1) * ((tpR S a).1)) + (((tpR S b).2.1) * ((tpR S a).2.2.1))) * ((2 * ((tpR S b).1) * ((tpR S a).1)) + (((tpR S b).2.1) * ((tpR S a).2.2.1)))) + (((2 * ((tpR S b).1) * ((tpR S a).2.1)) + (((tpR S b).2.2.1) * ((tpR S a).2.2.1))) * ((2 * ((tpR S b).1) * ((tpR S a).2.1)) + (((tpR S b).2.2.1) * ((tpR S a).2.2.1))))), 0))) := by
        have eo : m_s8_O S a b = some (((((m_bulge_S (tpR S b)) * ((tpR S a).2.2.1)) * ((2 * ((tpR S b).1) * ((tpR S a).1)) + (((tpR S b).2.1) * ((tpR S a).2.2.1)))) - (((tpR S b).2.1) * ((((2 * ((tpR S b).1) * ((tpR S a).1)) + (((tpR S b).2.1) * ((tpR S a).2.2.1))) * ((2 * ((tpR S b).1) * ((tpR S a).1)) + (((tpR S b).2.1) * ((tpR S a).2.2.1)))) + (((2 * ((tpR S b).1) * ((tpR S a).2.1)) + (((tpR S b).2.2.1) * ((tpR S a).2.2.1))) * ((2 * ((tpR S b).1) * ((tpR S a).2.1)) + (((tpR S b).2.2.1) * ((tpR S a).2.2.1)))))), (((m_bulge_S (tpR S b)) * ((tpR S a).2.2.1)) * ((2 * ((tpR S b).1) * ((tpR S a).2.1)) + (((tpR S b).2.2.1) * ((tpR S a).2.2.1)))) - (((tpR S b).2.2.1) * ((((2 * ((tpR S b).1) * ((tpR S a).1)) + (((tpR S b).2.1) * ((tpR S a).2.2.1))) * ((2 * ((tpR S b).1) * ((tpR S a).1)) + (((tpR S b).2.1) * ((tpR S a).2.2.1)))) + (((2 * ((tpR S b).1) * ((tpR S a).2.1)) + (((tpR S b).2.2.1) * ((tpR S a).2.2.1))) * ((2 * ((tpR S b).1) * ((tpR S a).2.1)) + (((tpR S b).2.2.1) * ((tpR S a).2.2.1)))))), 2 * ((tpR S b).1) * ((((2 * ((tpR S b).1) * ((tpR S a).1)) + (((tpR S b).2.1) * ((tpR S a).2.2.1))) * ((2 * ((tpR S b).1) * ((tpR S a).1)) + (((tpR S b).2.1) * ((tpR S a).2.2.1)))) + (((2 * ((tpR S b).1) * ((tpR S a).2.1)) + (((tpR S b).2.2.1) * ((tpR S a).2.2.1))) * ((2 * ((tpR S b).1) * ((tpR S a).2.1)) + (((tpR S b).2.2.1) * ((tpR S a).2.2.1))))), 0)) := by
          unfold m_s8_O
          exact if_neg (by omega)
        rw [eo]
        rfl
      rw [ek]
      exact ⟨_, rfl, (Gs.km G_48 k49 (fun q hq => by have hq : q = o + 29 := hq; show q = o + 29; omega)).mono (by omega), e49, m49⟩
    · skip
      refine g_bipush rfl ?_
      refine g_iret rfl ?_
      have ek : keepM S 0 (m_s8_O S a b) = (-3, S) := by
        have eo : m_s8_O S a b = none := by
          unfold m_s8_O
          exact if_pos (by omega)
        rw [eo]
        rfl
      rw [ek]
      exact ⟨V23, rfl, KM.of (G_24.mono (by omega)), rfl, (g23.mt (g21.mt (g19.mt (g17.mt (g15.mt (g13.mt (g11.mt (g9.mt (g7.mt (g5.mt (g3.mt mt)))))))))))⟩
  · skip
    refine g_bipush rfl ?_
    refine g_iret rfl ?_
    have ek : keepM S 0 (m_s8_O S a b) = (-3, S) := by
      have eo : m_s8_O S a b = none := by
        unfold m_s8_O
        exact if_pos (by omega)
      rw [eo]
      rfl
    rw [ek]
    exact ⟨V, rfl, KM.of (G0.mono (by omega)), rfl, mt⟩
def m_s9_O (S : aS) (a b : Int) : Option T4 := some (m_polar_S (tpR S a) (tpR S b))
set_option maxRecDepth 100000 in
set_option maxHeartbeats 4000000 in
theorem m_round9 {w : aW} {d : Nat} (hd : 9 ≤ d) {h : aH} {o : Nat} (ms : MS h o) (V : Nat → Nat → Int) {S : aS} (ok : OkT S) (mt : MT V o S) (hF : 0 ≤ V o 1 ∧ V o 1 + 37 ≤ 700) (a : Int) (ha : 0 ≤ a ∧ a < sT S) (b : Int) (hb : 0 ≤ b ∧ b < sT S) (tP : SB V o (o + 24) (tpR S a) (20)) (tQ : SB V o (o + 25) (tpR S b) (20))  : WP w d 309 [aO (some o), aI 9, aI a, aI b] (hw h V) (RI (fun r h1 => ∃ V1, h1 = hw h V1 ∧ KM V V1 o 37 (fun q => q = o + 29) ∧ r = (keepM S 1 (m_s9_O S a b)).1 ∧ MT V1 o (keepM S 1 (m_s9_O S a b)).2)) := by
  obtain ⟨d, rfl⟩ : ∃ d1, d = d1 + 1 := ⟨d - 1, by omega⟩
  refine WP.enter (cd := cd_X12_round) rfl ?_
  have G0 := Gs.refl V o (fun q => q = o + 29)
  obtain ⟨Pp, Pq, Pr, Ps, sP, xPp, xPq, xPr, xPs⟩ := tP
  obtain ⟨Qp, Qq, Qr, Qs, sQ, xQp, xQq, xQr, xQs⟩ := tQ
  have hn := ok.1
  have fa2 : (tpR S a).2.2.1 = sTp S a.toNat 2 := rfl
  have fb2 : (tpR S b).2.2.1 = sTp S b.toNat 2 := rfl
  have fa0 : (tpR S a).1 = sTp S a.toNat 0 := rfl
  have fb0 : (tpR S b).1 = sTp S b.toNat 0 := rfl
  have fa1 : (tpR S a).2.1 = sTp S a.toNat 1 := rfl
  have fb1 : (tpR S b).2.1 = sTp S b.toNat 1 := rfl
  have hls : largs 0 [aO (some o), aI 9, aI a, aI b] = [(0, aO (some o)), (1, aI 9), (2, aI a), (3, aI b)] := rfl
  rw [hls]
  clear hls
  refine g_iload_n rfl rfl ?_
  refine g_tsw (t := 268) rfl (by rfl) ?_
  refine g_aload_n rfl rfl ?_
  refine g_aload_n rfl rfl ?_
  refine g_getR rfl ms.1 (mr_one ms) ?_
  refine g_aload_n rfl rfl ?_
  refine g_getR rfl ms.1 (mr_two ms) ?_
  refine g_aload_n rfl rfl ?_
  refine g_getR rfl ms.1 (mr_got ms) ?_
  refine g_callVN [aO (some (o + 24)), aO (some (o + 25)), aO (some (o + 29))] [] rfl rfl rfl rfl (Nat.le_of_ble_eq_true rfl) ms.1 (m_polar (by omega) ms V (by have := G0.2.2.1; omega) ((o + 24)) (show SLa o ((o + 24)) by unfold SLa; omega) (show SB V o (o + 24) (tpR S a) (20) from ⟨_, _, _, _, sP, (xPp.up (by omega)), (xPq.up (by omega)), (xPr.up (by omega)), (xPs.up (by omega))⟩) ((o + 25)) (show SLa o ((o + 25)) by unfold SLa; omega) (show SB V o (o + 25) (tpR S b) (20) from ⟨_, _, _, _, sQ, (xQp.up (by omega)), (xQq.up (by omega)), (xQr.up (by omega)), (xQs.up (by omega))⟩) ((o + 29)) (show SLa o ((o + 29)) by unfold SLa; omega) (by omega)) ?_
  rintro _ ⟨V1, rfl, g1, t1, u1, v1, y1, s1, xt1, xu1, xv1, xy1⟩
  have G_2 := G0.trans (g1.wide (fun q hq => by have hq : q = o + 29 := hq; show q = o + 29; omega))
  refine g_aload_n rfl rfl ?_
  refine g_aload_n rfl rfl ?_
  refine g_getR rfl ms.1 (mr_got ms) ?_
  refine g_iconst rfl ?_
  refine g_callVI [aO (some (o + 29)), aI 1] [] rfl rfl rfl rfl (Nat.le_of_ble_eq_true rfl) ms.1 (m_keepT1 (by omega) ms V1 ok (g1.mt (show ¬((o + 4) = o + 29) by omega) (show ¬((o + 5) = o + 29) by omega) mt) (by have := G_2.2.2.1; omega) ((o + 29)) (show SLa o ((o + 29)) by unfold SLa; omega) (show SB V1 o (o + 29) (m_polar_S (tpR S a) (tpR S b)) (42) from ⟨_, _, _, _, s1, (xt1.up (by omega)), (xu1.up (by omega)), (xv1.up (by omega)), (xy1.up (by omega))⟩) (by omega)) ?_
  rintro r3 _ ⟨V3, rfl, k3, e3, m3⟩
  refine g_iret rfl ?_
  have ek : keepM S 1 (m_s9_O S a b) = keepT S 1 (lowK 1 (m_polar_S (tpR S a) (tpR S b))) := by
    have eo : m_s9_O S a b = some (m_polar_S (tpR S a) (tpR S b)) := by
      rfl
    rw [eo]
    rfl
  rw [ek]
  exact ⟨_, rfl, (Gs.km G_2 k3 (fun q hq => by have hq : q = o + 29 := hq; show q = o + 29; omega)).mono (by omega), e3, m3⟩
def m_s10_O (S : aS) (a b : Int) : Option T4 := some (m_pole_S (tpR S a) (tpR S b))
set_option maxRecDepth 100000 in
set_option maxHeartbeats 4000000 in
theorem m_round10 {w : aW} {d : Nat} (hd : 9 ≤ d) {h : aH} {o : Nat} (ms : MS h o) (V : Nat → Nat → Int) {S : aS} (ok : OkT S) (mt : MT V o S) (hF : 0 ≤ V o 1 ∧ V o 1 + 54 ≤ 700) (a : Int) (ha : 0 ≤ a ∧ a < sT S) (b : Int) (hb : 0 ≤ b ∧ b < sT S) (tP : SB V o (o + 24) (tpR S a) (20)) (tQ : SB V o (o + 25) (tpR S b) (20))  : WP w d 309 [aO (some o), aI 10, aI a, aI b] (hw h V) (RI (fun r h1 => ∃ V1, h1 = hw h V1 ∧ KM V V1 o 54 (fun q => q = o + 29) ∧ r = (keepM S 0 (m_s10_O S a b)).1 ∧ MT V1 o (keepM S 0 (m_s10_O S a b)).2)) := by
  obtain ⟨d, rfl⟩ : ∃ d1, d = d1 + 1 := ⟨d - 1, by omega⟩
  refine WP.enter (cd := cd_X12_round) rfl ?_
  have G0 := Gs.refl V o (fun q => q = o + 29)
  obtain ⟨Pp, Pq, Pr, Ps, sP, xPp, xPq, xPr, xPs⟩ := tP
  obtain ⟨Qp, Qq, Qr, Qs, sQ, xQp, xQq, xQr, xQs⟩ := tQ
  have hn := ok.1
  have fa2 : (tpR S a).2.2.1 = sTp S a.toNat 2 := rfl
  have fb2 : (tpR S b).2.2.1 = sTp S b.toNat 2 := rfl
  have fa0 : (tpR S a).1 = sTp S a.toNat 0 := rfl
  have fb0 : (tpR S b).1 = sTp S b.toNat 0 := rfl
  have fa1 : (tpR S a).2.1 = sTp S a.toNat 1 := rfl
  have fb1 : (tpR S b).2.1 = sTp S b.toNat 1 := rfl
  have hls : largs 0 [aO (some o), aI 10, aI a, aI b] = [(0, aO (some o)), (1, aI 10), (2, aI a), (3, aI b)] := rfl
  rw [hls]
  clear hls
  refine g_iload_n rfl rfl ?_
  refine g_tsw (t := 294) rfl (by rfl) ?_
  refine g_aload_n rfl rfl ?_
  refine g_aload_n rfl rfl ?_
  refine g_getR rfl ms.1 (mr_one ms) ?_
  refine g_aload_n rfl rfl ?_
  refine g_getR rfl ms.1 (mr_two ms) ?_
  refine g_aload_n rfl rfl ?_
  refine g_getR rfl ms.1 (mr_got ms) ?_
  refine g_callVN [aO (some (o + 24)), aO (some (o + 25)), aO (some (o + 29))] [] rfl rfl rfl rfl (Nat.le_of_ble_eq_true rfl) ms.1 (m_pole (by omega) ms V (by have := G0.2.2.1; omega) ((o + 24)) (show SLa o ((o + 24)) by unfold SLa; omega) (show SB V o (o + 24) (tpR S a) (20) from ⟨_, _, _, _, sP, (xPp.up (by omega)), (xPq.up (by omega)), (xPr.up (by omega)), (xPs.up (by omega))⟩) ((o + 25)) (show SLa o ((o + 25)) by unfold SLa; omega) (show SB V o (o + 25) (tpR S b) (20) from ⟨_, _, _, _, sQ, (xQp.up (by omega)), (xQq.up (by omega)), (xQr.up (by omega)), (xQs.up (by omega))⟩) ((o + 29)) (show SLa o ((o + 29)) by unfold SLa; omega)) ?_
  rintro _ ⟨V1, rfl, g1, t1, u1, v1, y1, s1, xt1, xu1, xv1, xy1⟩
  have G_2 := G0.trans (g1.wide (fun q hq => by have hq : q = o + 29 := hq; show q = o + 29; omega))
  refine g_aload_n rfl rfl ?_
  refine g_aload_n rfl rfl ?_
  refine g_getR rfl ms.1 (mr_got ms) ?_
  refine g_iconst rfl ?_
  refine g_callVI [aO (some (o + 29)), aI 0] [] rfl rfl rfl rfl (Nat.le_of_ble_eq_true rfl) ms.1 (m_keepT0 (by omega) ms V1 ok (g1.mt (show ¬((o + 4) = o + 29) by omega) (show ¬((o + 5) = o + 29) by omega) mt) (by have := G_2.2.2.1; omega) ((o + 29)) (show SLa o ((o + 29)) by unfold SLa; omega) (show SB V1 o (o + 29) (m_pole_S (tpR S a) (tpR S b)) (65) from ⟨_, _, _, _, s1, (xt1.up (by omega)), (xu1.up (by omega)), (xv1.up (by omega)), (xy1.up (by omega))⟩) (by omega)) ?_
  rintro r3 _ ⟨V3, rfl, k3, e3, m3⟩
  refine g_iret rfl ?_
  have ek : keepM S 0 (m_s10_O S a b) = keepT S 0 (lowK 0 (m_pole_S (tpR S a) (tpR S b))) := by
    have eo : m_s10_O S a b = some (m_pole_S (tpR S a) (tpR S b)) := by
      rfl
    rw [eo]
    rfl
  rw [ek]
  exact ⟨_, rfl, (Gs.km G_2 k3 (fun q hq => by have hq : q = o + 29 := hq; show q = o + 29; omega)).mono (by omega), e3, m3⟩
def m_s11_O (S : aS) (a b : Int) : Option T4 := if (m_powers_S (tpR S a) (tpR S b)).1 = 0 ∧ (m_powers_S (tpR S a) (tpR S b)).2.1 = 0 then none else some (m_powers_S (tpR S a) (tpR S b))
set_option maxRecDepth 100000 in
set_option maxHeartbeats 4000000 in
theorem m_round11 {w : aW} {d : Nat} (hd : 9 ≤ d) {h : aH} {o : Nat} (ms : MS h o) (V : Nat → Nat → Int) {S : aS} (ok : OkT S) (mt : MT V o S) (hF : 0 ≤ V o 1 ∧ V o 1 + 32 ≤ 700) (a : Int) (ha : 0 ≤ a ∧ a < sT S) (b : Int) (hb : 0 ≤ b ∧ b < sT S) (tP : SB V o (o + 24) (tpR S a) (20)) (tQ : SB V o (o + 25) (tpR S b) (20))  : WP w d 309 [aO (some o), aI 11, aI a, aI b] (hw h V) (RI (fun r h1 => ∃ V1, h1 = hw h V1 ∧ KM V V1 o 32 (fun q => q = o + 29) ∧ r = (keepM S 1 (m_s11_O S a b)).1 ∧ MT V1 o (keepM S 1 (m_s11_O S a b)).2)) := by
  obtain ⟨d, rfl⟩ : ∃ d1, d = d1 + 1 := ⟨d - 1, by omega⟩
  refine WP.enter (cd := cd_X12_round) rfl ?_
  have G0 := Gs.refl V o (fun q => q = o + 29)
  obtain ⟨Pp, Pq, Pr, Ps, sP, xPp, xPq, xPr, xPs⟩ := tP
  obtain ⟨Qp, Qq, Qr, Qs, sQ, xQp, xQq, xQr, xQs⟩ := tQ
  have hn := ok.1
  have fa2 : (tpR S a).2.2.1 = sTp S a.toNat 2 := rfl
  have fb2 : (tpR S b).2.2.1 = sTp S b.toNat 2 := rfl
  have fa0 : (tpR S a).1 = sTp S a.toNat 0 := rfl
  have fb0 : (tpR S b).1 = sTp S b.toNat 0 := rfl
  have fa1 : (tpR S a).2.1 = sTp S a.toNat 1 := rfl
  have fb1 : (tpR S b).2.1 = sTp S b.toNat 1 := rfl
  have l0 := @lcmp_0 ((m_powers_S (tpR S a) (tpR S b)).1) 0
  have l1 := @lcmp_0 ((m_powers_S (tpR S a) (tpR S b)).2.1) 0
  have hls : largs 0 [aO (some o), aI 11, aI a, aI b] = [(0, aO (some o)), (1, aI 11), (2, aI a), (3, aI b)] := rfl
  rw [hls]
  clear hls
  refine g_iload_n rfl rfl ?_
  refine g_tsw (t := 320) rfl (by rfl) ?_
  refine g_aload_n rfl rfl ?_
  refine g_aload_n rfl rfl ?_
  refine g_getR rfl ms.1 (mr_one ms) ?_
  refine g_aload_n rfl rfl ?_
  refine g_getR rfl ms.1 (mr_two ms) ?_
  refine g_aload_n rfl rfl ?_
  refine g_getR rfl ms.1 (mr_got ms) ?_
  refine g_callVN [aO (some (o + 24)), aO (some (o + 25)), aO (some (o + 29))] [] rfl rfl rfl rfl (Nat.le_of_ble_eq_true rfl) ms.1 (m_powers (by omega) ms V (by have := G0.2.2.1; omega) ((o + 24)) (show SLa o ((o + 24)) by unfold SLa; omega) (show SB V o (o + 24) (tpR S a) (20) from ⟨_, _, _, _, sP, (xPp.up (by omega)), (xPq.up (by omega)), (xPr.up (by omega)), (xPs.up (by omega))⟩) ((o + 25)) (show SLa o ((o + 25)) by unfold SLa; omega) (show SB V o (o + 25) (tpR S b) (20) from ⟨_, _, _, _, sQ, (xQp.up (by omega)), (xQq.up (by omega)), (xQr.up (by omega)), (xQs.up (by omega))⟩) ((o + 29)) (show SLa o ((o + 29)) by unfold SLa; omega)) ?_
  rintro _ ⟨V1, rfl, g1, t1, u1, v1, y1, s1, xt1, xu1, xv1, xy1⟩
  have G_2 := G0.trans (g1.wide (fun q hq => by have hq : q = o + 29 := hq; show q = o + 29; omega))
  refine g_aload_n rfl rfl ?_
  refine g_aload_n rfl rfl ?_
  refine g_getR rfl ms.1 (mr_got ms) ?_
  refine g_iconst rfl ?_
  refine g_iald (i := 0) rfl (mt_got ms) (by omega) (by omega) ?_
  refine g_top (v2 := aI ((t1 : Int))) (congrArg aI (by exact s1.1)) ?_
  refine g_callVI [aI ((t1 : Int))] [] rfl rfl rfl rfl (Nat.le_of_ble_eq_true rfl) ms.1 (r_sign (by omega) ms V1 xt1) ?_
  rintro r3 _ ⟨rfl, e4⟩
  rw [e4]
  clear e4 r3
  refine g_if_ne rfl (fun c346 => ?_) (fun c346 => ?_)
  · skip
    refine g_aload_n rfl rfl ?_
    refine g_aload_n rfl rfl ?_
    refine g_getR rfl ms.1 (mr_got ms) ?_
    refine g_iconst rfl ?_
    refine g_callVI [aO (some (o + 29)), aI 1] [] rfl rfl rfl rfl (Nat.le_of_ble_eq_true rfl) ms.1 (m_keepT1 (by omega) ms V1 ok (g1.mt (show ¬((o + 4) = o + 29) by omega) (show ¬((o + 5) = o + 29) by omega) mt) (by have := G_2.2.2.1; omega) ((o + 29)) (show SLa o ((o + 29)) by unfold SLa; omega) (show SB V1 o (o + 29) (m_powers_S (tpR S a) (tpR S b)) (41) from ⟨_, _, _, _, s1, (xt1.up (by omega)), (xu1.up (by omega)), (xv1.up (by omega)), (xy1.up (by omega))⟩) (by omega)) ?_
    rintro r5 _ ⟨V5, rfl, k5, e5, m5⟩
    refine g_iret rfl ?_
    have ek : keepM S 1 (m_s11_O S a b) = keepT S 1 (lowK 1 (m_powers_S (tpR S a) (tpR S b))) := by
      have eo : m_s11_O S a b = some (m_powers_S (tpR S a) (tpR S b)) := by
        unfold m_s11_O
        exact if_neg (by omega)
      rw [eo]
      rfl
    rw [ek]
    exact ⟨_, rfl, (Gs.km G_2 k5 (fun q hq => by have hq : q = o + 29 := hq; show q = o + 29; omega)).mono (by omega), e5, m5⟩
  · skip
    refine g_aload_n rfl rfl ?_
    refine g_aload_n rfl rfl ?_
    refine g_getR rfl ms.1 (mr_got ms) ?_
    refine g_iconst rfl ?_
    refine g_iald (i := 1) rfl (mt_got ms) (by omega) (by omega) ?_
    refine g_top (v2 := aI ((u1 : Int))) (congrArg aI (by exact s1.2.1)) ?_
    refine g_callVI [aI ((u1 : Int))] [] rfl rfl rfl rfl (Nat.le_of_ble_eq_true rfl) ms.1 (r_sign (by omega) ms V1 xu1) ?_
    rintro r6 _ ⟨rfl, e7⟩
    rw [e7]
    clear e7 r6
    refine g_if_ne rfl (fun c359 => ?_) (fun c359 => ?_)
    · skip
      refine g_aload_n rfl rfl ?_
      refine g_aload_n rfl rfl ?_
      refine g_getR rfl ms.1 (mr_got ms) ?_
      refine g_iconst rfl ?_
      refine g_callVI [aO (some (o + 29)), aI 1] [] rfl rfl rfl rfl (Nat.le_of_ble_eq_true rfl) ms.1 (m_keepT1 (by omega) ms V1 ok (g1.mt (show ¬((o + 4) = o + 29) by omega) (show ¬((o + 5) = o + 29) by omega) mt) (by have := G_2.2.2.1; omega) ((o + 29)) (show SLa o ((o + 29)) by unfold SLa; omega) (show SB V1 o (o + 29) (m_powers_S (tpR S a) (tpR S b)) (41) from ⟨_, _, _, _, s1, (xt1.up (by omega)), (xu1.up (by omega)), (xv1.up (by omega)), (xy1.up (by omega))⟩) (by omega)) ?_
      rintro r8 _ ⟨V8, rfl, k8, e8, m8⟩
      refine g_iret rfl ?_
      have ek : keepM S 1 (m_s11_O S a b) = keepT S 1 (lowK 1 (m_powers_S (tpR S a) (tpR S b))) := by
        have eo : m_s11_O S a b = some (m_powers_S (tpR S a) (tpR S b)) := by
          unfold m_s11_O
          exact if_neg (by omega)
        rw [eo]
        rfl
      rw [ek]
      exact ⟨_, rfl, (Gs.km G_2 k8 (fun q hq => by have hq : q = o + 29 := hq; show q = o + 29; omega)).mono (by omega), e8, m8⟩
    · skip
      refine g_bipush rfl ?_
      refine g_goto rfl ?_
      refine g_iret rfl ?_
      have ek : keepM S 1 (m_s11_O S a b) = (-3, S) := by
        have eo : m_s11_O S a b = none := by
          unfold m_s11_O
          exact if_pos (by omega)
        rw [eo]
        rfl
      rw [ek]
      exact ⟨V1, rfl, KM.of (G_2.mono (by omega)), rfl, (g1.mt (show ¬((o + 4) = o + 29) by omega) (show ¬((o + 5) = o + 29) by omega) mt)⟩
def m_s12_O (S : aS) (a b : Int) : Option T4 := if sTp S a.toNat 2 = 0 ∨ sTp S b.toNat 2 = 0 ∨ (sTp S a.toNat 0 = sTp S b.toNat 0 ∧ sTp S a.toNat 1 = sTp S b.toNat 1 ∧ sTp S a.toNat 2 = sTp S b.toNat 2 ∧ sTp S a.toNat 3 = sTp S b.toNat 3) then none else some (m_around_S (tpR S a) (tpR S b))
set_option maxRecDepth 100000 in
set_option maxHeartbeats 4000000 in
theorem m_round12 {w : aW} {d : Nat} (hd : 9 ≤ d) {h : aH} {o : Nat} (ms : MS h o) (V : Nat → Nat → Int) {S : aS} (ok : OkT S) (mt : MT V o S) (hF : 0 ≤ V o 1 ∧ V o 1 + 51 ≤ 700) (a : Int) (ha : 0 ≤ a ∧ a < sT S) (b : Int) (hb : 0 ≤ b ∧ b < sT S) (tP : SB V o (o + 24) (tpR S a) (20)) (tQ : SB V o (o + 25) (tpR S b) (20))  : WP w d 309 [aO (some o), aI 12, aI a, aI b] (hw h V) (RI (fun r h1 => ∃ V1, h1 = hw h V1 ∧ KM V V1 o 51 (fun q => q = o + 29) ∧ r = (keepM S 2 (m_s12_O S a b)).1 ∧ MT V1 o (keepM S 2 (m_s12_O S a b)).2)) := by
  obtain ⟨d, rfl⟩ : ∃ d1, d = d1 + 1 := ⟨d - 1, by omega⟩
  refine WP.enter (cd := cd_X12_round) rfl ?_
  have G0 := Gs.refl V o (fun q => q = o + 29)
  obtain ⟨Pp, Pq, Pr, Ps, sP, xPp, xPq, xPr, xPs⟩ := tP
  obtain ⟨Qp, Qq, Qr, Qs, sQ, xQp, xQq, xQr, xQs⟩ := tQ
  have hn := ok.1
  have fa2 : (tpR S a).2.2.1 = sTp S a.toNat 2 := rfl
  have fb2 : (tpR S b).2.2.1 = sTp S b.toNat 2 := rfl
  have fa0 : (tpR S a).1 = sTp S a.toNat 0 := rfl
  have fb0 : (tpR S b).1 = sTp S b.toNat 0 := rfl
  have fa1 : (tpR S a).2.1 = sTp S a.toNat 1 := rfl
  have fb1 : (tpR S b).2.1 = sTp S b.toNat 1 := rfl
  have hls : largs 0 [aO (some o), aI 12, aI a, aI b] = [(0, aO (some o)), (1, aI 12), (2, aI a), (3, aI b)] := rfl
  rw [hls]
  clear hls
  refine g_iload_n rfl rfl ?_
  refine g_tsw (t := 377) rfl (by rfl) ?_
  refine g_aload_n rfl rfl ?_
  refine g_iload_n rfl rfl ?_
  refine g_callVI [aI a] [] rfl rfl rfl rfl (Nat.le_of_ble_eq_true rfl) ms.1 (m_isFar (by omega) ms V ok mt a ha) ?_
  rintro r1 _ ⟨rfl, e2⟩
  rw [e2]
  clear e2 r1
  refine g_b_ne rfl (fun c382 => ?_) (fun c382 => ?_)
  · skip
    refine g_bipush rfl ?_
    refine g_iret rfl ?_
    have ek : keepM S 2 (m_s12_O S a b) = (-3, S) := by
      have eo : m_s12_O S a b = none := by
        unfold m_s12_O
        exact if_pos (by omega)
      rw [eo]
      rfl
    rw [ek]
    exact ⟨V, rfl, KM.of (G0.mono (by omega)), rfl, mt⟩
  · skip
    refine g_aload_n rfl rfl ?_
    refine g_iload_n rfl rfl ?_
    refine g_callVI [aI b] [] rfl rfl rfl rfl (Nat.le_of_ble_eq_true rfl) ms.1 (m_isFar (by omega) ms V ok mt b hb) ?_
    rintro r3 _ ⟨rfl, e4⟩
    rw [e4]
    clear e4 r3
    refine g_b_ne rfl (fun c390 => ?_) (fun c390 => ?_)
    · skip
      refine g_bipush rfl ?_
      refine g_iret rfl ?_
      have ek : keepM S 2 (m_s12_O S a b) = (-3, S) := by
        have eo : m_s12_O S a b = none := by
          unfold m_s12_O
          exact if_pos (by omega)
        rw [eo]
        rfl
      rw [ek]
      exact ⟨V, rfl, KM.of (G0.mono (by omega)), rfl, mt⟩
    · skip
      refine g_aload_n rfl rfl ?_
      refine g_iload_n rfl rfl ?_
      refine g_iload_n rfl rfl ?_
      refine g_callVI [aI a, aI b] [] rfl rfl rfl rfl (Nat.le_of_ble_eq_true rfl) ms.1 (m_isEqual (by omega) ms V ok mt a ha b hb) ?_
      rintro r5 _ ⟨rfl, e6⟩
      rw [e6]
      clear e6 r5
      refine g_b_eq rfl (fun c399 => ?_) (fun c399 => ?_)
      · skip
        refine g_iload_n rfl rfl ?_
        refine g_bipush rfl ?_
        refine g_icmp_ne_f rfl (by omega) ?_
        refine g_aload_n rfl rfl ?_
        refine g_callVN [] [] rfl rfl rfl rfl (Nat.le_of_ble_eq_true rfl) ms.1 (m_around (by omega) ms V (by have := G0.2.2.1; omega) (show SB V o (o + 24) (tpR S a) (20) from ⟨_, _, _, _, sP, (xPp.up (by omega)), (xPq.up (by omega)), (xPr.up (by omega)), (xPs.up (by omega))⟩) (show SB V o (o + 25) (tpR S b) (20) from ⟨_, _, _, _, sQ, (xQp.up (by omega)), (xQq.up (by omega)), (xQr.up (by omega)), (xQs.up (by omega))⟩)) ?_
        rintro _ ⟨V7, rfl, g7, t7, u7, v7, y7, s7, xt7, xu7, xv7, xy7⟩
        have G_8 := G0.trans (g7.wide (fun q hq => by have hq : q = o + 29 := hq; show q = o + 29; omega))
        refine g_goto rfl ?_
        refine g_aload_n rfl rfl ?_
        refine g_aload_n rfl rfl ?_
        refine g_getR rfl ms.1 (mr_got ms) ?_
        refine g_iconst rfl ?_
        refine g_callVI [aO (some (o + 29)), aI 2] [] rfl rfl rfl rfl (Nat.le_of_ble_eq_true rfl) ms.1 (m_keepT2 (by omega) ms V7 ok (g7.mt (show ¬((o + 4) = o + 29) by omega) (show ¬((o + 5) = o + 29) by omega) mt) (by have := G_8.2.2.1; omega) ((o + 29)) (show SLa o ((o + 29)) by unfold SLa; omega) (show SB V7 o (o + 29) (m_around_S (tpR S a) (tpR S b)) (84) from ⟨_, _, _, _, s7, (xt7.up (by omega)), (xu7.up (by omega)), (xv7.up (by omega)), (xy7.up (by omega))⟩) (by omega)) ?_
        rintro r9 _ ⟨V9, rfl, k9, e9, m9⟩
        refine g_iret rfl ?_
        have ek : keepM S 2 (m_s12_O S a b) = keepT S 2 (lowK 2 (m_around_S (tpR S a) (tpR S b))) := by
          have eo : m_s12_O S a b = some (m_around_S (tpR S a) (tpR S b)) := by
            unfold m_s12_O
            exact if_neg (by omega)
          rw [eo]
          rfl
        rw [ek]
        exact ⟨_, rfl, (Gs.km G_8 k9 (fun q hq => by have hq : q = o + 29 := hq; show q = o + 29; omega)).mono (by omega), e9, m9⟩
      · skip
        refine g_bipush rfl ?_
        refine g_iret rfl ?_
        have ek : keepM S 2 (m_s12_O S a b) = (-3, S) := by
          have eo : m_s12_O S a b = none := by
            unfold m_s12_O
            exact if_pos (by omega)
          rw [eo]
          rfl
        rw [ek]
        exact ⟨V, rfl, KM.of (G0.mono (by omega)), rfl, mt⟩
def m_s13_O (S : aS) (a b : Int) : Option T4 := if sTp S a.toNat 2 = 0 ∨ sTp S b.toNat 2 = 0 ∨ (sTp S a.toNat 0 = sTp S b.toNat 0 ∧ sTp S a.toNat 1 = sTp S b.toNat 1 ∧ sTp S a.toNat 2 = sTp S b.toNat 2 ∧ sTp S a.toNat 3 = sTp S b.toNat 3) then none else some ((tpR S a).2.2.1 * (tpR S b).2.2.1, -(((tpR S a).1 * (tpR S b).2.2.1) + ((tpR S b).1 * (tpR S a).2.2.1)), -(((tpR S a).2.1 * (tpR S b).2.2.1) + ((tpR S b).2.1 * (tpR S a).2.2.1)), ((tpR S a).1 * (tpR S b).1) + ((tpR S a).2.1 * (tpR S b).2.1))
set_option maxRecDepth 100000 in
set_option maxHeartbeats 4000000 in
theorem m_round13 {w : aW} {d : Nat} (hd : 9 ≤ d) {h : aH} {o : Nat} (ms : MS h o) (V : Nat → Nat → Int) {S : aS} (ok : OkT S) (mt : MT V o S) (hF : 0 ≤ V o 1 ∧ V o 1 + 36 ≤ 700) (a : Int) (ha : 0 ≤ a ∧ a < sT S) (b : Int) (hb : 0 ≤ b ∧ b < sT S) (tP : SB V o (o + 24) (tpR S a) (20)) (tQ : SB V o (o + 25) (tpR S b) (20))  : WP w d 309 [aO (some o), aI 13, aI a, aI b] (hw h V) (RI (fun r h1 => ∃ V1, h1 = hw h V1 ∧ KM V V1 o 36 (fun q => q = o + 29) ∧ r = (keepM S 2 (m_s13_O S a b)).1 ∧ MT V1 o (keepM S 2 (m_s13_O S a b)).2)) := by
  obtain ⟨d, rfl⟩ : ∃ d1, d = d1 + 1 := ⟨d - 1, by omega⟩
  refine WP.enter (cd := cd_X12_round) rfl ?_
  have G0 := Gs.refl V o (fun q => q = o + 29)
  obtain ⟨Pp, Pq, Pr, Ps, sP, xPp, xPq, xPr, xPs⟩ := tP
  obtain ⟨Qp, Qq, Qr, Qs, sQ, xQp, xQq, xQr, xQs⟩ := tQ
  have hn := ok.1
  have fa2 : (tpR S a).2.2.1 = sTp S a.toNat 2 := rfl
  have fb2 : (tpR S b).2.2.1 = sTp S b.toNat 2 := rfl
  have fa0 : (tpR S a).1 = sTp S a.toNat 0 := rfl
  have fb0 : (tpR S b).1 = sTp S b.toNat 0 := rfl
  have fa1 : (tpR S a).2.1 = sTp S a.toNat 1 := rfl
  have fb1 : (tpR S b).2.1 = sTp S b.toNat 1 := rfl
  have hls : largs 0 [aO (some o), aI 13, aI a, aI b] = [(0, aO (some o)), (1, aI 13), (2, aI a), (3, aI b)] := rfl
  rw [hls]
  clear hls
  refine g_iload_n rfl rfl ?_
  refine g_tsw (t := 377) rfl (by rfl) ?_
  refine g_aload_n rfl rfl ?_
  refine g_iload_n rfl rfl ?_
  refine g_callVI [aI a] [] rfl rfl rfl rfl (Nat.le_of_ble_eq_true rfl) ms.1 (m_isFar (by omega) ms V ok mt a ha) ?_
  rintro r1 _ ⟨rfl, e2⟩
  rw [e2]
  clear e2 r1
  refine g_b_ne rfl (fun c382 => ?_) (fun c382 => ?_)
  · skip
    refine g_bipush rfl ?_
    refine g_iret rfl ?_
    have ek : keepM S 2 (m_s13_O S a b) = (-3, S) := by
      have eo : m_s13_O S a b = none := by
        unfold m_s13_O
        exact if_pos (by omega)
      rw [eo]
      rfl
    rw [ek]
    exact ⟨V, rfl, KM.of (G0.mono (by omega)), rfl, mt⟩
  · skip
    refine g_aload_n rfl rfl ?_
    refine g_iload_n rfl rfl ?_
    refine g_callVI [aI b] [] rfl rfl rfl rfl (Nat.le_of_ble_eq_true rfl) ms.1 (m_isFar (by omega) ms V ok mt b hb) ?_
    rintro r3 _ ⟨rfl, e4⟩
    rw [e4]
    clear e4 r3
    refine g_b_ne rfl (fun c390 => ?_) (fun c390 => ?_)
    · skip
      refine g_bipush rfl ?_
      refine g_iret rfl ?_
      have ek : keepM S 2 (m_s13_O S a b) = (-3, S) := by
        have eo : m_s13_O S a b = none := by
          unfold m_s13_O
          exact if_pos (by omega)
        rw [eo]
        rfl
      rw [ek]
      exact ⟨V, rfl, KM.of (G0.mono (by omega)), rfl, mt⟩
    · skip
      refine g_aload_n rfl rfl ?_
      refine g_iload_n rfl rfl ?_
      refine g_iload_n rfl rfl ?_
      refine g_callVI [aI a, aI b] [] rfl rfl rfl rfl (Nat.le_of_ble_eq_true rfl) ms.1 (m_isEqual (by omega) ms V ok mt a ha b hb) ?_
      rintro r5 _ ⟨rfl, e6⟩
      rw [e6]
      clear e6 r5
      refine g_b_eq rfl (fun c399 => ?_) (fun c399 => ?_)
      · skip
        refine g_iload_n rfl rfl ?_
        refine g_bipush rfl ?_
        refine g_icmp_ne_t rfl (by omega) ?_
        refine g_aload_n rfl rfl ?_
        refine g_getR rfl ms.1 (mr_got ms) ?_
        refine g_iconst rfl ?_
        refine g_aload_n rfl rfl ?_
        refine g_aload_n rfl rfl ?_
        refine g_getR rfl ms.1 (mr_one ms) ?_
        refine g_iconst rfl ?_
        refine g_iald (i := 2) rfl (mt_one ms) (by omega) (by omega) ?_
        refine g_top (v2 := aI ((Pr : Int))) (congrArg aI (by exact sP.2.2.1)) ?_
        refine g_aload_n rfl rfl ?_
        refine g_getR rfl ms.1 (mr_two ms) ?_
        refine g_iconst rfl ?_
        refine g_iald (i := 2) rfl (mt_two ms) (by omega) (by omega) ?_
        refine g_top (v2 := aI ((Qr : Int))) (congrArg aI (by exact sQ.2.2.1)) ?_
        refine g_callVI [aI ((Pr : Int)), aI ((Qr : Int))] [aI 0, aO (some (o + 29))] rfl rfl rfl rfl (Nat.le_of_ble_eq_true rfl) ms.1 (r_mul (by omega) ms V (by have := G0.2.2.1; omega) xPr xQr (by omega)) ?_
        rintro _ _ ⟨p7, rfl, V7, rfl, g7, xp7⟩
        have G_8 := G0.trans (g7.gs _)
        refine g_iast (i := 0) rfl (mt_got ms) (by omega) (by omega) ?_
        obtain ⟨V9, eV9⟩ : ∃ W, W = vset V7 ((o + 29)) 0 (p7 : Int) := ⟨_, rfl⟩
        refine g_hp (h2 := hw h V9) (by rw [eV9]; rfl) ?_
        have g9 : Gs V7 V9 o 0 (fun q => q = o + 29) := by rw [eV9]; exact Gs.cell (show SLa o ((o + 29)) by unfold SLa; omega)
        have c9_0 : V9 ((o + 29)) 0 = (p7 : Int) := by rw [eV9]; exact vset_eq _ _ _ _
        have G_10 := G_8.trans (g9.wide (fun q hq => by have hq : q = o + 29 := hq; show q = o + 29; omega))
        refine g_aload_n rfl rfl ?_
        refine g_getR rfl ms.1 (mr_got ms) ?_
        refine g_iconst rfl ?_
        refine g_aload_n rfl rfl ?_
        refine g_aload_n rfl rfl ?_
        refine g_aload_n rfl rfl ?_
        refine g_aload_n rfl rfl ?_
        refine g_getR rfl ms.1 (mr_one ms) ?_
        refine g_iconst rfl ?_
        refine g_iald (i := 0) rfl (mt_one ms) (by omega) (by omega) ?_
        refine g_top (v2 := aI ((Pp : Int))) (congrArg aI (by exact (g9.sa (show SLa o ((o + 24)) by unfold SLa; omega) (show ¬(o + 24 = o + 29) by omega) (g7.sa (show SLa o ((o + 24)) by unfold SLa; omega) sP)).1)) ?_
        refine g_aload_n rfl rfl ?_
        refine g_getR rfl ms.1 (mr_two ms) ?_
        refine g_iconst rfl ?_
        refine g_iald (i := 2) rfl (mt_two ms) (by omega) (by omega) ?_
        refine g_top (v2 := aI ((Qr : Int))) (congrArg aI (by exact (g9.sa (show SLa o ((o + 25)) by unfold SLa; omega) (show ¬(o + 25 = o + 29) by omega) (g7.sa (show SLa o ((o + 25)) by unfold SLa; omega) sQ)).2.2.1)) ?_
        refine g_callVI [aI ((Pp : Int)), aI ((Qr : Int))] [aO (some o), aO (some o), aI 1, aO (some (o + 29))] rfl rfl rfl rfl (Nat.le_of_ble_eq_true rfl) ms.1 (r_mul (by omega) ms V9 (by have := G_10.2.2.1; omega) (g9.rb (g7.rb xPp)) (g9.rb (g7.rb xQr)) (by omega)) ?_
        rintro _ _ ⟨p11, rfl, V11, rfl, g11, xp11⟩
        have G_12 := G_10.trans (g11.gs _)
        refine g_aload_n rfl rfl ?_
        refine g_aload_n rfl rfl ?_
        refine g_getR rfl ms.1 (mr_two ms) ?_
        refine g_iconst rfl ?_
        refine g_iald (i := 0) rfl (mt_two ms) (by omega) (by omega) ?_
        refine g_top (v2 := aI ((Qp : Int))) (congrArg aI (by exact (g11.sa (show SLa o ((o + 25)) by unfold SLa; omega) (g9.sa (show SLa o ((o + 25)) by unfold SLa; omega) (show ¬(o + 25 = o + 29) by omega) (g7.sa (show SLa o ((o + 25)) by unfold SLa; omega) sQ))).1)) ?_
        refine g_aload_n rfl rfl ?_
        refine g_getR rfl ms.1 (mr_one ms) ?_
        refine g_iconst rfl ?_
        refine g_iald (i := 2) rfl (mt_one ms) (by omega) (by omega) ?_
        refine g_top (v2 := aI ((Pr : Int))) (congrArg aI (by exact (g11.sa (show SLa o ((o + 24)) by unfold SLa; omega) (g9.sa (show SLa o ((o + 24)) by unfold SLa; omega) (show ¬(o + 24 = o + 29) by omega) (g7.sa (show SLa o ((o + 24)) by unfold SLa; omega) sP))).2.2.1)) ?_
        refine g_callVI [aI ((Qp : Int)), aI ((Pr : Int))] [aI ((p11 : Int)), aO (some o), aO (some o), aI 1, aO (some (o + 29))] rfl rfl rfl rfl (Nat.le_of_ble_eq_true rfl) ms.1 (r_mul (by omega) ms V11 (by have := G_12.2.2.1; omega) (g11.rb (g9.rb (g7.rb xQp))) (g11.rb (g9.rb (g7.rb xPr))) (by omega)) ?_
        rintro _ _ ⟨p13, rfl, V13, rfl, g13, xp13⟩
        have G_14 := G_12.trans (g13.gs _)
        refine g_callVI [aI ((p11 : Int)), aI ((p13 : Int))] [aO (some o), aI 1, aO (some (o + 29))] rfl rfl rfl rfl (Nat.le_of_ble_eq_true rfl) ms.1 (r_add (by omega) ms V13 (by have := G_14.2.2.1; omega) (g13.rb xp11) xp13 (41) (by omega) (by omega) (by omega)) ?_
        rintro _ _ ⟨p15, rfl, V15, rfl, g15, xp15⟩
        have G_16 := G_14.trans (g15.gs _)
        refine g_callVI [aI ((p15 : Int))] [aI 1, aO (some (o + 29))] rfl rfl rfl rfl (Nat.le_of_ble_eq_true rfl) ms.1 (r_neg (by omega) ms V15 (by have := G_16.2.2.1; omega) xp15 (by omega)) ?_
        rintro _ _ ⟨p17, rfl, V17, rfl, g17, xp17⟩
        have G_18 := G_16.trans (g17.gs _)
        refine g_iast (i := 1) rfl (mt_got ms) (by omega) (by omega) ?_
        obtain ⟨V19, eV19⟩ : ∃ W, W = vset V17 ((o + 29)) 1 (p17 : Int) := ⟨_, rfl⟩
        refine g_hp (h2 := hw h V19) (by rw [eV19]; rfl) ?_
        have g19 : Gs V17 V19 o 0 (fun q => q = o + 29) := by rw [eV19]; exact Gs.cell (show SLa o ((o + 29)) by unfold SLa; omega)
        have c19_0 : V19 ((o + 29)) 0 = (p7 : Int) := by rw [eV19, vset_ne _ _ _ _ (by omega)]; exact (g17.sc (show SLa o ((o + 29)) by unfold SLa; omega) (g15.sc (show SLa o ((o + 29)) by unfold SLa; omega) (g13.sc (show SLa o ((o + 29)) by unfold SLa; omega) (g11.sc (show SLa o ((o + 29)) by unfold SLa; omega) c9_0))))
        have c19_1 : V19 ((o + 29)) 1 = (p17 : Int) := by rw [eV19]; exact vset_eq _ _ _ _
        have G_20 := G_18.trans (g19.wide (fun q hq => by have hq : q = o + 29 := hq; show q = o + 29; omega))
        refine g_aload_n rfl rfl ?_
        refine g_getR rfl ms.1 (mr_got ms) ?_
        refine g_iconst rfl ?_
        refine g_aload_n rfl rfl ?_
        refine g_aload_n rfl rfl ?_
        refine g_aload_n rfl rfl ?_
        refine g_aload_n rfl rfl ?_
        refine g_getR rfl ms.1 (mr_one ms) ?_
        refine g_iconst rfl ?_
        refine g_iald (i := 1) rfl (mt_one ms) (by omega) (by omega) ?_
        refine g_top (v2 := aI ((Pq : Int))) (congrArg aI (by exact (g19.sa (show SLa o ((o + 24)) by unfold SLa; omega) (show ¬(o + 24 = o + 29) by omega) (g17.sa (show SLa o ((o + 24)) by unfold SLa; omega) (g15.sa (show SLa o ((o + 24)) by unfold SLa; omega) (g13.sa (show SLa o ((o + 24)) by unfold SLa; omega) (g11.sa (show SLa o ((o + 24)) by unfold SLa; omega) (g9.sa (show SLa o ((o + 24)) by unfold SLa; omega) (show ¬(o + 24 = o + 29) by omega) (g7.sa (show SLa o ((o + 24)) by unfold SLa; omega) sP))))))).2.1)) ?_
        refine g_aload_n rfl rfl ?_
        refine g_getR rfl ms.1 (mr_two ms) ?_
        refine g_iconst rfl ?_
        refine g_iald (i := 2) rfl (mt_two ms) (by omega) (by omega) ?_
        refine g_top (v2 := aI ((Qr : Int))) (congrArg aI (by exact (g19.sa (show SLa o ((o + 25)) by unfold SLa; omega) (show ¬(o + 25 = o + 29) by omega) (g17.sa (show SLa o ((o + 25)) by unfold SLa; omega) (g15.sa (show SLa o ((o + 25)) by unfold SLa; omega) (g13.sa (show SLa o ((o + 25)) by unfold SLa; omega) (g11.sa (show SLa o ((o + 25)) by unfold SLa; omega) (g9.sa (show SLa o ((o + 25)) by unfold SLa; omega) (show ¬(o + 25 = o + 29) by omega) (g7.sa (show SLa o ((o + 25)) by unfold SLa; omega) sQ))))))).2.2.1)) ?_
        refine g_callVI [aI ((Pq : Int)), aI ((Qr : Int))] [aO (some o), aO (some o), aI 2, aO (some (o + 29))] rfl rfl rfl rfl (Nat.le_of_ble_eq_true rfl) ms.1 (r_mul (by omega) ms V19 (by have := G_20.2.2.1; omega) (g19.rb (g17.rb (g15.rb (g13.rb (g11.rb (g9.rb (g7.rb xPq))))))) (g19.rb (g17.rb (g15.rb (g13.rb (g11.rb (g9.rb (g7.rb xQr))))))) (by omega)) ?_
        rintro _ _ ⟨p21, rfl, V21, rfl, g21, xp21⟩
        have G_22 := G_20.trans (g21.gs _)
        refine g_aload_n rfl rfl ?_
        refine g_aload_n rfl rfl ?_
        refine g_getR rfl ms.1 (mr_two ms) ?_
        refine g_iconst rfl ?_
        refine g_iald (i := 1) rfl (mt_two ms) (by omega) (by omega) ?_
        refine g_top (v2 := aI ((Qq : Int))) (congrArg aI (by exact (g21.sa (show SLa o ((o + 25)) by unfold SLa; omega) (g19.sa (show SLa o ((o + 25)) by unfold SLa; omega) (show ¬(o + 25 = o + 29) by omega) (g17.sa (show SLa o ((o + 25)) by unfold SLa; omega) (g15.sa (show SLa o ((o + 25)) by unfold SLa; omega) (g13.sa (show SLa o ((o + 25)) by unfold SLa; omega) (g11.sa (show SLa o ((o + 25)) by unfold SLa; omega) (g9.sa (show SLa o ((o + 25)) by unfold SLa; omega) (show ¬(o + 25 = o + 29) by omega) (g7.sa (show SLa o ((o + 25)) by unfold SLa; omega) sQ)))))))).2.1)) ?_
        refine g_aload_n rfl rfl ?_
        refine g_getR rfl ms.1 (mr_one ms) ?_
        refine g_iconst rfl ?_
        refine g_iald (i := 2) rfl (mt_one ms) (by omega) (by omega) ?_
        refine g_top (v2 := aI ((Pr : Int))) (congrArg aI (by exact (g21.sa (show SLa o ((o + 24)) by unfold SLa; omega) (g19.sa (show SLa o ((o + 24)) by unfold SLa; omega) (show ¬(o + 24 = o + 29) by omega) (g17.sa (show SLa o ((o + 24)) by unfold SLa; omega) (g15.sa (show SLa o ((o + 24)) by unfold SLa; omega) (g13.sa (show SLa o ((o + 24)) by unfold SLa; omega) (g11.sa (show SLa o ((o + 24)) by unfold SLa; omega) (g9.sa (show SLa o ((o + 24)) by unfold SLa; omega) (show ¬(o + 24 = o + 29) by omega) (g7.sa (show SLa o ((o + 24)) by unfold SLa; omega) sP)))))))).2.2.1)) ?_
        refine g_callVI [aI ((Qq : Int)), aI ((Pr : Int))] [aI ((p21 : Int)), aO (some o), aO (some o), aI 2, aO (some (o + 29))] rfl rfl rfl rfl (Nat.le_of_ble_eq_true rfl) ms.1 (r_mul (by omega) ms V21 (by have := G_22.2.2.1; omega) (g21.rb (g19.rb (g17.rb (g15.rb (g13.rb (g11.rb (g9.rb (g7.rb xQq)))))))) (g21.rb (g19.rb (g17.rb (g15.rb (g13.rb (g11.rb (g9.rb (g7.rb xPr)))))))) (by omega)) ?_
        rintro _ _ ⟨p23, rfl, V23, rfl, g23, xp23⟩
        have G_24 := G_22.trans (g23.gs _)
        refine g_callVI [aI ((p21 : Int)), aI ((p23 : Int))] [aO (some o), aI 2, aO (some (o + 29))] rfl rfl rfl rfl (Nat.le_of_ble_eq_true rfl) ms.1 (r_add (by omega) ms V23 (by have := G_24.2.2.1; omega) (g23.rb xp21) xp23 (41) (by omega) (by omega) (by omega)) ?_
        rintro _ _ ⟨p25, rfl, V25, rfl, g25, xp25⟩
        have G_26 := G_24.trans (g25.gs _)
        refine g_callVI [aI ((p25 : Int))] [aI 2, aO (some (o + 29))] rfl rfl rfl rfl (Nat.le_of_ble_eq_true rfl) ms.1 (r_neg (by omega) ms V25 (by have := G_26.2.2.1; omega) xp25 (by omega)) ?_
        rintro _ _ ⟨p27, rfl, V27, rfl, g27, xp27⟩
        have G_28 := G_26.trans (g27.gs _)
        refine g_iast (i := 2) rfl (mt_got ms) (by omega) (by omega) ?_
        obtain ⟨V29, eV29⟩ : ∃ W, W = vset V27 ((o + 29)) 2 (p27 : Int) := ⟨_, rfl⟩
        refine g_hp (h2 := hw h V29) (by rw [eV29]; rfl) ?_
        have g29 : Gs V27 V29 o 0 (fun q => q = o + 29) := by rw [eV29]; exact Gs.cell (show SLa o ((o + 29)) by unfold SLa; omega)
        have c29_0 : V29 ((o + 29)) 0 = (p7 : Int) := by rw [eV29, vset_ne _ _ _ _ (by omega)]; exact (g27.sc (show SLa o ((o + 29)) by unfold SLa; omega) (g25.sc (show SLa o ((o + 29)) by unfold SLa; omega) (g23.sc (show SLa o ((o + 29)) by unfold SLa; omega) (g21.sc (show SLa o ((o + 29)) by unfold SLa; omega) c19_0))))
        have c29_1 : V29 ((o + 29)) 1 = (p17 : Int) := by rw [eV29, vset_ne _ _ _ _ (by omega)]; exact (g27.sc (show SLa o ((o + 29)) by unfold SLa; omega) (g25.sc (show SLa o ((o + 29)) by unfold SLa; omega) (g23.sc (show SLa o ((o + 29)) by unfold SLa; omega) (g21.sc (show SLa o ((o + 29)) by unfold SLa; omega) c19_1))))
        have c29_2 : V29 ((o + 29)) 2 = (p27 : Int) := by rw [eV29]; exact vset_eq _ _ _ _
        have G_30 := G_28.trans (g29.wide (fun q hq => by have hq : q = o + 29 := hq; show q = o + 29; omega))
        refine g_aload_n rfl rfl ?_
        refine g_getR rfl ms.1 (mr_got ms) ?_
        refine g_iconst rfl ?_
        refine g_aload_n rfl rfl ?_
        refine g_aload_n rfl rfl ?_
        refine g_aload_n rfl rfl ?_
        refine g_getR rfl ms.1 (mr_one ms) ?_
        refine g_iconst rfl ?_
        refine g_iald (i := 0) rfl (mt_one ms) (by omega) (by omega) ?_
        refine g_top (v2 := aI ((Pp : Int))) (congrArg aI (by exact (g29.sa (show SLa o ((o + 24)) by unfold SLa; omega) (show ¬(o + 24 = o + 29) by omega) (g27.sa (show SLa o ((o + 24)) by unfold SLa; omega) (g25.sa (show SLa o ((o + 24)) by unfold SLa; omega) (g23.sa (show SLa o ((o + 24)) by unfold SLa; omega) (g21.sa (show SLa o ((o + 24)) by unfold SLa; omega) (g19.sa (show SLa o ((o + 24)) by unfold SLa; omega) (show ¬(o + 24 = o + 29) by omega) (g17.sa (show SLa o ((o + 24)) by unfold SLa; omega) (g15.sa (show SLa o ((o + 24)) by unfold SLa; omega) (g13.sa (show SLa o ((o + 24)) by unfold SLa; omega) (g11.sa (show SLa o ((o + 24)) by unfold SLa; omega) (g9.sa (show SLa o ((o + 24)) by unfold SLa; omega) (show ¬(o + 24 = o + 29) by omega) (g7.sa (show SLa o ((o + 24)) by unfold SLa; omega) sP)))))))))))).1)) ?_
        refine g_aload_n rfl rfl ?_
        refine g_getR rfl ms.1 (mr_two ms) ?_
        refine g_iconst rfl ?_
        refine g_iald (i := 0) rfl (mt_two ms) (by omega) (by omega) ?_
        refine g_top (v2 := aI ((Qp : Int))) (congrArg aI (by exact (g29.sa (show SLa o ((o + 25)) by unfold SLa; omega) (show ¬(o + 25 = o + 29) by omega) (g27.sa (show SLa o ((o + 25)) by unfold SLa; omega) (g25.sa (show SLa o ((o + 25)) by unfold SLa; omega) (g23.sa (show SLa o ((o + 25)) by unfold SLa; omega) (g21.sa (show SLa o ((o + 25)) by unfold SLa; omega) (g19.sa (show SLa o ((o + 25)) by unfold SLa; omega) (show ¬(o + 25 = o + 29) by omega) (g17.sa (show SLa o ((o + 25)) by unfold SLa; omega) (g15.sa (show SLa o ((o + 25)) by unfold SLa; omega) (g13.sa (show SLa o ((o + 25)) by unfold SLa; omega) (g11.sa (show SLa o ((o + 25)) by unfold SLa; omega) (g9.sa (show SLa o ((o + 25)) by unfold SLa; omega) (show ¬(o + 25 = o + 29) by omega) (g7.sa (show SLa o ((o + 25)) by unfold SLa; omega) sQ)))))))))))).1)) ?_
        refine g_callVI [aI ((Pp : Int)), aI ((Qp : Int))] [aO (some o), aI 3, aO (some (o + 29))] rfl rfl rfl rfl (Nat.le_of_ble_eq_true rfl) ms.1 (r_mul (by omega) ms V29 (by have := G_30.2.2.1; omega) (g29.rb (g27.rb (g25.rb (g23.rb (g21.rb (g19.rb (g17.rb (g15.rb (g13.rb (g11.rb (g9.rb (g7.rb xPp)))))))))))) (g29.rb (g27.rb (g25.rb (g23.rb (g21.rb (g19.rb (g17.rb (g15.rb (g13.rb (g11.rb (g9.rb (g7.rb xQp)))))))))))) (by omega)) ?_
        rintro _ _ ⟨p31, rfl, V31, rfl, g31, xp31⟩
        have G_32 := G_30.trans (g31.gs _)
        refine g_aload_n rfl rfl ?_
        refine g_aload_n rfl rfl ?_
        refine g_getR rfl ms.1 (mr_one ms) ?_
        refine g_iconst rfl ?_
        refine g_iald (i := 1) rfl (mt_one ms) (by omega) (by omega) ?_
        refine g_top (v2 := aI ((Pq : Int))) (congrArg aI (by exact (g31.sa (show SLa o ((o + 24)) by unfold SLa; omega) (g29.sa (show SLa o ((o + 24)) by unfold SLa; omega) (show ¬(o + 24 = o + 29) by omega) (g27.sa (show SLa o ((o + 24)) by unfold SLa; omega) (g25.sa (show SLa o ((o + 24)) by unfold SLa; omega) (g23.sa (show SLa o ((o + 24)) by unfold SLa; omega) (g21.sa (show SLa o ((o + 24)) by unfold SLa; omega) (g19.sa (show SLa o ((o + 24)) by unfold SLa; omega) (show ¬(o + 24 = o + 29) by omega) (g17.sa (show SLa o ((o + 24)) by unfold SLa; omega) (g15.sa (show SLa o ((o + 24)) by unfold SLa; omega) (g13.sa (show SLa o ((o + 24)) by unfold SLa; omega) (g11.sa (show SLa o ((o + 24)) by unfold SLa; omega) (g9.sa (show SLa o ((o + 24)) by unfold SLa; omega) (show ¬(o + 24 = o + 29) by omega) (g7.sa (show SLa o ((o + 24)) by unfold SLa; omega) sP))))))))))))).2.1)) ?_
        refine g_aload_n rfl rfl ?_
        refine g_getR rfl ms.1 (mr_two ms) ?_
        refine g_iconst rfl ?_
        refine g_iald (i := 1) rfl (mt_two ms) (by omega) (by omega) ?_
        refine g_top (v2 := aI ((Qq : Int))) (congrArg aI (by exact (g31.sa (show SLa o ((o + 25)) by unfold SLa; omega) (g29.sa (show SLa o ((o + 25)) by unfold SLa; omega) (show ¬(o + 25 = o + 29) by omega) (g27.sa (show SLa o ((o + 25)) by unfold SLa; omega) (g25.sa (show SLa o ((o + 25)) by unfold SLa; omega) (g23.sa (show SLa o ((o + 25)) by unfold SLa; omega) (g21.sa (show SLa o ((o + 25)) by unfold SLa; omega) (g19.sa (show SLa o ((o + 25)) by unfold SLa; omega) (show ¬(o + 25 = o + 29) by omega) (g17.sa (show SLa o ((o + 25)) by unfold SLa; omega) (g15.sa (show SLa o ((o + 25)) by unfold SLa; omega) (g13.sa (show SLa o ((o + 25)) by unfold SLa; omega) (g11.sa (show SLa o ((o + 25)) by unfold SLa; omega) (g9.sa (show SLa o ((o + 25)) by unfold SLa; omega) (show ¬(o + 25 = o + 29) by omega) (g7.sa (show SLa o ((o + 25)) by unfold SLa; omega) sQ))))))))))))).2.1)) ?_
        refine g_callVI [aI ((Pq : Int)), aI ((Qq : Int))] [aI ((p31 : Int)), aO (some o), aI 3, aO (some (o + 29))] rfl rfl rfl rfl (Nat.le_of_ble_eq_true rfl) ms.1 (r_mul (by omega) ms V31 (by have := G_32.2.2.1; omega) (g31.rb (g29.rb (g27.rb (g25.rb (g23.rb (g21.rb (g19.rb (g17.rb (g15.rb (g13.rb (g11.rb (g9.rb (g7.rb xPq))))))))))))) (g31.rb (g29.rb (g27.rb (g25.rb (g23.rb (g21.rb (g19.rb (g17.rb (g15.rb (g13.rb (g11.rb (g9.rb (g7.rb xQq))))))))))))) (by omega)) ?_
        rintro _ _ ⟨p33, rfl, V33, rfl, g33, xp33⟩
        have G_34 := G_32.trans (g33.gs _)
        refine g_callVI [aI ((p31 : Int)), aI ((p33 : Int))] [aI 3, aO (some (o + 29))] rfl rfl rfl rfl (Nat.le_of_ble_eq_true rfl) ms.1 (r_add (by omega) ms V33 (by have := G_34.2.2.1; omega) (g33.rb xp31) xp33 (41) (by omega) (by omega) (by omega)) ?_
        rintro _ _ ⟨p35, rfl, V35, rfl, g35, xp35⟩
        have G_36 := G_34.trans (g35.gs _)
        refine g_iast (i := 3) rfl (mt_got ms) (by omega) (by omega) ?_
        obtain ⟨V37, eV37⟩ : ∃ W, W = vset V35 ((o + 29)) 3 (p35 : Int) := ⟨_, rfl⟩
        refine g_hp (h2 := hw h V37) (by rw [eV37]; rfl) ?_
        have g37 : Gs V35 V37 o 0 (fun q => q = o + 29) := by rw [eV37]; exact Gs.cell (show SLa o ((o + 29)) by unfold SLa; omega)
        have c37_0 : V37 ((o + 29)) 0 = (p7 : Int) := by rw [eV37, vset_ne _ _ _ _ (by omega)]; exact (g35.sc (show SLa o ((o + 29)) by unfold SLa; omega) (g33.sc (show SLa o ((o + 29)) by unfold SLa; omega) (g31.sc (show SLa o ((o + 29)) by unfold SLa; omega) c29_0)))
        have c37_1 : V37 ((o + 29)) 1 = (p17 : Int) := by rw [eV37, vset_ne _ _ _ _ (by omega)]; exact (g35.sc (show SLa o ((o + 29)) by unfold SLa; omega) (g33.sc (show SLa o ((o + 29)) by unfold SLa; omega) (g31.sc (show SLa o ((o + 29)) by unfold SLa; omega) c29_1)))
        have c37_2 : V37 ((o + 29)) 2 = (p27 : Int) := by rw [eV37, vset_ne _ _ _ _ (by omega)]; exact (g35.sc (show SLa o ((o + 29)) by unfold SLa; omega) (g33.sc (show SLa o ((o + 29)) by unfold SLa; omega) (g31.sc (show SLa o ((o + 29)) by unfold SLa; omega) c29_2)))
        have c37_3 : V37 ((o + 29)) 3 = (p35 : Int) := by rw [eV37]; exact vset_eq _ _ _ _
        have G_38 := G_36.trans (g37.wide (fun q hq => by have hq : q = o + 29 := hq; show q = o + 29; omega))
        have s37 : SA V37 ((o + 29)) p7 p17 p27 p35 := ⟨c37_0, c37_1, c37_2, c37_3⟩
        refine g_aload_n rfl rfl ?_
        refine g_aload_n rfl rfl ?_
        refine g_getR rfl ms.1 (mr_got ms) ?_
        refine g_iconst rfl ?_
        refine g_callVI [aO (some (o + 29)), aI 2] [] rfl rfl rfl rfl (Nat.le_of_ble_eq_true rfl) ms.1 (m_keepT2 (by omega) ms V37 ok (g37.mt (show ¬((o + 4) = o + 29) by omega) (show ¬((o + 5) = o + 29) by omega) (g35.mt (g33.mt (g31.mt (g29.mt (show ¬((o + 4) = o + 29) by omega) (show ¬((o + 5) = o + 29) by omega) (g27.mt (g25.mt (g23.mt (g21.mt (g19.mt (show ¬((o + 4) = o + 29) by omega) (show ¬((o + 5) = o + 29) by omega) (g17.mt (g15.mt (g13.mt (g11.mt (g9.mt (show ¬((o + 4) = o + 29) by omega) (show ¬((o + 5) = o + 29) by omega) (g7.mt mt)))))))))))))))) (by have := G_38.2.2.1; omega) ((o + 29)) (show SLa o ((o + 29)) by unfold SLa; omega) (show SB V37 o (o + 29) ((((tpR S a).2.2.1) * ((tpR S b).2.2.1), -((((tpR S a).1) * ((tpR S b).2.2.1)) + (((tpR S b).1) * ((tpR S a).2.2.1))), -((((tpR S a).2.1) * ((tpR S b).2.2.1)) + (((tpR S b).2.1) * ((tpR S a).2.2.1))), (((tpR S a).1) * ((tpR S b).1)) + (((tpR S a).2.1) * ((tpR S b).2.1)))) (41) from ⟨_, _, _, _, s37, ((g37.rb (g35.rb (g33.rb (g31.rb (g29.rb (g27.rb (g25.rb (g23.rb (g21.rb (g19.rb (g17.rb (g15.rb (g13.rb (g11.rb (g9.rb xp7))))))))))))))).up (by omega)), ((g37.rb (g35.rb (g33.rb (g31.rb (g29.rb (g27.rb (g25.rb (g23.rb (g21.rb (g19.rb xp17)))))))))).up (by omega)), ((g37.rb (g35.rb (g33.rb (g31.rb (g29.rb xp27))))).up (by omega)), ((g37.rb xp35).up (by omega))⟩) (by omega)) ?_
        rintro r39 _ ⟨V39, rfl, k39, e39, m39⟩
        refine g_iret rfl ?_
        have ek : keepM S 2 (m_s13_O S a b) = keepT S 2 (lowK 2 ((((tpR S a).2.2.1) * ((tpR S b).2.2.1), -((((tpR S a).1) * ((tpR S b).2.2.1)) + (((tpR S b).1) * ((tpR S a).2.2.1))), -((((tpR S a).2.1) * ((tpR S b).2.2.1)) + (((tpR S b).2.1) * ((tpR S a).2.2.1))), (((tpR S a).1) * ((tpR S b).1)) + (((tpR S a).2.1) * ((tpR S b).2.1))))) := by
          have eo : m_s13_O S a b = some ((((tpR S a).2.2.1) * ((tpR S b).2.2.1), -((((tpR S a).1) * ((tpR S b).2.2.1)) + (((tpR S b).1) * ((tpR S a).2.2.1))), -((((tpR S a).2.1) * ((tpR S b).2.2.1)) + (((tpR S b).2.1) * ((tpR S a).2.2.1))), (((tpR S a).1) * ((tpR S b).1)) + (((tpR S a).2.1) * ((tpR S b).2.1)))) := by
            unfold m_s13_O
            exact if_neg (by omega)
          rw [eo]
          rfl
        rw [ek]
        exact ⟨_, rfl, (Gs.km G_38 k39 (fun q hq => by have hq : q = o + 29 := hq; show q = o + 29; omega)).mono (by omega), e39, m39⟩
      · skip
        refine g_bipush rfl ?_
        refine g_iret rfl ?_
        have ek : keepM S 2 (m_s13_O S a b) = (-3, S) := by
          have eo : m_s13_O S a b = none := by
            unfold m_s13_O
            exact if_pos (by omega)
          rw [eo]
          rfl
        rw [ek]
        exact ⟨V, rfl, KM.of (G0.mono (by omega)), rfl, mt⟩
