/-! the reference's meetings and threes: printed by wip/whole/e9.py -/
noncomputable def m_s14_O (S : aS) (a b : Int) : Option T4 := m_meet_O false (tpR S a) (tpR S b)
set_option maxRecDepth 100000 in
set_option maxHeartbeats 4000000 in
theorem m_meeting14 {w : aW} {d : Nat} (hd : 9 ≤ d) {h : aH} {o : Nat} (ms : MS h o) (V : Nat → Nat → Int) {S : aS} (ok : OkT S) (mt : MT V o S) (hF : 0 ≤ V o 1 ∧ V o 1 + 64 ≤ 700) (b : Int) (a : Int) (ha : 0 ≤ a ∧ a < sT S) (tP : SB V o (o + 24) (tpR S a) (20)) (tQ : SB V o (o + 25) (tpR S b) (20))  : WP w d 311 [aO (some o), aI 14, aI a] (hw h V) (RI (fun r h1 => ∃ V1, h1 = hw h V1 ∧ KM V V1 o 64 (fun q => q = o + 29) ∧ r = (keepM S 0 (m_s14_O S a b)).1 ∧ MT V1 o (keepM S 0 (m_s14_O S a b)).2)) := by
  obtain ⟨d, rfl⟩ : ∃ d1, d = d1 + 1 := ⟨d - 1, by omega⟩
  refine WP.enter (cd := cd_X12_meeting) rfl ?_
  have G0 := Gs.refl V o (fun q => q = o + 29)
  obtain ⟨Pp, Pq, Pr, Ps, sP, xPp, xPq, xPr, xPs⟩ := tP
  obtain ⟨Qp, Qq, Qr, Qs, sQ, xQp, xQq, xQr, xQs⟩ := tQ
  have hn := ok.1
  have hls : largs 0 [aO (some o), aI 14, aI a] = [(0, aO (some o)), (1, aI 14), (2, aI a)] := rfl
  rw [hls]
  clear hls
  refine g_iload_n rfl rfl ?_
  refine g_bipush rfl ?_
  refine g_icmp_ge_f rfl (by omega) ?_
  refine g_aload_n rfl rfl ?_
  refine g_aload_n rfl rfl ?_
  refine g_getR rfl ms.1 (mr_one ms) ?_
  refine g_aload_n rfl rfl ?_
  refine g_getR rfl ms.1 (mr_two ms) ?_
  refine g_iload_n rfl rfl ?_
  refine g_bipush rfl ?_
  refine g_icmp_ne_t rfl (by omega) ?_
  refine g_iconst rfl ?_
  refine g_aload_n rfl rfl ?_
  refine g_getR rfl ms.1 (mr_got ms) ?_
  refine g_callVI [aO (some (o + 24)), aO (some (o + 25)), aI 0, aO (some (o + 29))] [] rfl rfl rfl rfl (Nat.le_of_ble_eq_true rfl) ms.1 (m_meet0 (by omega) ms V (by have := G0.2.2.1; omega) ((o + 24)) (show SLa o ((o + 24)) by unfold SLa; omega) (show SB V o (o + 24) (tpR S a) (20) from ⟨_, _, _, _, sP, (xPp.up (by omega)), (xPq.up (by omega)), (xPr.up (by omega)), (xPs.up (by omega))⟩) ((o + 25)) (show SLa o ((o + 25)) by unfold SLa; omega) (show SB V o (o + 25) (tpR S b) (20) from ⟨_, _, _, _, sQ, (xQp.up (by omega)), (xQq.up (by omega)), (xQr.up (by omega)), (xQs.up (by omega))⟩) ((o + 29)) (show SLa o ((o + 29)) by unfold SLa; omega) (by omega)) ?_
  rintro r1 _ ⟨V1, rfl, g1, q1⟩
  have G_2 := G0.trans (g1.wide (fun q hq => by have hq : q = o + 29 := hq; show q = o + 29; omega))
  cases eS1 : m_meet_O false (tpR S a) (tpR S b) with
  | none =>
    rw [eS1] at q1
    obtain rfl : r1 = 0 := q1
    refine g_if_eq_t rfl (by omega) ?_
    refine g_bipush rfl ?_
    refine g_iret rfl ?_
    have ek : keepM S 0 (m_s14_O S a b) = (-3, S) := by
      have eo : m_s14_O S a b = none := by
        exact eS1
      rw [eo]
      rfl
    rw [ek]
    exact ⟨V1, rfl, KM.of (G_2.mono (by omega)), rfl, (g1.mt (show ¬((o + 4) = o + 29) by omega) (show ¬((o + 5) = o + 29) by omega) mt)⟩
  | some P1 =>
    rw [eS1] at q1
    obtain ⟨rfl, t1, u1, v1, y1, s1, xt1, xu1, xv1, xy1⟩ := q1
    refine g_if_eq_f rfl (by omega) ?_
    refine g_aload_n rfl rfl ?_
    refine g_aload_n rfl rfl ?_
    refine g_getR rfl ms.1 (mr_got ms) ?_
    refine g_iconst rfl ?_
    refine g_callVI [aO (some (o + 29)), aI 0] [] rfl rfl rfl rfl (Nat.le_of_ble_eq_true rfl) ms.1 (m_keepT0 (by omega) ms V1 ok (g1.mt (show ¬((o + 4) = o + 29) by omega) (show ¬((o + 5) = o + 29) by omega) mt) (by have := G_2.2.2.1; omega) ((o + 29)) (show SLa o ((o + 29)) by unfold SLa; omega) (show SB V1 o (o + 29) P1 (206) from ⟨_, _, _, _, s1, (xt1.up (by omega)), (xu1.up (by omega)), (xv1.up (by omega)), (xy1.up (by omega))⟩) (by omega)) ?_
    rintro r3 _ ⟨V3, rfl, k3, e3, m3⟩
    refine g_goto rfl ?_
    refine g_iret rfl ?_
    have ek : keepM S 0 (m_s14_O S a b) = keepT S 0 (lowK 0 P1) := by
      have eo : m_s14_O S a b = some (P1) := by
        exact eS1
      rw [eo]
      rfl
    rw [ek]
    exact ⟨_, rfl, (Gs.km G_2 k3 (fun q hq => by have hq : q = o + 29 := hq; show q = o + 29; omega)).mono (by omega), e3, m3⟩
noncomputable def m_s15_O (S : aS) (a b : Int) : Option T4 := m_meet_O true (tpR S a) (tpR S b)
set_option maxRecDepth 100000 in
set_option maxHeartbeats 4000000 in
theorem m_meeting15 {w : aW} {d : Nat} (hd : 9 ≤ d) {h : aH} {o : Nat} (ms : MS h o) (V : Nat → Nat → Int) {S : aS} (ok : OkT S) (mt : MT V o S) (hF : 0 ≤ V o 1 ∧ V o 1 + 64 ≤ 700) (b : Int) (a : Int) (ha : 0 ≤ a ∧ a < sT S) (tP : SB V o (o + 24) (tpR S a) (20)) (tQ : SB V o (o + 25) (tpR S b) (20))  : WP w d 311 [aO (some o), aI 15, aI a] (hw h V) (RI (fun r h1 => ∃ V1, h1 = hw h V1 ∧ KM V V1 o 64 (fun q => q = o + 29) ∧ r = (keepM S 0 (m_s15_O S a b)).1 ∧ MT V1 o (keepM S 0 (m_s15_O S a b)).2)) := by
  obtain ⟨d, rfl⟩ : ∃ d1, d = d1 + 1 := ⟨d - 1, by omega⟩
  refine WP.enter (cd := cd_X12_meeting) rfl ?_
  have G0 := Gs.refl V o (fun q => q = o + 29)
  obtain ⟨Pp, Pq, Pr, Ps, sP, xPp, xPq, xPr, xPs⟩ := tP
  obtain ⟨Qp, Qq, Qr, Qs, sQ, xQp, xQq, xQr, xQs⟩ := tQ
  have hn := ok.1
  have hls : largs 0 [aO (some o), aI 15, aI a] = [(0, aO (some o)), (1, aI 15), (2, aI a)] := rfl
  rw [hls]
  clear hls
  refine g_iload_n rfl rfl ?_
  refine g_bipush rfl ?_
  refine g_icmp_ge_f rfl (by omega) ?_
  refine g_aload_n rfl rfl ?_
  refine g_aload_n rfl rfl ?_
  refine g_getR rfl ms.1 (mr_one ms) ?_
  refine g_aload_n rfl rfl ?_
  refine g_getR rfl ms.1 (mr_two ms) ?_
  refine g_iload_n rfl rfl ?_
  refine g_bipush rfl ?_
  refine g_icmp_ne_f rfl (by omega) ?_
  refine g_iconst rfl ?_
  refine g_goto rfl ?_
  refine g_aload_n rfl rfl ?_
  refine g_getR rfl ms.1 (mr_got ms) ?_
  refine g_callVI [aO (some (o + 24)), aO (some (o + 25)), aI 1, aO (some (o + 29))] [] rfl rfl rfl rfl (Nat.le_of_ble_eq_true rfl) ms.1 (m_meet1 (by omega) ms V (by have := G0.2.2.1; omega) ((o + 24)) (show SLa o ((o + 24)) by unfold SLa; omega) (show SB V o (o + 24) (tpR S a) (20) from ⟨_, _, _, _, sP, (xPp.up (by omega)), (xPq.up (by omega)), (xPr.up (by omega)), (xPs.up (by omega))⟩) ((o + 25)) (show SLa o ((o + 25)) by unfold SLa; omega) (show SB V o (o + 25) (tpR S b) (20) from ⟨_, _, _, _, sQ, (xQp.up (by omega)), (xQq.up (by omega)), (xQr.up (by omega)), (xQs.up (by omega))⟩) ((o + 29)) (show SLa o ((o + 29)) by unfold SLa; omega) (by omega)) ?_
  rintro r1 _ ⟨V1, rfl, g1, q1⟩
  have G_2 := G0.trans (g1.wide (fun q hq => by have hq : q = o + 29 := hq; show q = o + 29; omega))
  cases eS1 : m_meet_O true (tpR S a) (tpR S b) with
  | none =>
    rw [eS1] at q1
    obtain rfl : r1 = 0 := q1
    refine g_if_eq_t rfl (by omega) ?_
    refine g_bipush rfl ?_
    refine g_iret rfl ?_
    have ek : keepM S 0 (m_s15_O S a b) = (-3, S) := by
      have eo : m_s15_O S a b = none := by
        exact eS1
      rw [eo]
      rfl
    rw [ek]
    exact ⟨V1, rfl, KM.of (G_2.mono (by omega)), rfl, (g1.mt (show ¬((o + 4) = o + 29) by omega) (show ¬((o + 5) = o + 29) by omega) mt)⟩
  | some P1 =>
    rw [eS1] at q1
    obtain ⟨rfl, t1, u1, v1, y1, s1, xt1, xu1, xv1, xy1⟩ := q1
    refine g_if_eq_f rfl (by omega) ?_
    refine g_aload_n rfl rfl ?_
    refine g_aload_n rfl rfl ?_
    refine g_getR rfl ms.1 (mr_got ms) ?_
    refine g_iconst rfl ?_
    refine g_callVI [aO (some (o + 29)), aI 0] [] rfl rfl rfl rfl (Nat.le_of_ble_eq_true rfl) ms.1 (m_keepT0 (by omega) ms V1 ok (g1.mt (show ¬((o + 4) = o + 29) by omega) (show ¬((o + 5) = o + 29) by omega) mt) (by have := G_2.2.2.1; omega) ((o + 29)) (show SLa o ((o + 29)) by unfold SLa; omega) (show SB V1 o (o + 29) P1 (206) from ⟨_, _, _, _, s1, (xt1.up (by omega)), (xu1.up (by omega)), (xv1.up (by omega)), (xy1.up (by omega))⟩) (by omega)) ?_
    rintro r3 _ ⟨V3, rfl, k3, e3, m3⟩
    refine g_goto rfl ?_
    refine g_iret rfl ?_
    have ek : keepM S 0 (m_s15_O S a b) = keepT S 0 (lowK 0 P1) := by
      have eo : m_s15_O S a b = some (P1) := by
        exact eS1
      rw [eo]
      rfl
    rw [ek]
    exact ⟨_, rfl, (Gs.km G_2 k3 (fun q hq => by have hq : q = o + 29 := hq; show q = o + 29; omega)).mono (by omega), e3, m3⟩
noncomputable def m_s16_O (S : aS) (a b : Int) : Option T4 := m_meet_O false (m_powers_S (tpR S a) (tpR S b)) (tpR S a)
set_option maxRecDepth 100000 in
set_option maxHeartbeats 4000000 in
theorem m_meeting16 {w : aW} {d : Nat} (hd : 9 ≤ d) {h : aH} {o : Nat} (ms : MS h o) (V : Nat → Nat → Int) {S : aS} (ok : OkT S) (mt : MT V o S) (hF : 0 ≤ V o 1 ∧ V o 1 + 74 ≤ 700) (b : Int) (a : Int) (ha : 0 ≤ a ∧ a < sT S) (tP : SB V o (o + 24) (tpR S a) (20)) (tQ : SB V o (o + 25) (tpR S b) (20))  : WP w d 311 [aO (some o), aI 16, aI a] (hw h V) (RI (fun r h1 => ∃ V1, h1 = hw h V1 ∧ KM V V1 o 74 (fun q => q = o + 26 ∨ q = o + 29) ∧ r = (keepM S 0 (m_s16_O S a b)).1 ∧ MT V1 o (keepM S 0 (m_s16_O S a b)).2)) := by
  obtain ⟨d, rfl⟩ : ∃ d1, d = d1 + 1 := ⟨d - 1, by omega⟩
  refine WP.enter (cd := cd_X12_meeting) rfl ?_
  have G0 := Gs.refl V o (fun q => q = o + 26 ∨ q = o + 29)
  obtain ⟨Pp, Pq, Pr, Ps, sP, xPp, xPq, xPr, xPs⟩ := tP
  obtain ⟨Qp, Qq, Qr, Qs, sQ, xQp, xQq, xQr, xQs⟩ := tQ
  have hn := ok.1
  have hls : largs 0 [aO (some o), aI 16, aI a] = [(0, aO (some o)), (1, aI 16), (2, aI a)] := rfl
  rw [hls]
  clear hls
  refine g_iload_n rfl rfl ?_
  refine g_bipush rfl ?_
  refine g_icmp_ge_t rfl (by omega) ?_
  refine g_iload_n rfl rfl ?_
  refine g_bipush rfl ?_
  refine g_icmp_ge_f rfl (by omega) ?_
  refine g_aload_n rfl rfl ?_
  refine g_aload_n rfl rfl ?_
  refine g_getR rfl ms.1 (mr_one ms) ?_
  refine g_aload_n rfl rfl ?_
  refine g_getR rfl ms.1 (mr_two ms) ?_
  refine g_aload_n rfl rfl ?_
  refine g_getR rfl ms.1 (mr_three ms) ?_
  refine g_callVN [aO (some (o + 24)), aO (some (o + 25)), aO (some (o + 26))] [] rfl rfl rfl rfl (Nat.le_of_ble_eq_true rfl) ms.1 (m_powers (by omega) ms V (by have := G0.2.2.1; omega) ((o + 24)) (show SLa o ((o + 24)) by unfold SLa; omega) (show SB V o (o + 24) (tpR S a) (20) from ⟨_, _, _, _, sP, (xPp.up (by omega)), (xPq.up (by omega)), (xPr.up (by omega)), (xPs.up (by omega))⟩) ((o + 25)) (show SLa o ((o + 25)) by unfold SLa; omega) (show SB V o (o + 25) (tpR S b) (20) from ⟨_, _, _, _, sQ, (xQp.up (by omega)), (xQq.up (by omega)), (xQr.up (by omega)), (xQs.up (by omega))⟩) ((o + 26)) (show SLa o ((o + 26)) by unfold SLa; omega)) ?_
  rintro _ ⟨V1, rfl, g1, t1, u1, v1, y1, s1, xt1, xu1, xv1, xy1⟩
  have G_2 := G0.trans (g1.wide (fun q hq => by have hq : q = o + 26 := hq; show q = o + 26 ∨ q = o + 29; omega))
  refine g_aload_n rfl rfl ?_
  refine g_aload_n rfl rfl ?_
  refine g_getR rfl ms.1 (mr_three ms) ?_
  refine g_aload_n rfl rfl ?_
  refine g_getR rfl ms.1 (mr_one ms) ?_
  refine g_iload_n rfl rfl ?_
  refine g_bipush rfl ?_
  refine g_icmp_ne_t rfl (by omega) ?_
  refine g_iconst rfl ?_
  refine g_aload_n rfl rfl ?_
  refine g_getR rfl ms.1 (mr_got ms) ?_
  refine g_callVI [aO (some (o + 26)), aO (some (o + 24)), aI 0, aO (some (o + 29))] [] rfl rfl rfl rfl (Nat.le_of_ble_eq_true rfl) ms.1 (m_meet0 (by omega) ms V1 (by have := G_2.2.2.1; omega) ((o + 26)) (show SLa o ((o + 26)) by unfold SLa; omega) (show SB V1 o (o + 26) (m_powers_S (tpR S a) (tpR S b)) (41) from ⟨_, _, _, _, s1, (xt1.up (by omega)), (xu1.up (by omega)), (xv1.up (by omega)), (xy1.up (by omega))⟩) ((o + 24)) (show SLa o ((o + 24)) by unfold SLa; omega) (show SB V1 o (o + 24) (tpR S a) (20) from ⟨_, _, _, _, (g1.sa (show SLa o ((o + 24)) by unfold SLa; omega) (show ¬(o + 24 = o + 26) by omega) sP), ((g1.rb xPp).up (by omega)), ((g1.rb xPq).up (by omega)), ((g1.rb xPr).up (by omega)), ((g1.rb xPs).up (by omega))⟩) ((o + 29)) (show SLa o ((o + 29)) by unfold SLa; omega) (by omega)) ?_
  rintro r3 _ ⟨V3, rfl, g3, q3⟩
  have G_4 := G_2.trans (g3.wide (fun q hq => by have hq : q = o + 29 := hq; show q = o + 26 ∨ q = o + 29; omega))
  cases eS3 : m_meet_O false (m_powers_S (tpR S a) (tpR S b)) (tpR S a) with
  | none =>
    rw [eS3] at q3
    obtain rfl : r3 = 0 := q3
    refine g_if_eq_t rfl (by omega) ?_
    refine g_bipush rfl ?_
    refine g_iret rfl ?_
    have ek : keepM S 0 (m_s16_O S a b) = (-3, S) := by
      have eo : m_s16_O S a b = none := by
        exact eS3
      rw [eo]
      rfl
    rw [ek]
    exact ⟨V3, rfl, KM.of (G_4.mono (by omega)), rfl, (g3.mt (show ¬((o + 4) = o + 29) by omega) (show ¬((o + 5) = o + 29) by omega) (g1.mt (show ¬((o + 4) = o + 26) by omega) (show ¬((o + 5) = o + 26) by omega) mt))⟩
  | some P3 =>
    rw [eS3] at q3
    obtain ⟨rfl, t3, u3, v3, y3, s3, xt3, xu3, xv3, xy3⟩ := q3
    refine g_if_eq_f rfl (by omega) ?_
    refine g_aload_n rfl rfl ?_
    refine g_aload_n rfl rfl ?_
    refine g_getR rfl ms.1 (mr_got ms) ?_
    refine g_iconst rfl ?_
    refine g_callVI [aO (some (o + 29)), aI 0] [] rfl rfl rfl rfl (Nat.le_of_ble_eq_true rfl) ms.1 (m_keepT0 (by omega) ms V3 ok (g3.mt (show ¬((o + 4) = o + 29) by omega) (show ¬((o + 5) = o + 29) by omega) (g1.mt (show ¬((o + 4) = o + 26) by omega) (show ¬((o + 5) = o + 26) by omega) mt)) (by have := G_4.2.2.1; omega) ((o + 29)) (show SLa o ((o + 29)) by unfold SLa; omega) (show SB V3 o (o + 29) P3 (248) from ⟨_, _, _, _, s3, (xt3.up (by omega)), (xu3.up (by omega)), (xv3.up (by omega)), (xy3.up (by omega))⟩) (by omega)) ?_
    rintro r5 _ ⟨V5, rfl, k5, e5, m5⟩
    refine g_goto rfl ?_
    refine g_iret rfl ?_
    have ek : keepM S 0 (m_s16_O S a b) = keepT S 0 (lowK 0 P3) := by
      have eo : m_s16_O S a b = some (P3) := by
        exact eS3
      rw [eo]
      rfl
    rw [ek]
    exact ⟨_, rfl, (Gs.km G_4 k5 (fun q hq => by have hq : q = o + 29 := hq; show q = o + 26 ∨ q = o + 29; omega)).mono (by omega), e5, m5⟩
noncomputable def m_s17_O (S : aS) (a b : Int) : Option T4 := m_meet_O true (m_powers_S (tpR S a) (tpR S b)) (tpR S a)
set_option maxRecDepth 100000 in
set_option maxHeartbeats 4000000 in
theorem m_meeting17 {w : aW} {d : Nat} (hd : 9 ≤ d) {h : aH} {o : Nat} (ms : MS h o) (V : Nat → Nat → Int) {S : aS} (ok : OkT S) (mt : MT V o S) (hF : 0 ≤ V o 1 ∧ V o 1 + 74 ≤ 700) (b : Int) (a : Int) (ha : 0 ≤ a ∧ a < sT S) (tP : SB V o (o + 24) (tpR S a) (20)) (tQ : SB V o (o + 25) (tpR S b) (20))  : WP w d 311 [aO (some o), aI 17, aI a] (hw h V) (RI (fun r h1 => ∃ V1, h1 = hw h V1 ∧ KM V V1 o 74 (fun q => q = o + 26 ∨ q = o + 29) ∧ r = (keepM S 0 (m_s17_O S a b)).1 ∧ MT V1 o (keepM S 0 (m_s17_O S a b)).2)) := by
  obtain ⟨d, rfl⟩ : ∃ d1, d = d1 + 1 := ⟨d - 1, by omega⟩
  refine WP.enter (cd := cd_X12_meeting) rfl ?_
  have G0 := Gs.refl V o (fun q => q = o + 26 ∨ q = o + 29)
  obtain ⟨Pp, Pq, Pr, Ps, sP, xPp, xPq, xPr, xPs⟩ := tP
  obtain ⟨Qp, Qq, Qr, Qs, sQ, xQp, xQq, xQr, xQs⟩ := tQ
  have hn := ok.1
  have hls : largs 0 [aO (some o), aI 17, aI a] = [(0, aO (some o)), (1, aI 17), (2, aI a)] := rfl
  rw [hls]
  clear hls
  refine g_iload_n rfl rfl ?_
  refine g_bipush rfl ?_
  refine g_icmp_ge_t rfl (by omega) ?_
  refine g_iload_n rfl rfl ?_
  refine g_bipush rfl ?_
  refine g_icmp_ge_f rfl (by omega) ?_
  refine g_aload_n rfl rfl ?_
  refine g_aload_n rfl rfl ?_
  refine g_getR rfl ms.1 (mr_one ms) ?_
  refine g_aload_n rfl rfl ?_
  refine g_getR rfl ms.1 (mr_two ms) ?_
  refine g_aload_n rfl rfl ?_
  refine g_getR rfl ms.1 (mr_three ms) ?_
  refine g_callVN [aO (some (o + 24)), aO (some (o + 25)), aO (some (o + 26))] [] rfl rfl rfl rfl (Nat.le_of_ble_eq_true rfl) ms.1 (m_powers (by omega) ms V (by have := G0.2.2.1; omega) ((o + 24)) (show SLa o ((o + 24)) by unfold SLa; omega) (show SB V o (o + 24) (tpR S a) (20) from ⟨_, _, _, _, sP, (xPp.up (by omega)), (xPq.up (by omega)), (xPr.up (by omega)), (xPs.up (by omega))⟩) ((o + 25)) (show SLa o ((o + 25)) by unfold SLa; omega) (show SB V o (o + 25) (tpR S b) (20) from ⟨_, _, _, _, sQ, (xQp.up (by omega)), (xQq.up (by omega)), (xQr.up (by omega)), (xQs.up (by omega))⟩) ((o + 26)) (show SLa o ((o + 26)) by unfold SLa; omega)) ?_
  rintro _ ⟨V1, rfl, g1, t1, u1, v1, y1, s1, xt1, xu1, xv1, xy1⟩
  have G_2 := G0.trans (g1.wide (fun q hq => by have hq : q = o + 26 := hq; show q = o + 26 ∨ q = o + 29; omega))
  refine g_aload_n rfl rfl ?_
  refine g_aload_n rfl rfl ?_
  refine g_getR rfl ms.1 (mr_three ms) ?_
  refine g_aload_n rfl rfl ?_
  refine g_getR rfl ms.1 (mr_one ms) ?_
  refine g_iload_n rfl rfl ?_
  refine g_bipush rfl ?_
  refine g_icmp_ne_f rfl (by omega) ?_
  refine g_iconst rfl ?_
  refine g_goto rfl ?_
  refine g_aload_n rfl rfl ?_
  refine g_getR rfl ms.1 (mr_got ms) ?_
  refine g_callVI [aO (some (o + 26)), aO (some (o + 24)), aI 1, aO (some (o + 29))] [] rfl rfl rfl rfl (Nat.le_of_ble_eq_true rfl) ms.1 (m_meet1 (by omega) ms V1 (by have := G_2.2.2.1; omega) ((o + 26)) (show SLa o ((o + 26)) by unfold SLa; omega) (show SB V1 o (o + 26) (m_powers_S (tpR S a) (tpR S b)) (41) from ⟨_, _, _, _, s1, (xt1.up (by omega)), (xu1.up (by omega)), (xv1.up (by omega)), (xy1.up (by omega))⟩) ((o + 24)) (show SLa o ((o + 24)) by unfold SLa; omega) (show SB V1 o (o + 24) (tpR S a) (20) from ⟨_, _, _, _, (g1.sa (show SLa o ((o + 24)) by unfold SLa; omega) (show ¬(o + 24 = o + 26) by omega) sP), ((g1.rb xPp).up (by omega)), ((g1.rb xPq).up (by omega)), ((g1.rb xPr).up (by omega)), ((g1.rb xPs).up (by omega))⟩) ((o + 29)) (show SLa o ((o + 29)) by unfold SLa; omega) (by omega)) ?_
  rintro r3 _ ⟨V3, rfl, g3, q3⟩
  have G_4 := G_2.trans (g3.wide (fun q hq => by have hq : q = o + 29 := hq; show q = o + 26 ∨ q = o + 29; omega))
  cases eS3 : m_meet_O true (m_powers_S (tpR S a) (tpR S b)) (tpR S a) with
  | none =>
    rw [eS3] at q3
    obtain rfl : r3 = 0 := q3
    refine g_if_eq_t rfl (by omega) ?_
    refine g_bipush rfl ?_
    refine g_iret rfl ?_
    have ek : keepM S 0 (m_s17_O S a b) = (-3, S) := by
      have eo : m_s17_O S a b = none := by
        exact eS3
      rw [eo]
      rfl
    rw [ek]
    exact ⟨V3, rfl, KM.of (G_4.mono (by omega)), rfl, (g3.mt (show ¬((o + 4) = o + 29) by omega) (show ¬((o + 5) = o + 29) by omega) (g1.mt (show ¬((o + 4) = o + 26) by omega) (show ¬((o + 5) = o + 26) by omega) mt))⟩
  | some P3 =>
    rw [eS3] at q3
    obtain ⟨rfl, t3, u3, v3, y3, s3, xt3, xu3, xv3, xy3⟩ := q3
    refine g_if_eq_f rfl (by omega) ?_
    refine g_aload_n rfl rfl ?_
    refine g_aload_n rfl rfl ?_
    refine g_getR rfl ms.1 (mr_got ms) ?_
    refine g_iconst rfl ?_
    refine g_callVI [aO (some (o + 29)), aI 0] [] rfl rfl rfl rfl (Nat.le_of_ble_eq_true rfl) ms.1 (m_keepT0 (by omega) ms V3 ok (g3.mt (show ¬((o + 4) = o + 29) by omega) (show ¬((o + 5) = o + 29) by omega) (g1.mt (show ¬((o + 4) = o + 26) by omega) (show ¬((o + 5) = o + 26) by omega) mt)) (by have := G_4.2.2.1; omega) ((o + 29)) (show SLa o ((o + 29)) by unfold SLa; omega) (show SB V3 o (o + 29) P3 (248) from ⟨_, _, _, _, s3, (xt3.up (by omega)), (xu3.up (by omega)), (xv3.up (by omega)), (xy3.up (by omega))⟩) (by omega)) ?_
    rintro r5 _ ⟨V5, rfl, k5, e5, m5⟩
    refine g_goto rfl ?_
    refine g_iret rfl ?_
    have ek : keepM S 0 (m_s17_O S a b) = keepT S 0 (lowK 0 P3) := by
      have eo : m_s17_O S a b = some (P3) := by
        exact eS3
      rw [eo]
      rfl
    rw [ek]
    exact ⟨_, rfl, (Gs.km G_4 k5 (fun q hq => by have hq : q = o + 29 := hq; show q = o + 26 ∨ q = o + 29; omega)).mono (by omega), e5, m5⟩
def m_t_heights_O (S : aS) (a b c : Int) : Option T4 := if m_det_S (tpR S a) (tpR S b) (tpR S c) = 0 then none else some (m_cross_S (m_upright_S (tpR S a) (m_cross_S (tpR S b) (tpR S c))) (m_upright_S (tpR S b) (m_cross_S (tpR S a) (tpR S c))))
set_option maxRecDepth 100000 in
set_option maxHeartbeats 4000000 in
theorem m_heights {w : aW} {d : Nat} (hd : 9 ≤ d) {h : aH} {o : Nat} (ms : MS h o) (V : Nat → Nat → Int) {S : aS} (ok : OkT S) (mt : MT V o S) (a b c : Int) (hF : 0 ≤ V o 1 ∧ V o 1 + 90 ≤ 700) (tP : SB V o (o + 24) (tpR S a) (20)) (tQ : SB V o (o + 25) (tpR S b) (20)) (tR : SB V o (o + 26) (tpR S c) (20))  : WP w d 313 [aO (some o)] (hw h V) (RI (fun r h1 => ∃ V1, h1 = hw h V1 ∧ KM V V1 o 90 (fun q => q = o + 27 ∨ q = o + 28 ∨ q = o + 30 ∨ q = o + 31 ∨ q = o + 29) ∧ r = (keepM S 0 (m_t_heights_O S a b c)).1 ∧ MT V1 o (keepM S 0 (m_t_heights_O S a b c)).2)) := by
  obtain ⟨d, rfl⟩ : ∃ d1, d = d1 + 1 := ⟨d - 1, by omega⟩
  refine WP.enter (cd := cd_X12_heights) rfl ?_
  have G0 := Gs.refl V o (fun q => q = o + 27 ∨ q = o + 28 ∨ q = o + 30 ∨ q = o + 31 ∨ q = o + 29)
  obtain ⟨Pp, Pq, Pr, Ps, sP, xPp, xPq, xPr, xPs⟩ := tP
  obtain ⟨Qp, Qq, Qr, Qs, sQ, xQp, xQq, xQr, xQs⟩ := tQ
  obtain ⟨Rp, Rq, Rr, Rs, sR, xRp, xRq, xRr, xRs⟩ := tR
  have hn := ok.1
  have l0 := @lcmp_0 (m_det_S (tpR S a) (tpR S b) (tpR S c)) 0
  have hls : largs 0 [aO (some o)] = [(0, aO (some o))] := rfl
  rw [hls]
  clear hls
  refine g_aload_n rfl rfl ?_
  refine g_aload_n rfl rfl ?_
  refine g_aload_n rfl rfl ?_
  refine g_getR rfl ms.1 (mr_one ms) ?_
  refine g_aload_n rfl rfl ?_
  refine g_getR rfl ms.1 (mr_two ms) ?_
  refine g_aload_n rfl rfl ?_
  refine g_getR rfl ms.1 (mr_three ms) ?_
  refine g_callVI [aO (some (o + 24)), aO (some (o + 25)), aO (some (o + 26))] [aO (some o)] rfl rfl rfl rfl (Nat.le_of_ble_eq_true rfl) ms.1 (m_det (by omega) ms V (by have := G0.2.2.1; omega) ((o + 24)) (show SLa o ((o + 24)) by unfold SLa; omega) (show SB V o (o + 24) (tpR S a) (20) from ⟨_, _, _, _, sP, (xPp.up (by omega)), (xPq.up (by omega)), (xPr.up (by omega)), (xPs.up (by omega))⟩) ((o + 25)) (show SLa o ((o + 25)) by unfold SLa; omega) (show SB V o (o + 25) (tpR S b) (20) from ⟨_, _, _, _, sQ, (xQp.up (by omega)), (xQq.up (by omega)), (xQr.up (by omega)), (xQs.up (by omega))⟩) ((o + 26)) (show SLa o ((o + 26)) by unfold SLa; omega) (show SB V o (o + 26) (tpR S c) (20) from ⟨_, _, _, _, sR, (xRp.up (by omega)), (xRq.up (by omega)), (xRr.up (by omega)), (xRs.up (by omega))⟩)) ?_
  rintro _ _ ⟨p1, rfl, V1, rfl, g1, xp1⟩
  have G_2 := G0.trans (g1.gs _)
  refine g_callVI [aI ((p1 : Int))] [] rfl rfl rfl rfl (Nat.le_of_ble_eq_true rfl) ms.1 (r_sign (by omega) ms V1 xp1) ?_
  rintro r3 _ ⟨rfl, e4⟩
  rw [e4]
  clear e4 r3
  refine g_if_ne rfl (fun c20 => ?_) (fun c20 => ?_)
  · skip
    refine g_aload_n rfl rfl ?_
    refine g_aload_n rfl rfl ?_
    refine g_getR rfl ms.1 (mr_two ms) ?_
    refine g_aload_n rfl rfl ?_
    refine g_getR rfl ms.1 (mr_three ms) ?_
    refine g_aload_n rfl rfl ?_
    refine g_getR rfl ms.1 (mr_four ms) ?_
    refine g_callVN [aO (some (o + 25)), aO (some (o + 26)), aO (some (o + 27))] [] rfl rfl rfl rfl (Nat.le_of_ble_eq_true rfl) ms.1 (m_cross (by omega) ms V1 (by have := G_2.2.2.1; omega) ((o + 25)) (show SLa o ((o + 25)) by unfold SLa; omega) (show SB V1 o (o + 25) (tpR S b) (20) from ⟨_, _, _, _, (g1.sa (show SLa o ((o + 25)) by unfold SLa; omega) sQ), ((g1.rb xQp).up (by omega)), ((g1.rb xQq).up (by omega)), ((g1.rb xQr).up (by omega)), ((g1.rb xQs).up (by omega))⟩) ((o + 26)) (show SLa o ((o + 26)) by unfold SLa; omega) (show SB V1 o (o + 26) (tpR S c) (20) from ⟨_, _, _, _, (g1.sa (show SLa o ((o + 26)) by unfold SLa; omega) sR), ((g1.rb xRp).up (by omega)), ((g1.rb xRq).up (by omega)), ((g1.rb xRr).up (by omega)), ((g1.rb xRs).up (by omega))⟩) ((o + 27)) (show SLa o ((o + 27)) by unfold SLa; omega) (by omega)) ?_
    rintro _ ⟨V5, rfl, g5, t5, u5, v5, y5, s5, xt5, xu5, xv5, xy5⟩
    have G_6 := G_2.trans (g5.wide (fun q hq => by have hq : q = o + 27 := hq; show q = o + 27 ∨ q = o + 28 ∨ q = o + 30 ∨ q = o + 31 ∨ q = o + 29; omega))
    refine g_aload_n rfl rfl ?_
    refine g_aload_n rfl rfl ?_
    refine g_getR rfl ms.1 (mr_one ms) ?_
    refine g_aload_n rfl rfl ?_
    refine g_getR rfl ms.1 (mr_four ms) ?_
    refine g_aload_n rfl rfl ?_
    refine g_getR rfl ms.1 (mr_limits ms) ?_
    refine g_callVN [aO (some (o + 24)), aO (some (o + 27)), aO (some (o + 30))] [] rfl rfl rfl rfl (Nat.le_of_ble_eq_true rfl) ms.1 (m_upright (by omega) ms V5 (by have := G_6.2.2.1; omega) ((o + 24)) (show SLa o ((o + 24)) by unfold SLa; omega) (show SB V5 o (o + 24) (tpR S a) (20) from ⟨_, _, _, _, (g5.sa (show SLa o ((o + 24)) by unfold SLa; omega) (show ¬(o + 24 = o + 27) by omega) (g1.sa (show SLa o ((o + 24)) by unfold SLa; omega) sP)), ((g5.rb (g1.rb xPp)).up (by omega)), ((g5.rb (g1.rb xPq)).up (by omega)), ((g5.rb (g1.rb xPr)).up (by omega)), ((g5.rb (g1.rb xPs)).up (by omega))⟩) ((o + 27)) (show SLa o ((o + 27)) by unfold SLa; omega) (show SB V5 o (o + 27) (m_cross_S (tpR S b) (tpR S c)) (42) from ⟨_, _, _, _, s5, (xt5.up (by omega)), (xu5.up (by omega)), (xv5.up (by omega)), (xy5.up (by omega))⟩) ((o + 30)) (show SLa o ((o + 30)) by unfold SLa; omega) (by omega)) ?_
    rintro _ ⟨V7, rfl, g7, t7, u7, v7, y7, s7, xt7, xu7, xv7, xy7⟩
    have G_8 := G_6.trans (g7.wide (fun q hq => by have hq : q = o + 28 ∨ q = o + 30 := hq; show q = o + 27 ∨ q = o + 28 ∨ q = o + 30 ∨ q = o + 31 ∨ q = o + 29; omega))
    refine g_aload_n rfl rfl ?_
    refine g_aload_n rfl rfl ?_
    refine g_getR rfl ms.1 (mr_one ms) ?_
    refine g_aload_n rfl rfl ?_
    refine g_getR rfl ms.1 (mr_three ms) ?_
    refine g_aload_n rfl rfl ?_
    refine g_getR rfl ms.1 (mr_four ms) ?_
    refine g_callVN [aO (some (o + 24)), aO (some (o + 26)), aO (some (o + 27))] [] rfl rfl rfl rfl (Nat.le_of_ble_eq_true rfl) ms.1 (m_cross (by omega) ms V7 (by have := G_8.2.2.1; omega) ((o + 24)) (show SLa o ((o + 24)) by unfold SLa; omega) (show SB V7 o (o + 24) (tpR S a) (20) from ⟨_, _, _, _, (g7.sa (show SLa o ((o + 24)) by unfold SLa; omega) (show ¬(o + 24 = o + 28 ∨ o + 24 = o + 30) by omega) (g5.sa (show SLa o ((o + 24)) by unfold SLa; omega) (show ¬(o + 24 = o + 27) by omega) (g1.sa (show SLa o ((o + 24)) by unfold SLa; omega) sP))), ((g7.rb (g5.rb (g1.rb xPp))).up (by omega)), ((g7.rb (g5.rb (g1.rb xPq))).up (by omega)), ((g7.rb (g5.rb (g1.rb xPr))).up (by omega)), ((g7.rb (g5.rb (g1.rb xPs))).up (by omega))⟩) ((o + 26)) (show SLa o ((o + 26)) by unfold SLa; omega) (show SB V7 o (o + 26) (tpR S c) (20) from ⟨_, _, _, _, (g7.sa (show SLa o ((o + 26)) by unfold SLa; omega) (show ¬(o + 26 = o + 28 ∨ o + 26 = o + 30) by omega) (g5.sa (show SLa o ((o + 26)) by unfold SLa; omega) (show ¬(o + 26 = o + 27) by omega) (g1.sa (show SLa o ((o + 26)) by unfold SLa; omega) sR))), ((g7.rb (g5.rb (g1.rb xRp))).up (by omega)), ((g7.rb (g5.rb (g1.rb xRq))).up (by omega)), ((g7.rb (g5.rb (g1.rb xRr))).up (by omega)), ((g7.rb (g5.rb (g1.rb xRs))).up (by omega))⟩) ((o + 27)) (show SLa o ((o + 27)) by unfold SLa; omega) (by omega)) ?_
    rintro _ ⟨V9, rfl, g9, t9, u9, v9, y9, s9, xt9, xu9, xv9, xy9⟩
    have G_10 := G_8.trans (g9.wide (fun q hq => by have hq : q = o + 27 := hq; show q = o + 27 ∨ q = o + 28 ∨ q = o + 30 ∨ q = o + 31 ∨ q = o + 29; omega))
    refine g_aload_n rfl rfl ?_
    refine g_aload_n rfl rfl ?_
    refine g_getR rfl ms.1 (mr_two ms) ?_
    refine g_aload_n rfl rfl ?_
    refine g_getR rfl ms.1 (mr_four ms) ?_
    refine g_aload_n rfl rfl ?_
    refine g_getR rfl ms.1 (mr_sixth ms) ?_
    refine g_callVN [aO (some (o + 25)), aO (some (o + 27)), aO (some (o + 31))] [] rfl rfl rfl rfl (Nat.le_of_ble_eq_true rfl) ms.1 (m_upright (by omega) ms V9 (by have := G_10.2.2.1; omega) ((o + 25)) (show SLa o ((o + 25)) by unfold SLa; omega) (show SB V9 o (o + 25) (tpR S b) (20) from ⟨_, _, _, _, (g9.sa (show SLa o ((o + 25)) by unfold SLa; omega) (show ¬(o + 25 = o + 27) by omega) (g7.sa (show SLa o ((o + 25)) by unfold SLa; omega) (show ¬(o + 25 = o + 28 ∨ o + 25 = o + 30) by omega) (g5.sa (show SLa o ((o + 25)) by unfold SLa; omega) (show ¬(o + 25 = o + 27) by omega) (g1.sa (show SLa o ((o + 25)) by unfold SLa; omega) sQ)))), ((g9.rb (g7.rb (g5.rb (g1.rb xQp)))).up (by omega)), ((g9.rb (g7.rb (g5.rb (g1.rb xQq)))).up (by omega)), ((g9.rb (g7.rb (g5.rb (g1.rb xQr)))).up (by omega)), ((g9.rb (g7.rb (g5.rb (g1.rb xQs)))).up (by omega))⟩) ((o + 27)) (show SLa o ((o + 27)) by unfold SLa; omega) (show SB V9 o (o + 27) (m_cross_S (tpR S a) (tpR S c)) (42) from ⟨_, _, _, _, s9, (xt9.up (by omega)), (xu9.up (by omega)), (xv9.up (by omega)), (xy9.up (by omega))⟩) ((o + 31)) (show SLa o ((o + 31)) by unfold SLa; omega) (by omega)) ?_
    rintro _ ⟨V11, rfl, g11, t11, u11, v11, y11, s11, xt11, xu11, xv11, xy11⟩
    have G_12 := G_10.trans (g11.wide (fun q hq => by have hq : q = o + 28 ∨ q = o + 31 := hq; show q = o + 27 ∨ q = o + 28 ∨ q = o + 30 ∨ q = o + 31 ∨ q = o + 29; omega))
    refine g_aload_n rfl rfl ?_
    refine g_aload_n rfl rfl ?_
    refine g_getR rfl ms.1 (mr_limits ms) ?_
    refine g_aload_n rfl rfl ?_
    refine g_getR rfl ms.1 (mr_sixth ms) ?_
    refine g_aload_n rfl rfl ?_
    refine g_getR rfl ms.1 (mr_got ms) ?_
    refine g_callVN [aO (some (o + 30)), aO (some (o + 31)), aO (some (o + 29))] [] rfl rfl rfl rfl (Nat.le_of_ble_eq_true rfl) ms.1 (m_cross (by omega) ms V11 (by have := G_12.2.2.1; omega) ((o + 30)) (show SLa o ((o + 30)) by unfold SLa; omega) (show SB V11 o (o + 30) (m_upright_S (tpR S a) (m_cross_S (tpR S b) (tpR S c))) (85) from ⟨_, _, _, _, (g11.sa (show SLa o ((o + 30)) by unfold SLa; omega) (show ¬(o + 30 = o + 28 ∨ o + 30 = o + 31) by omega) (g9.sa (show SLa o ((o + 30)) by unfold SLa; omega) (show ¬(o + 30 = o + 27) by omega) s7)), ((g11.rb (g9.rb xt7)).up (by omega)), ((g11.rb (g9.rb xu7)).up (by omega)), ((g11.rb (g9.rb xv7)).up (by omega)), ((g11.rb (g9.rb xy7)).up (by omega))⟩) ((o + 31)) (show SLa o ((o + 31)) by unfold SLa; omega) (show SB V11 o (o + 31) (m_upright_S (tpR S b) (m_cross_S (tpR S a) (tpR S c))) (85) from ⟨_, _, _, _, s11, (xt11.up (by omega)), (xu11.up (by omega)), (xv11.up (by omega)), (xy11.up (by omega))⟩) ((o + 29)) (show SLa o ((o + 29)) by unfold SLa; omega) (by omega)) ?_
    rintro _ ⟨V13, rfl, g13, t13, u13, v13, y13, s13, xt13, xu13, xv13, xy13⟩
    have G_14 := G_12.trans (g13.wide (fun q hq => by have hq : q = o + 29 := hq; show q = o + 27 ∨ q = o + 28 ∨ q = o + 30 ∨ q = o + 31 ∨ q = o + 29; omega))
    refine g_aload_n rfl rfl ?_
    refine g_aload_n rfl rfl ?_
    refine g_getR rfl ms.1 (mr_got ms) ?_
    refine g_iconst rfl ?_
    refine g_callVI [aO (some (o + 29)), aI 0] [] rfl rfl rfl rfl (Nat.le_of_ble_eq_true rfl) ms.1 (m_keepT0 (by omega) ms V13 ok (g13.mt (show ¬((o + 4) = o + 29) by omega) (show ¬((o + 5) = o + 29) by omega) (g11.mt (show ¬((o + 4) = o + 28 ∨ (o + 4) = o + 31) by omega) (show ¬((o + 5) = o + 28 ∨ (o + 5) = o + 31) by omega) (g9.mt (show ¬((o + 4) = o + 27) by omega) (show ¬((o + 5) = o + 27) by omega) (g7.mt (show ¬((o + 4) = o + 28 ∨ (o + 4) = o + 30) by omega) (show ¬((o + 5) = o + 28 ∨ (o + 5) = o + 30) by omega) (g5.mt (show ¬((o + 4) = o + 27) by omega) (show ¬((o + 5) = o + 27) by omega) (g1.mt mt)))))) (by have := G_14.2.2.1; omega) ((o + 29)) (show SLa o ((o + 29)) by unfold SLa; omega) (show SB V13 o (o + 29) (m_cross_S (m_upright_S (tpR S a) (m_cross_S (tpR S b) (tpR S c))) (m_upright_S (tpR S b) (m_cross_S (tpR S a) (tpR S c)))) (171) from ⟨_, _, _, _, s13, (xt13.up (by omega)), (xu13.up (by omega)), (xv13.up (by omega)), (xy13.up (by omega))⟩) (by omega)) ?_
    rintro r15 _ ⟨V15, rfl, k15, e15, m15⟩
    refine g_iret rfl ?_
    have ek : keepM S 0 (m_t_heights_O S a b c) = keepT S 0 (lowK 0 (m_cross_S (m_upright_S (tpR S a) (m_cross_S (tpR S b) (tpR S c))) (m_upright_S (tpR S b) (m_cross_S (tpR S a) (tpR S c))))) := by
      have eo : m_t_heights_O S a b c = some (m_cross_S (m_upright_S (tpR S a) (m_cross_S (tpR S b) (tpR S c))) (m_upright_S (tpR S b) (m_cross_S (tpR S a) (tpR S c)))) := by
        unfold m_t_heights_O
        exact if_neg (by omega)
      rw [eo]
      rfl
    rw [ek]
    exact ⟨_, rfl, (Gs.km G_14 k15 (fun q hq => by have hq : q = o + 29 := hq; show q = o + 27 ∨ q = o + 28 ∨ q = o + 30 ∨ q = o + 31 ∨ q = o + 29; omega)).mono (by omega), e15, m15⟩
  · skip
    refine g_bipush rfl ?_
    refine g_iret rfl ?_
    have ek : keepM S 0 (m_t_heights_O S a b c) = (-3, S) := by
      have eo : m_t_heights_O S a b c = none := by
        unfold m_t_heights_O
        exact if_pos (by omega)
      rw [eo]
      rfl
    rw [ek]
    exact ⟨V1, rfl, KM.of (G_2.mono (by omega)), rfl, (g1.mt mt)⟩
def m_t_nine_O (S : aS) (a b c : Int) : Option T4 := m_thru_O (m_middle_S (tpR S a) (tpR S b)) (m_middle_S (tpR S b) (tpR S c)) (m_middle_S (tpR S a) (tpR S c))
set_option maxRecDepth 100000 in
set_option maxHeartbeats 4000000 in
theorem m_nine {w : aW} {d : Nat} (hd : 9 ≤ d) {h : aH} {o : Nat} (ms : MS h o) (V : Nat → Nat → Int) {S : aS} (ok : OkT S) (mt : MT V o S) (a b c : Int) (hF : 0 ≤ V o 1 ∧ V o 1 + 196 ≤ 700) (tP : SB V o (o + 24) (tpR S a) (20)) (tQ : SB V o (o + 25) (tpR S b) (20)) (tR : SB V o (o + 26) (tpR S c) (20))  : WP w d 315 [aO (some o)] (hw h V) (RI (fun r h1 => ∃ V1, h1 = hw h V1 ∧ KM V V1 o 196 (fun q => q = o + 27 ∨ q = o + 30 ∨ q = o + 31 ∨ q = o + 29) ∧ r = (keepM S 2 (m_t_nine_O S a b c)).1 ∧ MT V1 o (keepM S 2 (m_t_nine_O S a b c)).2)) := by
  obtain ⟨d, rfl⟩ : ∃ d1, d = d1 + 1 := ⟨d - 1, by omega⟩
  refine WP.enter (cd := cd_X12_nine) rfl ?_
  have G0 := Gs.refl V o (fun q => q = o + 27 ∨ q = o + 30 ∨ q = o + 31 ∨ q = o + 29)
  obtain ⟨Pp, Pq, Pr, Ps, sP, xPp, xPq, xPr, xPs⟩ := tP
  obtain ⟨Qp, Qq, Qr, Qs, sQ, xQp, xQq, xQr, xQs⟩ := tQ
  obtain ⟨Rp, Rq, Rr, Rs, sR, xRp, xRq, xRr, xRs⟩ := tR
  have hn := ok.1
  have hls : largs 0 [aO (some o)] = [(0, aO (some o))] := rfl
  rw [hls]
  clear hls
  refine g_aload_n rfl rfl ?_
  refine g_aload_n rfl rfl ?_
  refine g_getR rfl ms.1 (mr_one ms) ?_
  refine g_aload_n rfl rfl ?_
  refine g_getR rfl ms.1 (mr_two ms) ?_
  refine g_aload_n rfl rfl ?_
  refine g_getR rfl ms.1 (mr_four ms) ?_
  refine g_callVN [aO (some (o + 24)), aO (some (o + 25)), aO (some (o + 27))] [] rfl rfl rfl rfl (Nat.le_of_ble_eq_true rfl) ms.1 (m_middle (by omega) ms V (by have := G0.2.2.1; omega) ((o + 24)) (show SLa o ((o + 24)) by unfold SLa; omega) (show SB V o (o + 24) (tpR S a) (20) from ⟨_, _, _, _, sP, (xPp.up (by omega)), (xPq.up (by omega)), (xPr.up (by omega)), (xPs.up (by omega))⟩) ((o + 25)) (show SLa o ((o + 25)) by unfold SLa; omega) (show SB V o (o + 25) (tpR S b) (20) from ⟨_, _, _, _, sQ, (xQp.up (by omega)), (xQq.up (by omega)), (xQr.up (by omega)), (xQs.up (by omega))⟩) ((o + 27)) (show SLa o ((o + 27)) by unfold SLa; omega)) ?_
  rintro _ ⟨V1, rfl, g1, t1, u1, v1, y1, s1, xt1, xu1, xv1, xy1⟩
  have G_2 := G0.trans (g1.wide (fun q hq => by have hq : q = o + 27 := hq; show q = o + 27 ∨ q = o + 30 ∨ q = o + 31 ∨ q = o + 29; omega))
  refine g_aload_n rfl rfl ?_
  refine g_aload_n rfl rfl ?_
  refine g_getR rfl ms.1 (mr_two ms) ?_
  refine g_aload_n rfl rfl ?_
  refine g_getR rfl ms.1 (mr_three ms) ?_
  refine g_aload_n rfl rfl ?_
  refine g_getR rfl ms.1 (mr_limits ms) ?_
  refine g_callVN [aO (some (o + 25)), aO (some (o + 26)), aO (some (o + 30))] [] rfl rfl rfl rfl (Nat.le_of_ble_eq_true rfl) ms.1 (m_middle (by omega) ms V1 (by have := G_2.2.2.1; omega) ((o + 25)) (show SLa o ((o + 25)) by unfold SLa; omega) (show SB V1 o (o + 25) (tpR S b) (20) from ⟨_, _, _, _, (g1.sa (show SLa o ((o + 25)) by unfold SLa; omega) (show ¬(o + 25 = o + 27) by omega) sQ), ((g1.rb xQp).up (by omega)), ((g1.rb xQq).up (by omega)), ((g1.rb xQr).up (by omega)), ((g1.rb xQs).up (by omega))⟩) ((o + 26)) (show SLa o ((o + 26)) by unfold SLa; omega) (show SB V1 o (o + 26) (tpR S c) (20) from ⟨_, _, _, _, (g1.sa (show SLa o ((o + 26)) by unfold SLa; omega) (show ¬(o + 26 = o + 27) by omega) sR), ((g1.rb xRp).up (by omega)), ((g1.rb xRq).up (by omega)), ((g1.rb xRr).up (by omega)), ((g1.rb xRs).up (by omega))⟩) ((o + 30)) (show SLa o ((o + 30)) by unfold SLa; omega)) ?_
  rintro _ ⟨V3, rfl, g3, t3, u3, v3, y3, s3, xt3, xu3, xv3, xy3⟩
  have G_4 := G_2.trans (g3.wide (fun q hq => by have hq : q = o + 30 := hq; show q = o + 27 ∨ q = o + 30 ∨ q = o + 31 ∨ q = o + 29; omega))
  refine g_aload_n rfl rfl ?_
  refine g_aload_n rfl rfl ?_
  refine g_getR rfl ms.1 (mr_one ms) ?_
  refine g_aload_n rfl rfl ?_
  refine g_getR rfl ms.1 (mr_three ms) ?_
  refine g_aload_n rfl rfl ?_
  refine g_getR rfl ms.1 (mr_sixth ms) ?_
  refine g_callVN [aO (some (o + 24)), aO (some (o + 26)), aO (some (o + 31))] [] rfl rfl rfl rfl (Nat.le_of_ble_eq_true rfl) ms.1 (m_middle (by omega) ms V3 (by have := G_4.2.2.1; omega) ((o + 24)) (show SLa o ((o + 24)) by unfold SLa; omega) (show SB V3 o (o + 24) (tpR S a) (20) from ⟨_, _, _, _, (g3.sa (show SLa o ((o + 24)) by unfold SLa; omega) (show ¬(o + 24 = o + 30) by omega) (g1.sa (show SLa o ((o + 24)) by unfold SLa; omega) (show ¬(o + 24 = o + 27) by omega) sP)), ((g3.rb (g1.rb xPp)).up (by omega)), ((g3.rb (g1.rb xPq)).up (by omega)), ((g3.rb (g1.rb xPr)).up (by omega)), ((g3.rb (g1.rb xPs)).up (by omega))⟩) ((o + 26)) (show SLa o ((o + 26)) by unfold SLa; omega) (show SB V3 o (o + 26) (tpR S c) (20) from ⟨_, _, _, _, (g3.sa (show SLa o ((o + 26)) by unfold SLa; omega) (show ¬(o + 26 = o + 30) by omega) (g1.sa (show SLa o ((o + 26)) by unfold SLa; omega) (show ¬(o + 26 = o + 27) by omega) sR)), ((g3.rb (g1.rb xRp)).up (by omega)), ((g3.rb (g1.rb xRq)).up (by omega)), ((g3.rb (g1.rb xRr)).up (by omega)), ((g3.rb (g1.rb xRs)).up (by omega))⟩) ((o + 31)) (show SLa o ((o + 31)) by unfold SLa; omega)) ?_
  rintro _ ⟨V5, rfl, g5, t5, u5, v5, y5, s5, xt5, xu5, xv5, xy5⟩
  have G_6 := G_4.trans (g5.wide (fun q hq => by have hq : q = o + 31 := hq; show q = o + 27 ∨ q = o + 30 ∨ q = o + 31 ∨ q = o + 29; omega))
  refine g_aload_n rfl rfl ?_
  refine g_aload_n rfl rfl ?_
  refine g_getR rfl ms.1 (mr_four ms) ?_
  refine g_aload_n rfl rfl ?_
  refine g_getR rfl ms.1 (mr_limits ms) ?_
  refine g_aload_n rfl rfl ?_
  refine g_getR rfl ms.1 (mr_sixth ms) ?_
  refine g_aload_n rfl rfl ?_
  refine g_getR rfl ms.1 (mr_got ms) ?_
  refine g_callVI [aO (some (o + 27)), aO (some (o + 30)), aO (some (o + 31)), aO (some (o + 29))] [] rfl rfl rfl rfl (Nat.le_of_ble_eq_true rfl) ms.1 (m_thru (by omega) ms V5 (by have := G_6.2.2.1; omega) ((o + 27)) (show SLa o ((o + 27)) by unfold SLa; omega) (show SB V5 o (o + 27) (m_middle_S (tpR S a) (tpR S b)) (41) from ⟨_, _, _, _, (g5.sa (show SLa o ((o + 27)) by unfold SLa; omega) (show ¬(o + 27 = o + 31) by omega) (g3.sa (show SLa o ((o + 27)) by unfold SLa; omega) (show ¬(o + 27 = o + 30) by omega) s1)), ((g5.rb (g3.rb xt1)).up (by omega)), ((g5.rb (g3.rb xu1)).up (by omega)), ((g5.rb (g3.rb xv1)).up (by omega)), ((g5.rb (g3.rb xy1)).up (by omega))⟩) ((o + 30)) (show SLa o ((o + 30)) by unfold SLa; omega) (show SB V5 o (o + 30) (m_middle_S (tpR S b) (tpR S c)) (41) from ⟨_, _, _, _, (g5.sa (show SLa o ((o + 30)) by unfold SLa; omega) (show ¬(o + 30 = o + 31) by omega) s3), ((g5.rb xt3).up (by omega)), ((g5.rb xu3).up (by omega)), ((g5.rb xv3).up (by omega)), ((g5.rb xy3).up (by omega))⟩) ((o + 31)) (show SLa o ((o + 31)) by unfold SLa; omega) (show SB V5 o (o + 31) (m_middle_S (tpR S a) (tpR S c)) (41) from ⟨_, _, _, _, s5, (xt5.up (by omega)), (xu5.up (by omega)), (xv5.up (by omega)), (xy5.up (by omega))⟩) ((o + 29)) (show SLa o ((o + 29)) by unfold SLa; omega) (by omega)) ?_
  rintro r7 _ ⟨V7, rfl, g7, q7⟩
  have G_8 := G_6.trans (g7.wide (fun q hq => by have hq : q = o + 29 := hq; show q = o + 27 ∨ q = o + 30 ∨ q = o + 31 ∨ q = o + 29; omega))
  cases eS7 : m_thru_O (m_middle_S (tpR S a) (tpR S b)) (m_middle_S (tpR S b) (tpR S c)) (m_middle_S (tpR S a) (tpR S c)) with
  | none =>
    rw [eS7] at q7
    obtain rfl : r7 = 0 := q7
    refine g_if_eq_t rfl (by omega) ?_
    refine g_bipush rfl ?_
    refine g_iret rfl ?_
    have ek : keepM S 2 (m_t_nine_O S a b c) = (-3, S) := by
      have eo : m_t_nine_O S a b c = none := by
        exact eS7
      rw [eo]
      rfl
    rw [ek]
    exact ⟨V7, rfl, KM.of (G_8.mono (by omega)), rfl, (g7.mt (show ¬((o + 4) = o + 29) by omega) (show ¬((o + 5) = o + 29) by omega) (g5.mt (show ¬((o + 4) = o + 31) by omega) (show ¬((o + 5) = o + 31) by omega) (g3.mt (show ¬((o + 4) = o + 30) by omega) (show ¬((o + 5) = o + 30) by omega) (g1.mt (show ¬((o + 4) = o + 27) by omega) (show ¬((o + 5) = o + 27) by omega) mt))))⟩
  | some P7 =>
    rw [eS7] at q7
    obtain ⟨rfl, t7, u7, v7, y7, s7, xt7, xu7, xv7, xy7⟩ := q7
    refine g_if_eq_f rfl (by omega) ?_
    refine g_aload_n rfl rfl ?_
    refine g_aload_n rfl rfl ?_
    refine g_getR rfl ms.1 (mr_got ms) ?_
    refine g_iconst rfl ?_
    refine g_callVI [aO (some (o + 29)), aI 2] [] rfl rfl rfl rfl (Nat.le_of_ble_eq_true rfl) ms.1 (m_keepT2 (by omega) ms V7 ok (g7.mt (show ¬((o + 4) = o + 29) by omega) (show ¬((o + 5) = o + 29) by omega) (g5.mt (show ¬((o + 4) = o + 31) by omega) (show ¬((o + 5) = o + 31) by omega) (g3.mt (show ¬((o + 4) = o + 30) by omega) (show ¬((o + 5) = o + 30) by omega) (g1.mt (show ¬((o + 4) = o + 27) by omega) (show ¬((o + 5) = o + 27) by omega) mt)))) (by have := G_8.2.2.1; omega) ((o + 29)) (show SLa o ((o + 29)) by unfold SLa; omega) (show SB V7 o (o + 29) P7 (252) from ⟨_, _, _, _, s7, (xt7.up (by omega)), (xu7.up (by omega)), (xv7.up (by omega)), (xy7.up (by omega))⟩) (by omega)) ?_
    rintro r9 _ ⟨V9, rfl, k9, e9, m9⟩
    refine g_goto rfl ?_
    refine g_iret rfl ?_
    have ek : keepM S 2 (m_t_nine_O S a b c) = keepT S 2 (lowK 2 P7) := by
      have eo : m_t_nine_O S a b c = some (P7) := by
        exact eS7
      rw [eo]
      rfl
    rw [ek]
    exact ⟨_, rfl, (Gs.km G_8 k9 (fun q hq => by have hq : q = o + 29 := hq; show q = o + 27 ∨ q = o + 30 ∨ q = o + 31 ∨ q = o + 29; omega)).mono (by omega), e9, m9⟩
def m_t_moved_O (S : aS) (a b c : Int) : Option T4 := some (((tpR S c).1 * ((tpR S a).2.2.1 * (tpR S b).2.2.1)) + ((((tpR S b).1 * (tpR S a).2.2.1) - ((tpR S a).1 * (tpR S b).2.2.1)) * (tpR S c).2.2.1), ((tpR S c).2.1 * ((tpR S a).2.2.1 * (tpR S b).2.2.1)) + ((((tpR S b).2.1 * (tpR S a).2.2.1) - ((tpR S a).2.1 * (tpR S b).2.2.1)) * (tpR S c).2.2.1), (tpR S c).2.2.1 * ((tpR S a).2.2.1 * (tpR S b).2.2.1), 0)
set_option maxRecDepth 100000 in
set_option maxHeartbeats 4000000 in
theorem m_moved {w : aW} {d : Nat} (hd : 9 ≤ d) {h : aH} {o : Nat} (ms : MS h o) (V : Nat → Nat → Int) {S : aS} (ok : OkT S) (mt : MT V o S) (a b c : Int) (hF : 0 ≤ V o 1 ∧ V o 1 + 37 ≤ 700) (tP : SB V o (o + 24) (tpR S a) (20)) (tQ : SB V o (o + 25) (tpR S b) (20)) (tR : SB V o (o + 26) (tpR S c) (20))  : WP w d 316 [aO (some o)] (hw h V) (RI (fun r h1 => ∃ V1, h1 = hw h V1 ∧ KM V V1 o 37 (fun q => q = o + 29) ∧ r = (keepM S 0 (m_t_moved_O S a b c)).1 ∧ MT V1 o (keepM S 0 (m_t_moved_O S a b c)).2)) := by
  obtain ⟨d, rfl⟩ : ∃ d1, d = d1 + 1 := ⟨d - 1, by omega⟩
  refine WP.enter (cd := cd_X12_moved) rfl ?_
  have G0 := Gs.refl V o (fun q => q = o + 29)
  obtain ⟨Pp, Pq, Pr, Ps, sP, xPp, xPq, xPr, xPs⟩ := tP
  obtain ⟨Qp, Qq, Qr, Qs, sQ, xQp, xQq, xQr, xQs⟩ := tQ
  obtain ⟨Rp, Rq, Rr, Rs, sR, xRp, xRq, xRr, xRs⟩ := tR
  have hn := ok.1
  have hls : largs 0 [aO (some o)] = [(0, aO (some o))] := rfl
  rw [hls]
  clear hls
  refine g_aload_n rfl rfl ?_
  refine g_aload_n rfl rfl ?_
  refine g_getR rfl ms.1 (mr_one ms) ?_
  refine g_iconst rfl ?_
  refine g_iald (i := 2) rfl (mt_one ms) (by omega) (by omega) ?_
  refine g_top (v2 := aI ((Pr : Int))) (congrArg aI (by exact sP.2.2.1)) ?_
  refine g_aload_n rfl rfl ?_
  refine g_getR rfl ms.1 (mr_two ms) ?_
  refine g_iconst rfl ?_
  refine g_iald (i := 2) rfl (mt_two ms) (by omega) (by omega) ?_
  refine g_top (v2 := aI ((Qr : Int))) (congrArg aI (by exact sQ.2.2.1)) ?_
  refine g_callVI [aI ((Pr : Int)), aI ((Qr : Int))] [] rfl rfl rfl rfl (Nat.le_of_ble_eq_true rfl) ms.1 (r_mul (by omega) ms V (by have := G0.2.2.1; omega) xPr xQr (by omega)) ?_
  rintro _ _ ⟨p1, rfl, V1, rfl, g1, xp1⟩
  have G_2 := G0.trans (g1.gs _)
  refine g_istore_n (l1 := [(1, aI ((p1 : Int))), (0, aO (some o))]) rfl rfl ?_
  refine g_aload_n rfl rfl ?_
  refine g_aload_n rfl rfl ?_
  refine g_aload_n rfl rfl ?_
  refine g_getR rfl ms.1 (mr_two ms) ?_
  refine g_iconst rfl ?_
  refine g_iald (i := 0) rfl (mt_two ms) (by omega) (by omega) ?_
  refine g_top (v2 := aI ((Qp : Int))) (congrArg aI (by exact (g1.sa (show SLa o ((o + 25)) by unfold SLa; omega) sQ).1)) ?_
  refine g_aload_n rfl rfl ?_
  refine g_getR rfl ms.1 (mr_one ms) ?_
  refine g_iconst rfl ?_
  refine g_iald (i := 2) rfl (mt_one ms) (by omega) (by omega) ?_
  refine g_top (v2 := aI ((Pr : Int))) (congrArg aI (by exact (g1.sa (show SLa o ((o + 24)) by unfold SLa; omega) sP).2.2.1)) ?_
  refine g_callVI [aI ((Qp : Int)), aI ((Pr : Int))] [aO (some o)] rfl rfl rfl rfl (Nat.le_of_ble_eq_true rfl) ms.1 (r_mul (by omega) ms V1 (by have := G_2.2.2.1; omega) (g1.rb xQp) (g1.rb xPr) (by omega)) ?_
  rintro _ _ ⟨p3, rfl, V3, rfl, g3, xp3⟩
  have G_4 := G_2.trans (g3.gs _)
  refine g_aload_n rfl rfl ?_
  refine g_aload_n rfl rfl ?_
  refine g_getR rfl ms.1 (mr_one ms) ?_
  refine g_iconst rfl ?_
  refine g_iald (i := 0) rfl (mt_one ms) (by omega) (by omega) ?_
  refine g_top (v2 := aI ((Pp : Int))) (congrArg aI (by exact (g3.sa (show SLa o ((o + 24)) by unfold SLa; omega) (g1.sa (show SLa o ((o + 24)) by unfold SLa; omega) sP)).1)) ?_
  refine g_aload_n rfl rfl ?_
  refine g_getR rfl ms.1 (mr_two ms) ?_
  refine g_iconst rfl ?_
  refine g_iald (i := 2) rfl (mt_two ms) (by omega) (by omega) ?_
  refine g_top (v2 := aI ((Qr : Int))) (congrArg aI (by exact (g3.sa (show SLa o ((o + 25)) by unfold SLa; omega) (g1.sa (show SLa o ((o + 25)) by unfold SLa; omega) sQ)).2.2.1)) ?_
  refine g_callVI [aI ((Pp : Int)), aI ((Qr : Int))] [aI ((p3 : Int)), aO (some o)] rfl rfl rfl rfl (Nat.le_of_ble_eq_true rfl) ms.1 (r_mul (by omega) ms V3 (by have := G_4.2.2.1; omega) (g3.rb (g1.rb xPp)) (g3.rb (g1.rb xQr)) (by omega)) ?_
  rintro _ _ ⟨p5, rfl, V5, rfl, g5, xp5⟩
  have G_6 := G_4.trans (g5.gs _)
  refine g_callVI [aI ((p3 : Int)), aI ((p5 : Int))] [] rfl rfl rfl rfl (Nat.le_of_ble_eq_true rfl) ms.1 (r_sub (by omega) ms V5 (by have := G_6.2.2.1; omega) (g5.rb xp3) xp5 (41) (by omega) (by omega) (by omega)) ?_
  rintro _ _ ⟨p7, rfl, V7, rfl, g7, xp7⟩
  have G_8 := G_6.trans (g7.gs _)
  refine g_istore_n (l1 := [(2, aI ((p7 : Int))), (1, aI ((p1 : Int))), (0, aO (some o))]) rfl rfl ?_
  refine g_aload_n rfl rfl ?_
  refine g_aload_n rfl rfl ?_
  refine g_aload_n rfl rfl ?_
  refine g_getR rfl ms.1 (mr_two ms) ?_
  refine g_iconst rfl ?_
  refine g_iald (i := 1) rfl (mt_two ms) (by omega) (by omega) ?_
  refine g_top (v2 := aI ((Qq : Int))) (congrArg aI (by exact (g7.sa (show SLa o ((o + 25)) by unfold SLa; omega) (g5.sa (show SLa o ((o + 25)) by unfold SLa; omega) (g3.sa (show SLa o ((o + 25)) by unfold SLa; omega) (g1.sa (show SLa o ((o + 25)) by unfold SLa; omega) sQ)))).2.1)) ?_
  refine g_aload_n rfl rfl ?_
  refine g_getR rfl ms.1 (mr_one ms) ?_
  refine g_iconst rfl ?_
  refine g_iald (i := 2) rfl (mt_one ms) (by omega) (by omega) ?_
  refine g_top (v2 := aI ((Pr : Int))) (congrArg aI (by exact (g7.sa (show SLa o ((o + 24)) by unfold SLa; omega) (g5.sa (show SLa o ((o + 24)) by unfold SLa; omega) (g3.sa (show SLa o ((o + 24)) by unfold SLa; omega) (g1.sa (show SLa o ((o + 24)) by unfold SLa; omega) sP)))).2.2.1)) ?_
  refine g_callVI [aI ((Qq : Int)), aI ((Pr : Int))] [aO (some o)] rfl rfl rfl rfl (Nat.le_of_ble_eq_true rfl) ms.1 (r_mul (by omega) ms V7 (by have := G_8.2.2.1; omega) (g7.rb (g5.rb (g3.rb (g1.rb xQq)))) (g7.rb (g5.rb (g3.rb (g1.rb xPr)))) (by omega)) ?_
  rintro _ _ ⟨p9, rfl, V9, rfl, g9, xp9⟩
  have G_10 := G_8.trans (g9.gs _)
  refine g_aload_n rfl rfl ?_
  refine g_aload_n rfl rfl ?_
  refine g_getR rfl ms.1 (mr_one ms) ?_
  refine g_iconst rfl ?_
  refine g_iald (i := 1) rfl (mt_one ms) (by omega) (by omega) ?_
  refine g_top (v2 := aI ((Pq : Int))) (congrArg aI (by exact (g9.sa (show SLa o ((o + 24)) by unfold SLa; omega) (g7.sa (show SLa o ((o + 24)) by unfold SLa; omega) (g5.sa (show SLa o ((o + 24)) by unfold SLa; omega) (g3.sa (show SLa o ((o + 24)) by unfold SLa; omega) (g1.sa (show SLa o ((o + 24)) by unfold SLa; omega) sP))))).2.1)) ?_
  refine g_aload_n rfl rfl ?_
  refine g_getR rfl ms.1 (mr_two ms) ?_
  refine g_iconst rfl ?_
  refine g_iald (i := 2) rfl (mt_two ms) (by omega) (by omega) ?_
  refine g_top (v2 := aI ((Qr : Int))) (congrArg aI (by exact (g9.sa (show SLa o ((o + 25)) by unfold SLa; omega) (g7.sa (show SLa o ((o + 25)) by unfold SLa; omega) (g5.sa (show SLa o ((o + 25)) by unfold SLa; omega) (g3.sa (show SLa o ((o + 25)) by unfold SLa; omega) (g1.sa (show SLa o ((o + 25)) by unfold SLa; omega) sQ))))).2.2.1)) ?_
  refine g_callVI [aI ((Pq : Int)), aI ((Qr : Int))] [aI ((p9 : Int)), aO (some o)] rfl rfl rfl rfl (Nat.le_of_ble_eq_true rfl) ms.1 (r_mul (by omega) ms V9 (by have := G_10.2.2.1; omega) (g9.rb (g7.rb (g5.rb (g3.rb (g1.rb xPq))))) (g9.rb (g7.rb (g5.rb (g3.rb (g1.rb xQr))))) (by omega)) ?_
  rintro _ _ ⟨p11, rfl, V11, rfl, g11, xp11⟩
  have G_12 := G_10.trans (g11.gs _)
  refine g_callVI [aI ((p9 : Int)), aI ((p11 : Int))] [] rfl rfl rfl rfl (Nat.le_of_ble_eq_true rfl) ms.1 (r_sub (by omega) ms V11 (by have := G_12.2.2.1; omega) (g11.rb xp9) xp11 (41) (by omega) (by omega) (by omega)) ?_
  rintro _ _ ⟨p13, rfl, V13, rfl, g13, xp13⟩
  have G_14 := G_12.trans (g13.gs _)
  refine g_istore_n (l1 := [(3, aI ((p13 : Int))), (2, aI ((p7 : Int))), (1, aI ((p1 : Int))), (0, aO (some o))]) rfl rfl ?_
  refine g_aload_n rfl rfl ?_
  refine g_aload_n rfl rfl ?_
  refine g_getR rfl ms.1 (mr_got ms) ?_
  refine g_aload_n rfl rfl ?_
  refine g_aload_n rfl rfl ?_
  refine g_aload_n rfl rfl ?_
  refine g_getR rfl ms.1 (mr_three ms) ?_
  refine g_iconst rfl ?_
  refine g_iald (i := 0) rfl (mt_three ms) (by omega) (by omega) ?_
  refine g_top (v2 := aI ((Rp : Int))) (congrArg aI (by exact (g13.sa (show SLa o ((o + 26)) by unfold SLa; omega) (g11.sa (show SLa o ((o + 26)) by unfold SLa; omega) (g9.sa (show SLa o ((o + 26)) by unfold SLa; omega) (g7.sa (show SLa o ((o + 26)) by unfold SLa; omega) (g5.sa (show SLa o ((o + 26)) by unfold SLa; omega) (g3.sa (show SLa o ((o + 26)) by unfold SLa; omega) (g1.sa (show SLa o ((o + 26)) by unfold SLa; omega) sR))))))).1)) ?_
  refine g_iload_n rfl rfl ?_
  refine g_callVI [aI ((Rp : Int)), aI ((p1 : Int))] [aO (some o), aO (some (o + 29)), aO (some o)] rfl rfl rfl rfl (Nat.le_of_ble_eq_true rfl) ms.1 (r_mul (by omega) ms V13 (by have := G_14.2.2.1; omega) (g13.rb (g11.rb (g9.rb (g7.rb (g5.rb (g3.rb (g1.rb xRp))))))) (g13.rb (g11.rb (g9.rb (g7.rb (g5.rb (g3.rb xp1)))))) (by omega)) ?_
  rintro _ _ ⟨p15, rfl, V15, rfl, g15, xp15⟩
  have G_16 := G_14.trans (g15.gs _)
  refine g_aload_n rfl rfl ?_
  refine g_iload_n rfl rfl ?_
  refine g_aload_n rfl rfl ?_
  refine g_getR rfl ms.1 (mr_three ms) ?_
  refine g_iconst rfl ?_
  refine g_iald (i := 2) rfl (mt_three ms) (by omega) (by omega) ?_
  refine g_top (v2 := aI ((Rr : Int))) (congrArg aI (by exact (g15.sa (show SLa o ((o + 26)) by unfold SLa; omega) (g13.sa (show SLa o ((o + 26)) by unfold SLa; omega) (g11.sa (show SLa o ((o + 26)) by unfold SLa; omega) (g9.sa (show SLa o ((o + 26)) by unfold SLa; omega) (g7.sa (show SLa o ((o + 26)) by unfold SLa; omega) (g5.sa (show SLa o ((o + 26)) by unfold SLa; omega) (g3.sa (show SLa o ((o + 26)) by unfold SLa; omega) (g1.sa (show SLa o ((o + 26)) by unfold SLa; omega) sR)))))))).2.2.1)) ?_
  refine g_callVI [aI ((p7 : Int)), aI ((Rr : Int))] [aI ((p15 : Int)), aO (some o), aO (some (o + 29)), aO (some o)] rfl rfl rfl rfl (Nat.le_of_ble_eq_true rfl) ms.1 (r_mul (by omega) ms V15 (by have := G_16.2.2.1; omega) (g15.rb (g13.rb (g11.rb (g9.rb xp7)))) (g15.rb (g13.rb (g11.rb (g9.rb (g7.rb (g5.rb (g3.rb (g1.rb xRr)))))))) (by omega)) ?_
  rintro _ _ ⟨p17, rfl, V17, rfl, g17, xp17⟩
  have G_18 := G_16.trans (g17.gs _)
  refine g_callVI [aI ((p15 : Int)), aI ((p17 : Int))] [aO (some (o + 29)), aO (some o)] rfl rfl rfl rfl (Nat.le_of_ble_eq_true rfl) ms.1 (r_add (by omega) ms V17 (by have := G_18.2.2.1; omega) (g17.rb xp15) xp17 (62) (by omega) (by omega) (by omega)) ?_
  rintro _ _ ⟨p19, rfl, V19, rfl, g19, xp19⟩
  have G_20 := G_18.trans (g19.gs _)
  refine g_aload_n rfl rfl ?_
  refine g_aload_n rfl rfl ?_
  refine g_aload_n rfl rfl ?_
  refine g_getR rfl ms.1 (mr_three ms) ?_
  refine g_iconst rfl ?_
  refine g_iald (i := 1) rfl (mt_three ms) (by omega) (by omega) ?_
  refine g_top (v2 := aI ((Rq : Int))) (congrArg aI (by exact (g19.sa (show SLa o ((o + 26)) by unfold SLa; omega) (g17.sa (show SLa o ((o + 26)) by unfold SLa; omega) (g15.sa (show SLa o ((o + 26)) by unfold SLa; omega) (g13.sa (show SLa o ((o + 26)) by unfold SLa; omega) (g11.sa (show SLa o ((o + 26)) by unfold SLa; omega) (g9.sa (show SLa o ((o + 26)) by unfold SLa; omega) (g7.sa (show SLa o ((o + 26)) by unfold SLa; omega) (g5.sa (show SLa o ((o + 26)) by unfold SLa; omega) (g3.sa (show SLa o ((o + 26)) by unfold SLa; omega) (g1.sa (show SLa o ((o + 26)) by unfold SLa; omega) sR)))))))))).2.1)) ?_
  refine g_iload_n rfl rfl ?_
  refine g_callVI [aI ((Rq : Int)), aI ((p1 : Int))] [aO (some o), aI ((p19 : Int)), aO (some (o + 29)), aO (some o)] rfl rfl rfl rfl (Nat.le_of_ble_eq_true rfl) ms.1 (r_mul (by omega) ms V19 (by have := G_20.2.2.1; omega) (g19.rb (g17.rb (g15.rb (g13.rb (g11.rb (g9.rb (g7.rb (g5.rb (g3.rb (g1.rb xRq)))))))))) (g19.rb (g17.rb (g15.rb (g13.rb (g11.rb (g9.rb (g7.rb (g5.rb (g3.rb xp1))))))))) (by omega)) ?_
  rintro _ _ ⟨p21, rfl, V21, rfl, g21, xp21⟩
  have G_22 := G_20.trans (g21.gs _)
  refine g_aload_n rfl rfl ?_
  refine g_iload_n rfl rfl ?_
  refine g_aload_n rfl rfl ?_
  refine g_getR rfl ms.1 (mr_three ms) ?_
  refine g_iconst rfl ?_
  refine g_iald (i := 2) rfl (mt_three ms) (by omega) (by omega) ?_
  refine g_top (v2 := aI ((Rr : Int))) (congrArg aI (by exact (g21.sa (show SLa o ((o + 26)) by unfold SLa; omega) (g19.sa (show SLa o ((o + 26)) by unfold SLa; omega) (g17.sa (show SLa o ((o + 26)) by unfold SLa; omega) (g15.sa (show SLa o ((o + 26)) by unfold SLa; omega) (g13.sa (show SLa o ((o + 26)) by unfold SLa; omega) (g11.sa (show SLa o ((o + 26)) by unfold SLa; omega) (g9.sa (show SLa o ((o + 26)) by unfold SLa; omega) (g7.sa (show SLa o ((o + 26)) by unfold SLa; omega) (g5.sa (show SLa o ((o + 26)) by unfold SLa; omega) (g3.sa (show SLa o ((o + 26)) by unfold SLa; omega) (g1.sa (show SLa o ((o + 26)) by unfold SLa; omega) sR))))))))))).2.2.1)) ?_
  refine g_callVI [aI ((p13 : Int)), aI ((Rr : Int))] [aI ((p21 : Int)), aO (some o), aI ((p19 : Int)), aO (some (o + 29)), aO (some o)] rfl rfl rfl rfl (Nat.le_of_ble_eq_true rfl) ms.1 (r_mul (by omega) ms V21 (by have := G_22.2.2.1; omega) (g21.rb (g19.rb (g17.rb (g15.rb xp13)))) (g21.rb (g19.rb (g17.rb (g15.rb (g13.rb (g11.rb (g9.rb (g7.rb (g5.rb (g3.rb (g1.rb xRr))))))))))) (by omega)) ?_
  rintro _ _ ⟨p23, rfl, V23, rfl, g23, xp23⟩
  have G_24 := G_22.trans (g23.gs _)
  refine g_callVI [aI ((p21 : Int)), aI ((p23 : Int))] [aI ((p19 : Int)), aO (some (o + 29)), aO (some o)] rfl rfl rfl rfl (Nat.le_of_ble_eq_true rfl) ms.1 (r_add (by omega) ms V23 (by have := G_24.2.2.1; omega) (g23.rb xp21) xp23 (62) (by omega) (by omega) (by omega)) ?_
  rintro _ _ ⟨p25, rfl, V25, rfl, g25, xp25⟩
  have G_26 := G_24.trans (g25.gs _)
  refine g_aload_n rfl rfl ?_
  refine g_aload_n rfl rfl ?_
  refine g_getR rfl ms.1 (mr_three ms) ?_
  refine g_iconst rfl ?_
  refine g_iald (i := 2) rfl (mt_three ms) (by omega) (by omega) ?_
  refine g_top (v2 := aI ((Rr : Int))) (congrArg aI (by exact (g25.sa (show SLa o ((o + 26)) by unfold SLa; omega) (g23.sa (show SLa o ((o + 26)) by unfold SLa; omega) (g21.sa (show SLa o ((o + 26)) by unfold SLa; omega) (g19.sa (show SLa o ((o + 26)) by unfold SLa; omega) (g17.sa (show SLa o ((o + 26)) by unfold SLa; omega) (g15.sa (show SLa o ((o + 26)) by unfold SLa; omega) (g13.sa (show SLa o ((o + 26)) by unfold SLa; omega) (g11.sa (show SLa o ((o + 26)) by unfold SLa; omega) (g9.sa (show SLa o ((o + 26)) by unfold SLa; omega) (g7.sa (show SLa o ((o + 26)) by unfold SLa; omega) (g5.sa (show SLa o ((o + 26)) by unfold SLa; omega) (g3.sa (show SLa o ((o + 26)) by unfold SLa; omega) (g1.sa (show SLa o ((o + 26)) by unfold SLa; omega) sR))))))))))))).2.2.1)) ?_
  refine g_iload_n rfl rfl ?_
  refine g_callVI [aI ((Rr : Int)), aI ((p1 : Int))] [aI ((p25 : Int)), aI ((p19 : Int)), aO (some (o + 29)), aO (some o)] rfl rfl rfl rfl (Nat.le_of_ble_eq_true rfl) ms.1 (r_mul (by omega) ms V25 (by have := G_26.2.2.1; omega) (g25.rb (g23.rb (g21.rb (g19.rb (g17.rb (g15.rb (g13.rb (g11.rb (g9.rb (g7.rb (g5.rb (g3.rb (g1.rb xRr))))))))))))) (g25.rb (g23.rb (g21.rb (g19.rb (g17.rb (g15.rb (g13.rb (g11.rb (g9.rb (g7.rb (g5.rb (g3.rb xp1)))))))))))) (by omega)) ?_
  rintro _ _ ⟨p27, rfl, V27, rfl, g27, xp27⟩
  have G_28 := G_26.trans (g27.gs _)
  refine g_callVN [aO (some (o + 29)), aI ((p19 : Int)), aI ((p25 : Int)), aI ((p27 : Int))] [] rfl rfl rfl rfl (Nat.le_of_ble_eq_true rfl) ms.1 (m_put (by omega) ms V27 (by have := G_28.2.2.1; omega) ((o + 29)) (show SLa o ((o + 29)) by unfold SLa; omega) p19 p25 p27) ?_
  rintro _ ⟨V29, rfl, p29, g29, s29, xp29⟩
  have G_30 := G_28.trans (g29.wide (fun q hq => by have hq : q = o + 29 := hq; show q = o + 29; omega))
  refine g_aload_n rfl rfl ?_
  refine g_aload_n rfl rfl ?_
  refine g_getR rfl ms.1 (mr_got ms) ?_
  refine g_iconst rfl ?_
  refine g_callVI [aO (some (o + 29)), aI 0] [] rfl rfl rfl rfl (Nat.le_of_ble_eq_true rfl) ms.1 (m_keepT0 (by omega) ms V29 ok (g29.mt (show ¬((o + 4) = o + 29) by omega) (show ¬((o + 5) = o + 29) by omega) (g27.mt (g25.mt (g23.mt (g21.mt (g19.mt (g17.mt (g15.mt (g13.mt (g11.mt (g9.mt (g7.mt (g5.mt (g3.mt (g1.mt mt))))))))))))))) (by have := G_30.2.2.1; omega) ((o + 29)) (show SLa o ((o + 29)) by unfold SLa; omega) (show SB V29 o (o + 29) (((((tpR S c).1) * (((tpR S a).2.2.1) * ((tpR S b).2.2.1))) + (((((tpR S b).1) * ((tpR S a).2.2.1)) - (((tpR S a).1) * ((tpR S b).2.2.1))) * ((tpR S c).2.2.1)), (((tpR S c).2.1) * (((tpR S a).2.2.1) * ((tpR S b).2.2.1))) + (((((tpR S b).2.1) * ((tpR S a).2.2.1)) - (((tpR S a).2.1) * ((tpR S b).2.2.1))) * ((tpR S c).2.2.1)), ((tpR S c).2.2.1) * (((tpR S a).2.2.1) * ((tpR S b).2.2.1)), 0)) (62) from ⟨_, _, _, _, s29, ((g29.rb (g27.rb (g25.rb (g23.rb (g21.rb xp19))))).up (by omega)), ((g29.rb (g27.rb xp25)).up (by omega)), ((g29.rb xp27).up (by omega)), (xp29.up (by omega))⟩) (by omega)) ?_
  rintro r31 _ ⟨V31, rfl, k31, e31, m31⟩
  refine g_iret rfl ?_
  have ek : keepM S 0 (m_t_moved_O S a b c) = keepT S 0 (lowK 0 (((((tpR S c).1) * (((tpR S a).2.2.1) * ((tpR S b).2.2.1))) + (((((tpR S b).1) * ((tpR S a).2.2.1)) - (((tpR S a).1) * ((tpR S b).2.2.1))) * ((tpR S c).2.2.1)), (((tpR S c).2.1) * (((tpR S a).2.2.1) * ((tpR S b).2.2.1))) + (((((tpR S b).2.1) * ((tpR S a).2.2.1)) - (((tpR S a).2.1) * ((tpR S b).2.2.1))) * ((tpR S c).2.2.1)), ((tpR S c).2.2.1) * (((tpR S a).2.2.1) * ((tpR S b).2.2.1)), 0))) := by
    have eo : m_t_moved_O S a b c = some (((((tpR S c).1) * (((tpR S a).2.2.1) * ((tpR S b).2.2.1))) + (((((tpR S b).1) * ((tpR S a).2.2.1)) - (((tpR S a).1) * ((tpR S b).2.2.1))) * ((tpR S c).2.2.1)), (((tpR S c).2.1) * (((tpR S a).2.2.1) * ((tpR S b).2.2.1))) + (((((tpR S b).2.1) * ((tpR S a).2.2.1)) - (((tpR S a).2.1) * ((tpR S b).2.2.1))) * ((tpR S c).2.2.1)), ((tpR S c).2.2.1) * (((tpR S a).2.2.1) * ((tpR S b).2.2.1)), 0)) := by
      rfl
    rw [eo]
    rfl
  rw [ek]
  exact ⟨_, rfl, (Gs.km G_30 k31 (fun q hq => by have hq : q = o + 29 := hq; show q = o + 29; omega)).mono (by omega), e31, m31⟩
def m_t_turned_O (S : aS) (a c : Int) : Option T4 := some (((tpR S a).1 * (tpR S c).2.2.1) - (((tpR S c).2.1 * (tpR S a).2.2.1) - ((tpR S a).2.1 * (tpR S c).2.2.1)), ((tpR S a).2.1 * (tpR S c).2.2.1) + (((tpR S c).1 * (tpR S a).2.2.1) - ((tpR S a).1 * (tpR S c).2.2.1)), (tpR S a).2.2.1 * (tpR S c).2.2.1, 0)
set_option maxRecDepth 100000 in
set_option maxHeartbeats 4000000 in
theorem m_turned {w : aW} {d : Nat} (hd : 9 ≤ d) {h : aH} {o : Nat} (ms : MS h o) (V : Nat → Nat → Int) {S : aS} (ok : OkT S) (mt : MT V o S) (a c : Int) (hF : 0 ≤ V o 1 ∧ V o 1 + 34 ≤ 700) (tP : SB V o (o + 24) (tpR S a) (20)) (tR : SB V o (o + 26) (tpR S c) (20))  : WP w d 317 [aO (some o)] (hw h V) (RI (fun r h1 => ∃ V1, h1 = hw h V1 ∧ KM V V1 o 34 (fun q => q = o + 29) ∧ r = (keepM S 0 (m_t_turned_O S a c)).1 ∧ MT V1 o (keepM S 0 (m_t_turned_O S a c)).2)) := by
  obtain ⟨d, rfl⟩ : ∃ d1, d = d1 + 1 := ⟨d - 1, by omega⟩
  refine WP.enter (cd := cd_X12_turned) rfl ?_
  have G0 := Gs.refl V o (fun q => q = o + 29)
  obtain ⟨Pp, Pq, Pr, Ps, sP, xPp, xPq, xPr, xPs⟩ := tP
  obtain ⟨Rp, Rq, Rr, Rs, sR, xRp, xRq, xRr, xRs⟩ := tR
  have hn := ok.1
  have hls : largs 0 [aO (some o)] = [(0, aO (some o))] := rfl
  rw [hls]
  clear hls
  refine g_aload_n rfl rfl ?_
  refine g_aload_n rfl rfl ?_
  refine g_aload_n rfl rfl ?_
  refine g_getR rfl ms.1 (mr_three ms) ?_
  refine g_iconst rfl ?_
  refine g_iald (i := 0) rfl (mt_three ms) (by omega) (by omega) ?_
  refine g_top (v2 := aI ((Rp : Int))) (congrArg aI (by exact sR.1)) ?_
  refine g_aload_n rfl rfl ?_
  refine g_getR rfl ms.1 (mr_one ms) ?_
  refine g_iconst rfl ?_
  refine g_iald (i := 2) rfl (mt_one ms) (by omega) (by omega) ?_
  refine g_top (v2 := aI ((Pr : Int))) (congrArg aI (by exact sP.2.2.1)) ?_
  refine g_callVI [aI ((Rp : Int)), aI ((Pr : Int))] [aO (some o)] rfl rfl rfl rfl (Nat.le_of_ble_eq_true rfl) ms.1 (r_mul (by omega) ms V (by have := G0.2.2.1; omega) xRp xPr (by omega)) ?_
  rintro _ _ ⟨p1, rfl, V1, rfl, g1, xp1⟩
  have G_2 := G0.trans (g1.gs _)
  refine g_aload_n rfl rfl ?_
  refine g_aload_n rfl rfl ?_
  refine g_getR rfl ms.1 (mr_one ms) ?_
  refine g_iconst rfl ?_
  refine g_iald (i := 0) rfl (mt_one ms) (by omega) (by omega) ?_
  refine g_top (v2 := aI ((Pp : Int))) (congrArg aI (by exact (g1.sa (show SLa o ((o + 24)) by unfold SLa; omega) sP).1)) ?_
  refine g_aload_n rfl rfl ?_
  refine g_getR rfl ms.1 (mr_three ms) ?_
  refine g_iconst rfl ?_
  refine g_iald (i := 2) rfl (mt_three ms) (by omega) (by omega) ?_
  refine g_top (v2 := aI ((Rr : Int))) (congrArg aI (by exact (g1.sa (show SLa o ((o + 26)) by unfold SLa; omega) sR).2.2.1)) ?_
  refine g_callVI [aI ((Pp : Int)), aI ((Rr : Int))] [aI ((p1 : Int)), aO (some o)] rfl rfl rfl rfl (Nat.le_of_ble_eq_true rfl) ms.1 (r_mul (by omega) ms V1 (by have := G_2.2.2.1; omega) (g1.rb xPp) (g1.rb xRr) (by omega)) ?_
  rintro _ _ ⟨p3, rfl, V3, rfl, g3, xp3⟩
  have G_4 := G_2.trans (g3.gs _)
  refine g_callVI [aI ((p1 : Int)), aI ((p3 : Int))] [] rfl rfl rfl rfl (Nat.le_of_ble_eq_true rfl) ms.1 (r_sub (by omega) ms V3 (by have := G_4.2.2.1; omega) (g3.rb xp1) xp3 (41) (by omega) (by omega) (by omega)) ?_
  rintro _ _ ⟨p5, rfl, V5, rfl, g5, xp5⟩
  have G_6 := G_4.trans (g5.gs _)
  refine g_istore_n (l1 := [(1, aI ((p5 : Int))), (0, aO (some o))]) rfl rfl ?_
  refine g_aload_n rfl rfl ?_
  refine g_aload_n rfl rfl ?_
  refine g_aload_n rfl rfl ?_
  refine g_getR rfl ms.1 (mr_three ms) ?_
  refine g_iconst rfl ?_
  refine g_iald (i := 1) rfl (mt_three ms) (by omega) (by omega) ?_
  refine g_top (v2 := aI ((Rq : Int))) (congrArg aI (by exact (g5.sa (show SLa o ((o + 26)) by unfold SLa; omega) (g3.sa (show SLa o ((o + 26)) by unfold SLa; omega) (g1.sa (show SLa o ((o + 26)) by unfold SLa; omega) sR))).2.1)) ?_
  refine g_aload_n rfl rfl ?_
  refine g_getR rfl ms.1 (mr_one ms) ?_
  refine g_iconst rfl ?_
  refine g_iald (i := 2) rfl (mt_one ms) (by omega) (by omega) ?_
  refine g_top (v2 := aI ((Pr : Int))) (congrArg aI (by exact (g5.sa (show SLa o ((o + 24)) by unfold SLa; omega) (g3.sa (show SLa o ((o + 24)) by unfold SLa; omega) (g1.sa (show SLa o ((o + 24)) by unfold SLa; omega) sP))).2.2.1)) ?_
  refine g_callVI [aI ((Rq : Int)), aI ((Pr : Int))] [aO (some o)] rfl rfl rfl rfl (Nat.le_of_ble_eq_true rfl) ms.1 (r_mul (by omega) ms V5 (by have := G_6.2.2.1; omega) (g5.rb (g3.rb (g1.rb xRq))) (g5.rb (g3.rb (g1.rb xPr))) (by omega)) ?_
  rintro _ _ ⟨p7, rfl, V7, rfl, g7, xp7⟩
  have G_8 := G_6.trans (g7.gs _)
  refine g_aload_n rfl rfl ?_
  refine g_aload_n rfl rfl ?_
  refine g_getR rfl ms.1 (mr_one ms) ?_
  refine g_iconst rfl ?_
  refine g_iald (i := 1) rfl (mt_one ms) (by omega) (by omega) ?_
  refine g_top (v2 := aI ((Pq : Int))) (congrArg aI (by exact (g7.sa (show SLa o ((o + 24)) by unfold SLa; omega) (g5.sa (show SLa o ((o + 24)) by unfold SLa; omega) (g3.sa (show SLa o ((o + 24)) by unfold SLa; omega) (g1.sa (show SLa o ((o + 24)) by unfold SLa; omega) sP)))).2.1)) ?_
  refine g_aload_n rfl rfl ?_
  refine g_getR rfl ms.1 (mr_three ms) ?_
  refine g_iconst rfl ?_
  refine g_iald (i := 2) rfl (mt_three ms) (by omega) (by omega) ?_
  refine g_top (v2 := aI ((Rr : Int))) (congrArg aI (by exact (g7.sa (show SLa o ((o + 26)) by unfold SLa; omega) (g5.sa (show SLa o ((o + 26)) by unfold SLa; omega) (g3.sa (show SLa o ((o + 26)) by unfold SLa; omega) (g1.sa (show SLa o ((o + 26)) by unfold SLa; omega) sR)))).2.2.1)) ?_
  refine g_callVI [aI ((Pq : Int)), aI ((Rr : Int))] [aI ((p7 : Int)), aO (some o)] rfl rfl rfl rfl (Nat.le_of_ble_eq_true rfl) ms.1 (r_mul (by omega) ms V7 (by have := G_8.2.2.1; omega) (g7.rb (g5.rb (g3.rb (g1.rb xPq)))) (g7.rb (g5.rb (g3.rb (g1.rb xRr)))) (by omega)) ?_
  rintro _ _ ⟨p9, rfl, V9, rfl, g9, xp9⟩
  have G_10 := G_8.trans (g9.gs _)
  refine g_callVI [aI ((p7 : Int)), aI ((p9 : Int))] [] rfl rfl rfl rfl (Nat.le_of_ble_eq_true rfl) ms.1 (r_sub (by omega) ms V9 (by have := G_10.2.2.1; omega) (g9.rb xp7) xp9 (41) (by omega) (by omega) (by omega)) ?_
  rintro _ _ ⟨p11, rfl, V11, rfl, g11, xp11⟩
  have G_12 := G_10.trans (g11.gs _)
  refine g_istore_n (l1 := [(2, aI ((p11 : Int))), (1, aI ((p5 : Int))), (0, aO (some o))]) rfl rfl ?_
  refine g_aload_n rfl rfl ?_
  refine g_aload_n rfl rfl ?_
  refine g_getR rfl ms.1 (mr_got ms) ?_
  refine g_aload_n rfl rfl ?_
  refine g_aload_n rfl rfl ?_
  refine g_aload_n rfl rfl ?_
  refine g_getR rfl ms.1 (mr_one ms) ?_
  refine g_iconst rfl ?_
  refine g_iald (i := 0) rfl (mt_one ms) (by omega) (by omega) ?_
  refine g_top (v2 := aI ((Pp : Int))) (congrArg aI (by exact (g11.sa (show SLa o ((o + 24)) by unfold SLa; omega) (g9.sa (show SLa o ((o + 24)) by unfold SLa; omega) (g7.sa (show SLa o ((o + 24)) by unfold SLa; omega) (g5.sa (show SLa o ((o + 24)) by unfold SLa; omega) (g3.sa (show SLa o ((o + 24)) by unfold SLa; omega) (g1.sa (show SLa o ((o + 24)) by unfold SLa; omega) sP)))))).1)) ?_
  refine g_aload_n rfl rfl ?_
  refine g_getR rfl ms.1 (mr_three ms) ?_
  refine g_iconst rfl ?_
  refine g_iald (i := 2) rfl (mt_three ms) (by omega) (by omega) ?_
  refine g_top (v2 := aI ((Rr : Int))) (congrArg aI (by exact (g11.sa (show SLa o ((o + 26)) by unfold SLa; omega) (g9.sa (show SLa o ((o + 26)) by unfold SLa; omega) (g7.sa (show SLa o ((o + 26)) by unfold SLa; omega) (g5.sa (show SLa o ((o + 26)) by unfold SLa; omega) (g3.sa (show SLa o ((o + 26)) by unfold SLa; omega) (g1.sa (show SLa o ((o + 26)) by unfold SLa; omega) sR)))))).2.2.1)) ?_
  refine g_callVI [aI ((Pp : Int)), aI ((Rr : Int))] [aO (some o), aO (some (o + 29)), aO (some o)] rfl rfl rfl rfl (Nat.le_of_ble_eq_true rfl) ms.1 (r_mul (by omega) ms V11 (by have := G_12.2.2.1; omega) (g11.rb (g9.rb (g7.rb (g5.rb (g3.rb (g1.rb xPp)))))) (g11.rb (g9.rb (g7.rb (g5.rb (g3.rb (g1.rb xRr)))))) (by omega)) ?_
  rintro _ _ ⟨p13, rfl, V13, rfl, g13, xp13⟩
  have G_14 := G_12.trans (g13.gs _)
  refine g_iload_n rfl rfl ?_
  refine g_callVI [aI ((p13 : Int)), aI ((p11 : Int))] [aO (some (o + 29)), aO (some o)] rfl rfl rfl rfl (Nat.le_of_ble_eq_true rfl) ms.1 (r_sub (by omega) ms V13 (by have := G_14.2.2.1; omega) xp13 (g13.rb xp11) (42) (by omega) (by omega) (by omega)) ?_
  rintro _ _ ⟨p15, rfl, V15, rfl, g15, xp15⟩
  have G_16 := G_14.trans (g15.gs _)
  refine g_aload_n rfl rfl ?_
  refine g_aload_n rfl rfl ?_
  refine g_aload_n rfl rfl ?_
  refine g_getR rfl ms.1 (mr_one ms) ?_
  refine g_iconst rfl ?_
  refine g_iald (i := 1) rfl (mt_one ms) (by omega) (by omega) ?_
  refine g_top (v2 := aI ((Pq : Int))) (congrArg aI (by exact (g15.sa (show SLa o ((o + 24)) by unfold SLa; omega) (g13.sa (show SLa o ((o + 24)) by unfold SLa; omega) (g11.sa (show SLa o ((o + 24)) by unfold SLa; omega) (g9.sa (show SLa o ((o + 24)) by unfold SLa; omega) (g7.sa (show SLa o ((o + 24)) by unfold SLa; omega) (g5.sa (show SLa o ((o + 24)) by unfold SLa; omega) (g3.sa (show SLa o ((o + 24)) by unfold SLa; omega) (g1.sa (show SLa o ((o + 24)) by unfold SLa; omega) sP)))))))).2.1)) ?_
  refine g_aload_n rfl rfl ?_
  refine g_getR rfl ms.1 (mr_three ms) ?_
  refine g_iconst rfl ?_
  refine g_iald (i := 2) rfl (mt_three ms) (by omega) (by omega) ?_
  refine g_top (v2 := aI ((Rr : Int))) (congrArg aI (by exact (g15.sa (show SLa o ((o + 26)) by unfold SLa; omega) (g13.sa (show SLa o ((o + 26)) by unfold SLa; omega) (g11.sa (show SLa o ((o + 26)) by unfold SLa; omega) (g9.sa (show SLa o ((o + 26)) by unfold SLa; omega) (g7.sa (show SLa o ((o + 26)) by unfold SLa; omega) (g5.sa (show SLa o ((o + 26)) by unfold SLa; omega) (g3.sa (show SLa o ((o + 26)) by unfold SLa; omega) (g1.sa (show SLa o ((o + 26)) by unfold SLa; omega) sR)))))))).2.2.1)) ?_
  refine g_callVI [aI ((Pq : Int)), aI ((Rr : Int))] [aO (some o), aI ((p15 : Int)), aO (some (o + 29)), aO (some o)] rfl rfl rfl rfl (Nat.le_of_ble_eq_true rfl) ms.1 (r_mul (by omega) ms V15 (by have := G_16.2.2.1; omega) (g15.rb (g13.rb (g11.rb (g9.rb (g7.rb (g5.rb (g3.rb (g1.rb xPq)))))))) (g15.rb (g13.rb (g11.rb (g9.rb (g7.rb (g5.rb (g3.rb (g1.rb xRr)))))))) (by omega)) ?_
  rintro _ _ ⟨p17, rfl, V17, rfl, g17, xp17⟩
  have G_18 := G_16.trans (g17.gs _)
  refine g_iload_n rfl rfl ?_
  refine g_callVI [aI ((p17 : Int)), aI ((p5 : Int))] [aI ((p15 : Int)), aO (some (o + 29)), aO (some o)] rfl rfl rfl rfl (Nat.le_of_ble_eq_true rfl) ms.1 (r_add (by omega) ms V17 (by have := G_18.2.2.1; omega) xp17 (g17.rb (g15.rb (g13.rb (g11.rb (g9.rb (g7.rb xp5)))))) (42) (by omega) (by omega) (by omega)) ?_
  rintro _ _ ⟨p19, rfl, V19, rfl, g19, xp19⟩
  have G_20 := G_18.trans (g19.gs _)
  refine g_aload_n rfl rfl ?_
  refine g_aload_n rfl rfl ?_
  refine g_getR rfl ms.1 (mr_one ms) ?_
  refine g_iconst rfl ?_
  refine g_iald (i := 2) rfl (mt_one ms) (by omega) (by omega) ?_
  refine g_top (v2 := aI ((Pr : Int))) (congrArg aI (by exact (g19.sa (show SLa o ((o + 24)) by unfold SLa; omega) (g17.sa (show SLa o ((o + 24)) by unfold SLa; omega) (g15.sa (show SLa o ((o + 24)) by unfold SLa; omega) (g13.sa (show SLa o ((o + 24)) by unfold SLa; omega) (g11.sa (show SLa o ((o + 24)) by unfold SLa; omega) (g9.sa (show SLa o ((o + 24)) by unfold SLa; omega) (g7.sa (show SLa o ((o + 24)) by unfold SLa; omega) (g5.sa (show SLa o ((o + 24)) by unfold SLa; omega) (g3.sa (show SLa o ((o + 24)) by unfold SLa; omega) (g1.sa (show SLa o ((o + 24)) by unfold SLa; omega) sP)))))))))).2.2.1)) ?_
  refine g_aload_n rfl rfl ?_
  refine g_getR rfl ms.1 (mr_three ms) ?_
  refine g_iconst rfl ?_
  refine g_iald (i := 2) rfl (mt_three ms) (by omega) (by omega) ?_
  refine g_top (v2 := aI ((Rr : Int))) (congrArg aI (by exact (g19.sa (show SLa o ((o + 26)) by unfold SLa; omega) (g17.sa (show SLa o ((o + 26)) by unfold SLa; omega) (g15.sa (show SLa o ((o + 26)) by unfold SLa; omega) (g13.sa (show SLa o ((o + 26)) by unfold SLa; omega) (g11.sa (show SLa o ((o + 26)) by unfold SLa; omega) (g9.sa (show SLa o ((o + 26)) by unfold SLa; omega) (g7.sa (show SLa o ((o + 26)) by unfold SLa; omega) (g5.sa (show SLa o ((o + 26)) by unfold SLa; omega) (g3.sa (show SLa o ((o + 26)) by unfold SLa; omega) (g1.sa (show SLa o ((o + 26)) by unfold SLa; omega) sR)))))))))).2.2.1)) ?_
  refine g_callVI [aI ((Pr : Int)), aI ((Rr : Int))] [aI ((p19 : Int)), aI ((p15 : Int)), aO (some (o + 29)), aO (some o)] rfl rfl rfl rfl (Nat.le_of_ble_eq_true rfl) ms.1 (r_mul (by omega) ms V19 (by have := G_20.2.2.1; omega) (g19.rb (g17.rb (g15.rb (g13.rb (g11.rb (g9.rb (g7.rb (g5.rb (g3.rb (g1.rb xPr)))))))))) (g19.rb (g17.rb (g15.rb (g13.rb (g11.rb (g9.rb (g7.rb (g5.rb (g3.rb (g1.rb xRr)))))))))) (by omega)) ?_
  rintro _ _ ⟨p21, rfl, V21, rfl, g21, xp21⟩
  have G_22 := G_20.trans (g21.gs _)
  refine g_callVN [aO (some (o + 29)), aI ((p15 : Int)), aI ((p19 : Int)), aI ((p21 : Int))] [] rfl rfl rfl rfl (Nat.le_of_ble_eq_true rfl) ms.1 (m_put (by omega) ms V21 (by have := G_22.2.2.1; omega) ((o + 29)) (show SLa o ((o + 29)) by unfold SLa; omega) p15 p19 p21) ?_
  rintro _ ⟨V23, rfl, p23, g23, s23, xp23⟩
  have G_24 := G_22.trans (g23.wide (fun q hq => by have hq : q = o + 29 := hq; show q = o + 29; omega))
  refine g_aload_n rfl rfl ?_
  refine g_aload_n rfl rfl ?_
  refine g_getR rfl ms.1 (mr_got ms) ?_
  refine g_iconst rfl ?_
  refine g_callVI [aO (some (o + 29)), aI 0] [] rfl rfl rfl rfl (Nat.le_of_ble_eq_true rfl) ms.1 (m_keepT0 (by omega) ms V23 ok (g23.mt (show ¬((o + 4) = o + 29) by omega) (show ¬((o + 5) = o + 29) by omega) (g21.mt (g19.mt (g17.mt (g15.mt (g13.mt (g11.mt (g9.mt (g7.mt (g5.mt (g3.mt (g1.mt mt)))))))))))) (by have := G_24.2.2.1; omega) ((o + 29)) (show SLa o ((o + 29)) by unfold SLa; omega) (show SB V23 o (o + 29) (((((tpR S a).1) * ((tpR S c).2.2.1)) - ((((tpR S c).2.1) * ((tpR S a).2.2.1)) - (((tpR S a).2.1) * ((tpR S c).2.2.1))), (((tpR S a).2.1) * ((tpR S c).2.2.1)) + ((((tpR S c).1) * ((tpR S a).2.2.1)) - (((tpR S a).1) * ((tpR S c).2.2.1))), ((tpR S a).2.2.1) * ((tpR S c).2.2.1), 0)) (42) from ⟨_, _, _, _, s23, ((g23.rb (g21.rb (g19.rb (g17.rb xp15)))).up (by omega)), ((g23.rb (g21.rb xp19)).up (by omega)), ((g23.rb xp21).up (by omega)), (xp23.up (by omega))⟩) (by omega)) ?_
  rintro r25 _ ⟨V25, rfl, k25, e25, m25⟩
  refine g_iret rfl ?_
  have ek : keepM S 0 (m_t_turned_O S a c) = keepT S 0 (lowK 0 (((((tpR S a).1) * ((tpR S c).2.2.1)) - ((((tpR S c).2.1) * ((tpR S a).2.2.1)) - (((tpR S a).2.1) * ((tpR S c).2.2.1))), (((tpR S a).2.1) * ((tpR S c).2.2.1)) + ((((tpR S c).1) * ((tpR S a).2.2.1)) - (((tpR S a).1) * ((tpR S c).2.2.1))), ((tpR S a).2.2.1) * ((tpR S c).2.2.1), 0))) := by
    have eo : m_t_turned_O S a c = some (((((tpR S a).1) * ((tpR S c).2.2.1)) - ((((tpR S c).2.1) * ((tpR S a).2.2.1)) - (((tpR S a).2.1) * ((tpR S c).2.2.1))), (((tpR S a).2.1) * ((tpR S c).2.2.1)) + ((((tpR S c).1) * ((tpR S a).2.2.1)) - (((tpR S a).1) * ((tpR S c).2.2.1))), ((tpR S a).2.2.1) * ((tpR S c).2.2.1), 0)) := by
      rfl
    rw [eo]
    rfl
  rw [ek]
  exact ⟨_, rfl, (Gs.km G_24 k25 (fun q hq => by have hq : q = o + 29 := hq; show q = o + 29; omega)).mono (by omega), e25, m25⟩
