/-! the reference's steps, simple ones: printed by wip/whole/e7.py -/
def m_s1_O (S : aS) (a b : Int) : Option T4 := if (sTp S a.toNat 0 = sTp S b.toNat 0 ∧ sTp S a.toNat 1 = sTp S b.toNat 1 ∧ sTp S a.toNat 2 = sTp S b.toNat 2 ∧ sTp S a.toNat 3 = sTp S b.toNat 3) then none else some (m_cross_S (tpR S a) (tpR S b))
set_option maxRecDepth 100000 in
set_option maxHeartbeats 4000000 in
theorem m_simple1 {w : aW} {d : Nat} (hd : 9 ≤ d) {h : aH} {o : Nat} (ms : MS h o) (V : Nat → Nat → Int) {S : aS} (ok : OkT S) (mt : MT V o S) (hF : 0 ≤ V o 1 ∧ V o 1 + 32 ≤ 700) (a : Int) (ha : 0 ≤ a ∧ a < sT S) (b : Int) (hb : 0 ≤ b ∧ b < sT S) (tP : SB V o (o + 24) (tpR S a) (20)) (tQ : SB V o (o + 25) (tpR S b) (20))  : WP w d 308 [aO (some o), aI 1, aI a, aI b] (hw h V) (RI (fun r h1 => ∃ V1, h1 = hw h V1 ∧ KM V V1 o 32 (fun q => q = o + 29) ∧ r = (keepM S 1 (m_s1_O S a b)).1 ∧ MT V1 o (keepM S 1 (m_s1_O S a b)).2)) := by
  obtain ⟨d, rfl⟩ : ∃ d1, d = d1 + 1 := ⟨d - 1, by omega⟩
  refine WP.enter (cd := cd_X12_simple) rfl ?_
  have G0 := Gs.refl V o (fun q => q = o + 29)
  obtain ⟨Pp, Pq, Pr, Ps, sP, xPp, xPq, xPr, xPs⟩ := tP
  obtain ⟨Qp, Qq, Qr, Qs, sQ, xQp, xQq, xQr, xQs⟩ := tQ
  have hn := ok.1
  have fa2 : (tpR S a).2.2.1 = sTp S a.toNat 2 := rfl
  have fb2 : (tpR S b).2.2.1 = sTp S b.toNat 2 := rfl
  have fa0 : (tpR S a).1 = sTp S a.toNat 0 := rfl
  have fb0 : (tpR S b).1 = sTp S b.toNat 0 := rfl
  have fa1 : (tpR S a).2.1 = sTp S a.toNat 1 := rfl
  have fb1 : (tpR S b).2.1 = sTp S b.toNat 1 := rfl
  have hls : largs 0 [aO (some o), aI 1, aI a, aI b] = [(0, aO (some o)), (1, aI 1), (2, aI a), (3, aI b)] := rfl
  rw [hls]
  clear hls
  refine g_iload_n rfl rfl ?_
  refine g_tsw (t := 44) rfl (by rfl) ?_
  refine g_aload_n rfl rfl ?_
  refine g_iload_n rfl rfl ?_
  refine g_iload_n rfl rfl ?_
  refine g_callVI [aI a, aI b] [] rfl rfl rfl rfl (Nat.le_of_ble_eq_true rfl) ms.1 (m_isEqual (by omega) ms V ok mt a ha b hb) ?_
  rintro r1 _ ⟨rfl, e2⟩
  rw [e2]
  clear e2 r1
  refine g_b_eq rfl (fun c50 => ?_) (fun c50 => ?_)
  · skip
    refine g_aload_n rfl rfl ?_
    refine g_aload_n rfl rfl ?_
    refine g_getR rfl ms.1 (mr_one ms) ?_
    refine g_aload_n rfl rfl ?_
    refine g_getR rfl ms.1 (mr_two ms) ?_
    refine g_aload_n rfl rfl ?_
    refine g_getR rfl ms.1 (mr_got ms) ?_
    refine g_callVN [aO (some (o + 24)), aO (some (o + 25)), aO (some (o + 29))] [] rfl rfl rfl rfl (Nat.le_of_ble_eq_true rfl) ms.1 (m_cross (by omega) ms V (by have := G0.2.2.1; omega) ((o + 24)) (show SLa o ((o + 24)) by unfold SLa; omega) (show SB V o (o + 24) (tpR S a) (20) from ⟨_, _, _, _, sP, (xPp.up (by omega)), (xPq.up (by omega)), (xPr.up (by omega)), (xPs.up (by omega))⟩) ((o + 25)) (show SLa o ((o + 25)) by unfold SLa; omega) (show SB V o (o + 25) (tpR S b) (20) from ⟨_, _, _, _, sQ, (xQp.up (by omega)), (xQq.up (by omega)), (xQr.up (by omega)), (xQs.up (by omega))⟩) ((o + 29)) (show SLa o ((o + 29)) by unfold SLa; omega) (by omega)) ?_
    rintro _ ⟨V3, rfl, g3, t3, u3, v3, y3, s3, xt3, xu3, xv3, xy3⟩
    have G_4 := G0.trans (g3.wide (fun q hq => by have hq : q = o + 29 := hq; show q = o + 29; omega))
    refine g_aload_n rfl rfl ?_
    refine g_aload_n rfl rfl ?_
    refine g_getR rfl ms.1 (mr_got ms) ?_
    refine g_iload_n rfl rfl ?_
    refine g_iconst rfl ?_
    refine g_icmp_ne_f rfl (by omega) ?_
    refine g_iconst rfl ?_
    refine g_goto rfl ?_
    refine g_callVI [aO (some (o + 29)), aI 1] [] rfl rfl rfl rfl (Nat.le_of_ble_eq_true rfl) ms.1 (m_keepT1 (by omega) ms V3 ok (g3.mt (show ¬((o + 4) = o + 29) by omega) (show ¬((o + 5) = o + 29) by omega) mt) (by have := G_4.2.2.1; omega) ((o + 29)) (show SLa o ((o + 29)) by unfold SLa; omega) (show SB V3 o (o + 29) (m_cross_S (tpR S a) (tpR S b)) (41) from ⟨_, _, _, _, s3, (xt3.up (by omega)), (xu3.up (by omega)), (xv3.up (by omega)), (xy3.up (by omega))⟩) (by omega)) ?_
    rintro r5 _ ⟨V5, rfl, k5, e5, m5⟩
    refine g_iret rfl ?_
    have ek : keepM S 1 (m_s1_O S a b) = keepT S 1 (lowK 1 (m_cross_S (tpR S a) (tpR S b))) := by
      have eo : m_s1_O S a b = some (m_cross_S (tpR S a) (tpR S b)) := by
        unfold m_s1_O
        rw [if_neg (by omega)]
      rw [eo]
      rfl
    rw [ek]
    exact ⟨_, rfl, (Gs.km G_4 k5 (fun q hq => by have hq : q = o + 29 := hq; show q = o + 29; omega)).mono (by omega), e5, m5⟩
  · skip
    refine g_bipush rfl ?_
    refine g_iret rfl ?_
    have ek : keepM S 1 (m_s1_O S a b) = (-3, S) := by
      have eo : m_s1_O S a b = none := by
        unfold m_s1_O
        rw [if_pos (by omega)]
      rw [eo]
      rfl
    rw [ek]
    exact ⟨V, rfl, KM.of (G0.mono (by omega)), rfl, mt⟩
set_option maxRecDepth 100000 in
set_option maxHeartbeats 4000000 in
theorem m_simple2 {w : aW} {d : Nat} (hd : 9 ≤ d) {h : aH} {o : Nat} (ms : MS h o) (V : Nat → Nat → Int) {S : aS} (ok : OkT S) (mt : MT V o S) (hF : 0 ≤ V o 1 ∧ V o 1 + 32 ≤ 700) (a : Int) (ha : 0 ≤ a ∧ a < sT S) (b : Int) (hb : 0 ≤ b ∧ b < sT S) (tP : SB V o (o + 24) (tpR S a) (20)) (tQ : SB V o (o + 25) (tpR S b) (20))  : WP w d 308 [aO (some o), aI 2, aI a, aI b] (hw h V) (RI (fun r h1 => ∃ V1, h1 = hw h V1 ∧ KM V V1 o 32 (fun q => q = o + 29) ∧ r = (keepM S 0 (m_s1_O S a b)).1 ∧ MT V1 o (keepM S 0 (m_s1_O S a b)).2)) := by
  obtain ⟨d, rfl⟩ : ∃ d1, d = d1 + 1 := ⟨d - 1, by omega⟩
  refine WP.enter (cd := cd_X12_simple) rfl ?_
  have G0 := Gs.refl V o (fun q => q = o + 29)
  obtain ⟨Pp, Pq, Pr, Ps, sP, xPp, xPq, xPr, xPs⟩ := tP
  obtain ⟨Qp, Qq, Qr, Qs, sQ, xQp, xQq, xQr, xQs⟩ := tQ
  have hn := ok.1
  have fa2 : (tpR S a).2.2.1 = sTp S a.toNat 2 := rfl
  have fb2 : (tpR S b).2.2.1 = sTp S b.toNat 2 := rfl
  have fa0 : (tpR S a).1 = sTp S a.toNat 0 := rfl
  have fb0 : (tpR S b).1 = sTp S b.toNat 0 := rfl
  have fa1 : (tpR S a).2.1 = sTp S a.toNat 1 := rfl
  have fb1 : (tpR S b).2.1 = sTp S b.toNat 1 := rfl
  have hls : largs 0 [aO (some o), aI 2, aI a, aI b] = [(0, aO (some o)), (1, aI 2), (2, aI a), (3, aI b)] := rfl
  rw [hls]
  clear hls
  refine g_iload_n rfl rfl ?_
  refine g_tsw (t := 44) rfl (by rfl) ?_
  refine g_aload_n rfl rfl ?_
  refine g_iload_n rfl rfl ?_
  refine g_iload_n rfl rfl ?_
  refine g_callVI [aI a, aI b] [] rfl rfl rfl rfl (Nat.le_of_ble_eq_true rfl) ms.1 (m_isEqual (by omega) ms V ok mt a ha b hb) ?_
  rintro r1 _ ⟨rfl, e2⟩
  rw [e2]
  clear e2 r1
  refine g_b_eq rfl (fun c50 => ?_) (fun c50 => ?_)
  · skip
    refine g_aload_n rfl rfl ?_
    refine g_aload_n rfl rfl ?_
    refine g_getR rfl ms.1 (mr_one ms) ?_
    refine g_aload_n rfl rfl ?_
    refine g_getR rfl ms.1 (mr_two ms) ?_
    refine g_aload_n rfl rfl ?_
    refine g_getR rfl ms.1 (mr_got ms) ?_
    refine g_callVN [aO (some (o + 24)), aO (some (o + 25)), aO (some (o + 29))] [] rfl rfl rfl rfl (Nat.le_of_ble_eq_true rfl) ms.1 (m_cross (by omega) ms V (by have := G0.2.2.1; omega) ((o + 24)) (show SLa o ((o + 24)) by unfold SLa; omega) (show SB V o (o + 24) (tpR S a) (20) from ⟨_, _, _, _, sP, (xPp.up (by omega)), (xPq.up (by omega)), (xPr.up (by omega)), (xPs.up (by omega))⟩) ((o + 25)) (show SLa o ((o + 25)) by unfold SLa; omega) (show SB V o (o + 25) (tpR S b) (20) from ⟨_, _, _, _, sQ, (xQp.up (by omega)), (xQq.up (by omega)), (xQr.up (by omega)), (xQs.up (by omega))⟩) ((o + 29)) (show SLa o ((o + 29)) by unfold SLa; omega) (by omega)) ?_
    rintro _ ⟨V3, rfl, g3, t3, u3, v3, y3, s3, xt3, xu3, xv3, xy3⟩
    have G_4 := G0.trans (g3.wide (fun q hq => by have hq : q = o + 29 := hq; show q = o + 29; omega))
    refine g_aload_n rfl rfl ?_
    refine g_aload_n rfl rfl ?_
    refine g_getR rfl ms.1 (mr_got ms) ?_
    refine g_iload_n rfl rfl ?_
    refine g_iconst rfl ?_
    refine g_icmp_ne_t rfl (by omega) ?_
    refine g_iconst rfl ?_
    refine g_callVI [aO (some (o + 29)), aI 0] [] rfl rfl rfl rfl (Nat.le_of_ble_eq_true rfl) ms.1 (m_keepT0 (by omega) ms V3 ok (g3.mt (show ¬((o + 4) = o + 29) by omega) (show ¬((o + 5) = o + 29) by omega) mt) (by have := G_4.2.2.1; omega) ((o + 29)) (show SLa o ((o + 29)) by unfold SLa; omega) (show SB V3 o (o + 29) (m_cross_S (tpR S a) (tpR S b)) (41) from ⟨_, _, _, _, s3, (xt3.up (by omega)), (xu3.up (by omega)), (xv3.up (by omega)), (xy3.up (by omega))⟩) (by omega)) ?_
    rintro r5 _ ⟨V5, rfl, k5, e5, m5⟩
    refine g_iret rfl ?_
    have ek : keepM S 0 (m_s1_O S a b) = keepT S 0 (lowK 0 (m_cross_S (tpR S a) (tpR S b))) := by
      have eo : m_s1_O S a b = some (m_cross_S (tpR S a) (tpR S b)) := by
        unfold m_s1_O
        rw [if_neg (by omega)]
      rw [eo]
      rfl
    rw [ek]
    exact ⟨_, rfl, (Gs.km G_4 k5 (fun q hq => by have hq : q = o + 29 := hq; show q = o + 29; omega)).mono (by omega), e5, m5⟩
  · skip
    refine g_bipush rfl ?_
    refine g_iret rfl ?_
    have ek : keepM S 0 (m_s1_O S a b) = (-3, S) := by
      have eo : m_s1_O S a b = none := by
        unfold m_s1_O
        rw [if_pos (by omega)]
      rw [eo]
      rfl
    rw [ek]
    exact ⟨V, rfl, KM.of (G0.mono (by omega)), rfl, mt⟩
def m_s4_O (S : aS) (a b : Int) : Option T4 := if sTp S a.toNat 2 = 0 ∨ (sTp S b.toNat 0 = 0 ∧ sTp S b.toNat 1 = 0) then none else some (m_foot1_S (tpR S a) (tpR S b))
def m_s7_O (S : aS) (a b : Int) : Option T4 := if sTp S a.toNat 2 = 0 ∨ (sTp S b.toNat 0 = 0 ∧ sTp S b.toNat 1 = 0) then none else some (m_foot2_S (tpR S a) (tpR S b))
set_option maxRecDepth 100000 in
set_option maxHeartbeats 4000000 in
theorem m_simple4 {w : aW} {d : Nat} (hd : 9 ≤ d) {h : aH} {o : Nat} (ms : MS h o) (V : Nat → Nat → Int) {S : aS} (ok : OkT S) (mt : MT V o S) (hF : 0 ≤ V o 1 ∧ V o 1 + 40 ≤ 700) (a : Int) (ha : 0 ≤ a ∧ a < sT S) (b : Int) (hb : 0 ≤ b ∧ b < sT S) (tP : SB V o (o + 24) (tpR S a) (20)) (tQ : SB V o (o + 25) (tpR S b) (20))  : WP w d 308 [aO (some o), aI 4, aI a, aI b] (hw h V) (RI (fun r h1 => ∃ V1, h1 = hw h V1 ∧ KM V V1 o 40 (fun q => q = o + 29) ∧ r = (keepM S 0 (m_s4_O S a b)).1 ∧ MT V1 o (keepM S 0 (m_s4_O S a b)).2)) := by
  obtain ⟨d, rfl⟩ : ∃ d1, d = d1 + 1 := ⟨d - 1, by omega⟩
  refine WP.enter (cd := cd_X12_simple) rfl ?_
  have G0 := Gs.refl V o (fun q => q = o + 29)
  obtain ⟨Pp, Pq, Pr, Ps, sP, xPp, xPq, xPr, xPs⟩ := tP
  obtain ⟨Qp, Qq, Qr, Qs, sQ, xQp, xQq, xQr, xQs⟩ := tQ
  have hn := ok.1
  have fa2 : (tpR S a).2.2.1 = sTp S a.toNat 2 := rfl
  have fb2 : (tpR S b).2.2.1 = sTp S b.toNat 2 := rfl
  have fa0 : (tpR S a).1 = sTp S a.toNat 0 := rfl
  have fb0 : (tpR S b).1 = sTp S b.toNat 0 := rfl
  have fa1 : (tpR S a).2.1 = sTp S a.toNat 1 := rfl
  have fb1 : (tpR S b).2.1 = sTp S b.toNat 1 := rfl
  have hls : largs 0 [aO (some o), aI 4, aI a, aI b] = [(0, aO (some o)), (1, aI 4), (2, aI a), (3, aI b)] := rfl
  rw [hls]
  clear hls
  refine g_iload_n rfl rfl ?_
  refine g_tsw (t := 223) rfl (by rfl) ?_
  refine g_aload_n rfl rfl ?_
  refine g_iload_n rfl rfl ?_
  refine g_callVI [aI a] [] rfl rfl rfl rfl (Nat.le_of_ble_eq_true rfl) ms.1 (m_isFar (by omega) ms V ok mt a ha) ?_
  rintro r1 _ ⟨rfl, e2⟩
  rw [e2]
  clear e2 r1
  refine g_b_ne rfl (fun c228 => ?_) (fun c228 => ?_)
  · skip
    refine g_bipush rfl ?_
    refine g_iret rfl ?_
    have ek : keepM S 0 (m_s4_O S a b) = (-3, S) := by
      have eo : m_s4_O S a b = none := by
        unfold m_s4_O
        rw [if_pos (by omega)]
      rw [eo]
      rfl
    rw [ek]
    exact ⟨V, rfl, KM.of (G0.mono (by omega)), rfl, mt⟩
  · skip
    refine g_aload_n rfl rfl ?_
    refine g_iload_n rfl rfl ?_
    refine g_callVI [aI b] [] rfl rfl rfl rfl (Nat.le_of_ble_eq_true rfl) ms.1 (m_isRim (by omega) ms V ok mt b hb) ?_
    rintro r3 _ ⟨rfl, e4⟩
    rw [e4]
    clear e4 r3
    refine g_b_eq rfl (fun c236 => ?_) (fun c236 => ?_)
    · skip
      refine g_aload_n rfl rfl ?_
      refine g_aload_n rfl rfl ?_
      refine g_getR rfl ms.1 (mr_one ms) ?_
      refine g_aload_n rfl rfl ?_
      refine g_getR rfl ms.1 (mr_two ms) ?_
      refine g_iload_n rfl rfl ?_
      refine g_iconst rfl ?_
      refine g_icmp_ne_f rfl (by omega) ?_
      refine g_iconst rfl ?_
      refine g_goto rfl ?_
      refine g_aload_n rfl rfl ?_
      refine g_getR rfl ms.1 (mr_got ms) ?_
      refine g_callVN [aO (some (o + 24)), aO (some (o + 25)), aI 1, aO (some (o + 29))] [] rfl rfl rfl rfl (Nat.le_of_ble_eq_true rfl) ms.1 (m_foot1 (by omega) ms V (by have := G0.2.2.1; omega) ((o + 24)) (show SLa o ((o + 24)) by unfold SLa; omega) (show SB V o (o + 24) (tpR S a) (20) from ⟨_, _, _, _, sP, (xPp.up (by omega)), (xPq.up (by omega)), (xPr.up (by omega)), (xPs.up (by omega))⟩) ((o + 25)) (show SLa o ((o + 25)) by unfold SLa; omega) (show SB V o (o + 25) (tpR S b) (20) from ⟨_, _, _, _, sQ, (xQp.up (by omega)), (xQq.up (by omega)), (xQr.up (by omega)), (xQs.up (by omega))⟩) ((o + 29)) (show SLa o ((o + 29)) by unfold SLa; omega)) ?_
      rintro _ ⟨V5, rfl, g5, t5, u5, v5, y5, s5, xt5, xu5, xv5, xy5⟩
      have G_6 := G0.trans (g5.wide (fun q hq => by have hq : q = o + 29 := hq; show q = o + 29; omega))
      refine g_aload_n rfl rfl ?_
      refine g_aload_n rfl rfl ?_
      refine g_getR rfl ms.1 (mr_got ms) ?_
      refine g_iconst rfl ?_
      refine g_callVI [aO (some (o + 29)), aI 0] [] rfl rfl rfl rfl (Nat.le_of_ble_eq_true rfl) ms.1 (m_keepT0 (by omega) ms V5 ok (g5.mt (show ¬((o + 4) = o + 29) by omega) (show ¬((o + 5) = o + 29) by omega) mt) (by have := G_6.2.2.1; omega) ((o + 29)) (show SLa o ((o + 29)) by unfold SLa; omega) (show SB V5 o (o + 29) (m_foot1_S (tpR S a) (tpR S b)) (63) from ⟨_, _, _, _, s5, (xt5.up (by omega)), (xu5.up (by omega)), (xv5.up (by omega)), (xy5.up (by omega))⟩) (by omega)) ?_
      rintro r7 _ ⟨V7, rfl, k7, e7, m7⟩
      refine g_iret rfl ?_
      have ek : keepM S 0 (m_s4_O S a b) = keepT S 0 (lowK 0 (m_foot1_S (tpR S a) (tpR S b))) := by
        have eo : m_s4_O S a b = some (m_foot1_S (tpR S a) (tpR S b)) := by
          unfold m_s4_O
          rw [if_neg (by omega)]
        rw [eo]
        rfl
      rw [ek]
      exact ⟨_, rfl, (Gs.km G_6 k7 (fun q hq => by have hq : q = o + 29 := hq; show q = o + 29; omega)).mono (by omega), e7, m7⟩
    · skip
      refine g_bipush rfl ?_
      refine g_iret rfl ?_
      have ek : keepM S 0 (m_s4_O S a b) = (-3, S) := by
        have eo : m_s4_O S a b = none := by
          unfold m_s4_O
          rw [if_pos (by omega)]
        rw [eo]
        rfl
      rw [ek]
      exact ⟨V, rfl, KM.of (G0.mono (by omega)), rfl, mt⟩
set_option maxRecDepth 100000 in
set_option maxHeartbeats 4000000 in
theorem m_simple7 {w : aW} {d : Nat} (hd : 9 ≤ d) {h : aH} {o : Nat} (ms : MS h o) (V : Nat → Nat → Int) {S : aS} (ok : OkT S) (mt : MT V o S) (hF : 0 ≤ V o 1 ∧ V o 1 + 40 ≤ 700) (a : Int) (ha : 0 ≤ a ∧ a < sT S) (b : Int) (hb : 0 ≤ b ∧ b < sT S) (tP : SB V o (o + 24) (tpR S a) (20)) (tQ : SB V o (o + 25) (tpR S b) (20))  : WP w d 308 [aO (some o), aI 7, aI a, aI b] (hw h V) (RI (fun r h1 => ∃ V1, h1 = hw h V1 ∧ KM V V1 o 40 (fun q => q = o + 29) ∧ r = (keepM S 0 (m_s7_O S a b)).1 ∧ MT V1 o (keepM S 0 (m_s7_O S a b)).2)) := by
  obtain ⟨d, rfl⟩ : ∃ d1, d = d1 + 1 := ⟨d - 1, by omega⟩
  refine WP.enter (cd := cd_X12_simple) rfl ?_
  have G0 := Gs.refl V o (fun q => q = o + 29)
  obtain ⟨Pp, Pq, Pr, Ps, sP, xPp, xPq, xPr, xPs⟩ := tP
  obtain ⟨Qp, Qq, Qr, Qs, sQ, xQp, xQq, xQr, xQs⟩ := tQ
  have hn := ok.1
  have fa2 : (tpR S a).2.2.1 = sTp S a.toNat 2 := rfl
  have fb2 : (tpR S b).2.2.1 = sTp S b.toNat 2 := rfl
  have fa0 : (tpR S a).1 = sTp S a.toNat 0 := rfl
  have fb0 : (tpR S b).1 = sTp S b.toNat 0 := rfl
  have fa1 : (tpR S a).2.1 = sTp S a.toNat 1 := rfl
  have fb1 : (tpR S b).2.1 = sTp S b.toNat 1 := rfl
  have hls : largs 0 [aO (some o), aI 7, aI a, aI b] = [(0, aO (some o)), (1, aI 7), (2, aI a), (3, aI b)] := rfl
  rw [hls]
  clear hls
  refine g_iload_n rfl rfl ?_
  refine g_tsw (t := 223) rfl (by rfl) ?_
  refine g_aload_n rfl rfl ?_
  refine g_iload_n rfl rfl ?_
  refine g_callVI [aI a] [] rfl rfl rfl rfl (Nat.le_of_ble_eq_true rfl) ms.1 (m_isFar (by omega) ms V ok mt a ha) ?_
  rintro r1 _ ⟨rfl, e2⟩
  rw [e2]
  clear e2 r1
  refine g_b_ne rfl (fun c228 => ?_) (fun c228 => ?_)
  · skip
    refine g_bipush rfl ?_
    refine g_iret rfl ?_
    have ek : keepM S 0 (m_s7_O S a b) = (-3, S) := by
      have eo : m_s7_O S a b = none := by
        unfold m_s7_O
        rw [if_pos (by omega)]
      rw [eo]
      rfl
    rw [ek]
    exact ⟨V, rfl, KM.of (G0.mono (by omega)), rfl, mt⟩
  · skip
    refine g_aload_n rfl rfl ?_
    refine g_iload_n rfl rfl ?_
    refine g_callVI [aI b] [] rfl rfl rfl rfl (Nat.le_of_ble_eq_true rfl) ms.1 (m_isRim (by omega) ms V ok mt b hb) ?_
    rintro r3 _ ⟨rfl, e4⟩
    rw [e4]
    clear e4 r3
    refine g_b_eq rfl (fun c236 => ?_) (fun c236 => ?_)
    · skip
      refine g_aload_n rfl rfl ?_
      refine g_aload_n rfl rfl ?_
      refine g_getR rfl ms.1 (mr_one ms) ?_
      refine g_aload_n rfl rfl ?_
      refine g_getR rfl ms.1 (mr_two ms) ?_
      refine g_iload_n rfl rfl ?_
      refine g_iconst rfl ?_
      refine g_icmp_ne_t rfl (by omega) ?_
      refine g_iconst rfl ?_
      refine g_aload_n rfl rfl ?_
      refine g_getR rfl ms.1 (mr_got ms) ?_
      refine g_callVN [aO (some (o + 24)), aO (some (o + 25)), aI 2, aO (some (o + 29))] [] rfl rfl rfl rfl (Nat.le_of_ble_eq_true rfl) ms.1 (m_foot2 (by omega) ms V (by have := G0.2.2.1; omega) ((o + 24)) (show SLa o ((o + 24)) by unfold SLa; omega) (show SB V o (o + 24) (tpR S a) (20) from ⟨_, _, _, _, sP, (xPp.up (by omega)), (xPq.up (by omega)), (xPr.up (by omega)), (xPs.up (by omega))⟩) ((o + 25)) (show SLa o ((o + 25)) by unfold SLa; omega) (show SB V o (o + 25) (tpR S b) (20) from ⟨_, _, _, _, sQ, (xQp.up (by omega)), (xQq.up (by omega)), (xQr.up (by omega)), (xQs.up (by omega))⟩) ((o + 29)) (show SLa o ((o + 29)) by unfold SLa; omega)) ?_
      rintro _ ⟨V5, rfl, g5, t5, u5, v5, y5, s5, xt5, xu5, xv5, xy5⟩
      have G_6 := G0.trans (g5.wide (fun q hq => by have hq : q = o + 29 := hq; show q = o + 29; omega))
      refine g_aload_n rfl rfl ?_
      refine g_aload_n rfl rfl ?_
      refine g_getR rfl ms.1 (mr_got ms) ?_
      refine g_iconst rfl ?_
      refine g_callVI [aO (some (o + 29)), aI 0] [] rfl rfl rfl rfl (Nat.le_of_ble_eq_true rfl) ms.1 (m_keepT0 (by omega) ms V5 ok (g5.mt (show ¬((o + 4) = o + 29) by omega) (show ¬((o + 5) = o + 29) by omega) mt) (by have := G_6.2.2.1; omega) ((o + 29)) (show SLa o ((o + 29)) by unfold SLa; omega) (show SB V5 o (o + 29) (m_foot2_S (tpR S a) (tpR S b)) (64) from ⟨_, _, _, _, s5, (xt5.up (by omega)), (xu5.up (by omega)), (xv5.up (by omega)), (xy5.up (by omega))⟩) (by omega)) ?_
      rintro r7 _ ⟨V7, rfl, k7, e7, m7⟩
      refine g_iret rfl ?_
      have ek : keepM S 0 (m_s7_O S a b) = keepT S 0 (lowK 0 (m_foot2_S (tpR S a) (tpR S b))) := by
        have eo : m_s7_O S a b = some (m_foot2_S (tpR S a) (tpR S b)) := by
          unfold m_s7_O
          rw [if_neg (by omega)]
        rw [eo]
        rfl
      rw [ek]
      exact ⟨_, rfl, (Gs.km G_6 k7 (fun q hq => by have hq : q = o + 29 := hq; show q = o + 29; omega)).mono (by omega), e7, m7⟩
    · skip
      refine g_bipush rfl ?_
      refine g_iret rfl ?_
      have ek : keepM S 0 (m_s7_O S a b) = (-3, S) := by
        have eo : m_s7_O S a b = none := by
          unfold m_s7_O
          rw [if_pos (by omega)]
        rw [eo]
        rfl
      rw [ek]
      exact ⟨V, rfl, KM.of (G0.mono (by omega)), rfl, mt⟩
