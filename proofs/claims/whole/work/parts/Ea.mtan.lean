/-! the reference's tangents: printed by wip/whole/ea.py -/
theorem m_meet_both {b b2 : Bool} {L R P : T4} (h : m_meet_O b L R = some P) : ∃ P2, m_meet_O b2 L R = some P2 := by
  by_cases q : L.1 = 0 ∧ L.2.1 = 0
  · rw [m_meet_no q] at h; cases h
  · cases e : rootO (m_depth_S L R) with
    | none => rw [m_meet_no2 q e] at h; cases h
    | some s =>
      by_cases f : m_fwd b2 L
      · exact ⟨_, m_meet_t q e f⟩
      · exact ⟨_, m_meet_f q e f⟩
abbrev m_bef (U W : T4) : Prop := U.1 < W.1 ∨ U.1 = W.1 ∧ (U.2.1 < W.2.1 ∨ U.2.1 = W.2.1 ∧ U.2.2.1 < W.2.2.1)
def m_side (M R : T4) : T4 := m_low (m_polar_S (m_low M) R)
noncomputable def m_tan_O (S : aS) (f : Bool) (a : Int) (P R : T4) : Option T4 := if sTp S a.toNat 2 = 0 ∨ m_within_S P R < 0 then none else if m_within_S P R = 0 then some (m_polar_S P R) else match m_meet_O false (m_polar_S P R) R with
  | none => none
  | some M => match m_meet_O true (m_polar_S P R) R with
    | none => none
    | some M1 => some (if (m_bef (m_side M R) (m_side M1 R) ↔ f = true) then m_side M R else m_side M1 R)
theorem m_tan_no {S : aS} {f : Bool} {a : Int} {P R : T4} (h : sTp S a.toNat 2 = 0 ∨ m_within_S P R < 0) : m_tan_O S f a P R = none := by unfold m_tan_O; rw [if_pos h]
theorem m_tan_on {S : aS} {f : Bool} {a : Int} {P R : T4} (h : ¬(sTp S a.toNat 2 = 0 ∨ m_within_S P R < 0)) (h2 : m_within_S P R = 0) : m_tan_O S f a P R = some (m_polar_S P R) := by unfold m_tan_O; rw [if_neg h, if_pos h2]
theorem m_tan_no2 {S : aS} {f : Bool} {a : Int} {P R : T4} (h : ¬(sTp S a.toNat 2 = 0 ∨ m_within_S P R < 0)) (h2 : ¬ m_within_S P R = 0) (e : m_meet_O false (m_polar_S P R) R = none) : m_tan_O S f a P R = none := by unfold m_tan_O; rw [if_neg h, if_neg h2, e]
theorem m_tan_u {S : aS} {f : Bool} {a : Int} {P R M M1 : T4} (h : ¬(sTp S a.toNat 2 = 0 ∨ m_within_S P R < 0)) (h2 : ¬ m_within_S P R = 0) (e : m_meet_O false (m_polar_S P R) R = some M) (e1 : m_meet_O true (m_polar_S P R) R = some M1) (q : m_bef (m_side M R) (m_side M1 R) ↔ f = true) : m_tan_O S f a P R = some (m_side M R) := by
  unfold m_tan_O
  rw [if_neg h, if_neg h2, e, e1]
  show some (if (m_bef (m_side M R) (m_side M1 R) ↔ f = true) then m_side M R else m_side M1 R) = _
  rw [if_pos q]
theorem m_tan_w {S : aS} {f : Bool} {a : Int} {P R M M1 : T4} (h : ¬(sTp S a.toNat 2 = 0 ∨ m_within_S P R < 0)) (h2 : ¬ m_within_S P R = 0) (e : m_meet_O false (m_polar_S P R) R = some M) (e1 : m_meet_O true (m_polar_S P R) R = some M1) (q : ¬(m_bef (m_side M R) (m_side M1 R) ↔ f = true)) : m_tan_O S f a P R = some (m_side M1 R) := by
  unfold m_tan_O
  rw [if_neg h, if_neg h2, e, e1]
  show some (if (m_bef (m_side M R) (m_side M1 R) ↔ f = true) then m_side M R else m_side M1 R) = _
  rw [if_neg q]
noncomputable def m_s18_O (S : aS) (a b : Int) : Option T4 := m_tan_O S true a (tpR S a) (tpR S b)
set_option maxRecDepth 100000 in
set_option maxHeartbeats 4000000 in
theorem m_meeting18 {w : aW} {d : Nat} (hd : 9 ≤ d) {h : aH} {o : Nat} (ms : MS h o) (V : Nat → Nat → Int) {S : aS} (ok : OkT S) (mt : MT V o S) (hF : 0 ≤ V o 1 ∧ V o 1 + 266 ≤ 700) (b : Int) (a : Int) (ha : 0 ≤ a ∧ a < sT S) (tP : SB V o (o + 24) (tpR S a) (20)) (tQ : SB V o (o + 25) (tpR S b) (20))  : WP w d 311 [aO (some o), aI 18, aI a] (hw h V) (RI (fun r h1 => ∃ V1, h1 = hw h V1 ∧ KM V V1 o 266 (fun q => q = o + 26 ∨ q = o + 27 ∨ q = o + 28 ∨ q = o + 29) ∧ r = (keepM S 1 (m_s18_O S a b)).1 ∧ MT V1 o (keepM S 1 (m_s18_O S a b)).2)) := by
  obtain ⟨d, rfl⟩ : ∃ d1, d = d1 + 1 := ⟨d - 1, by omega⟩
  refine WP.enter (cd := cd_X12_meeting) rfl ?_
  have G0 := Gs.refl V o (fun q => q = o + 26 ∨ q = o + 27 ∨ q = o + 28 ∨ q = o + 29)
  obtain ⟨Pp, Pq, Pr, Ps, sP, xPp, xPq, xPr, xPs⟩ := tP
  obtain ⟨Qp, Qq, Qr, Qs, sQ, xQp, xQq, xQr, xQs⟩ := tQ
  have hn := ok.1
  have hls : largs 0 [aO (some o), aI 18, aI a] = [(0, aO (some o)), (1, aI 18), (2, aI a)] := rfl
  rw [hls]
  clear hls
  refine g_iload_n rfl rfl ?_
  refine g_bipush rfl ?_
  refine g_icmp_ge_t rfl (by omega) ?_
  refine g_iload_n rfl rfl ?_
  refine g_bipush rfl ?_
  refine g_icmp_ge_t rfl (by omega) ?_
  refine g_aload_n rfl rfl ?_
  refine g_iload_n rfl rfl ?_
  refine g_callVI [aI a] [] rfl rfl rfl rfl (Nat.le_of_ble_eq_true rfl) ms.1 (m_isFar (by omega) ms V ok mt a ha) ?_
  rintro r1 _ ⟨rfl, e2⟩
  rw [e2]
  clear e2 r1
  refine g_b_ne rfl (fun c123 => ?_) (fun c123 => ?_)
  · skip
    refine g_bipush rfl ?_
    refine g_iret rfl ?_
    have ek : keepM S 1 (m_s18_O S a b) = (-3, S) := by
      have eo : m_s18_O S a b = none := by
        unfold m_s18_O
        have l0 := @lcmp_0 (m_within_S (tpR S a) (tpR S b)) 0
        have l1 := @lcmp_lt (m_within_S (tpR S a) (tpR S b)) 0
        first
          | exact m_tan_no (by omega)
          | exact m_tan_no2 (by omega) (by omega) 
      rw [eo]
      rfl
    rw [ek]
    exact ⟨V, rfl, KM.of (G0.mono (by omega)), rfl, mt⟩
  · skip
    refine g_aload_n rfl rfl ?_
    refine g_aload_n rfl rfl ?_
    refine g_aload_n rfl rfl ?_
    refine g_getR rfl ms.1 (mr_one ms) ?_
    refine g_aload_n rfl rfl ?_
    refine g_getR rfl ms.1 (mr_two ms) ?_
    refine g_callVI [aO (some (o + 24)), aO (some (o + 25))] [aO (some o)] rfl rfl rfl rfl (Nat.le_of_ble_eq_true rfl) ms.1 (m_within (by omega) ms V (by have := G0.2.2.1; omega) ((o + 24)) (show SLa o ((o + 24)) by unfold SLa; omega) (show SB V o (o + 24) (tpR S a) (20) from ⟨_, _, _, _, sP, (xPp.up (by omega)), (xPq.up (by omega)), (xPr.up (by omega)), (xPs.up (by omega))⟩) ((o + 25)) (show SLa o ((o + 25)) by unfold SLa; omega) (show SB V o (o + 25) (tpR S b) (180) from ⟨_, _, _, _, sQ, (xQp.up (by omega)), (xQq.up (by omega)), (xQr.up (by omega)), (xQs.up (by omega))⟩)) ?_
    rintro _ _ ⟨p3, rfl, V3, rfl, g3, xp3⟩
    have G_4 := G0.trans (g3.gs _)
    refine g_callVI [aI ((p3 : Int))] [] rfl rfl rfl rfl (Nat.le_of_ble_eq_true rfl) ms.1 (r_sign (by omega) ms V3 xp3) ?_
    rintro r5 _ ⟨rfl, e6⟩
    rw [e6]
    clear e6 r5
    refine g_if_ge rfl (fun c142 => ?_) (fun c142 => ?_)
    · skip
      refine g_aload_n rfl rfl ?_
      refine g_aload_n rfl rfl ?_
      refine g_getR rfl ms.1 (mr_one ms) ?_
      refine g_aload_n rfl rfl ?_
      refine g_getR rfl ms.1 (mr_two ms) ?_
      refine g_aload_n rfl rfl ?_
      refine g_getR rfl ms.1 (mr_three ms) ?_
      refine g_callVN [aO (some (o + 24)), aO (some (o + 25)), aO (some (o + 26))] [] rfl rfl rfl rfl (Nat.le_of_ble_eq_true rfl) ms.1 (m_polar (by omega) ms V3 (by have := G_4.2.2.1; omega) ((o + 24)) (show SLa o ((o + 24)) by unfold SLa; omega) (show SB V3 o (o + 24) (tpR S a) (20) from ⟨_, _, _, _, (g3.sa (show SLa o ((o + 24)) by unfold SLa; omega) sP), ((g3.rb xPp).up (by omega)), ((g3.rb xPq).up (by omega)), ((g3.rb xPr).up (by omega)), ((g3.rb xPs).up (by omega))⟩) ((o + 25)) (show SLa o ((o + 25)) by unfold SLa; omega) (show SB V3 o (o + 25) (tpR S b) (20) from ⟨_, _, _, _, (g3.sa (show SLa o ((o + 25)) by unfold SLa; omega) sQ), ((g3.rb xQp).up (by omega)), ((g3.rb xQq).up (by omega)), ((g3.rb xQr).up (by omega)), ((g3.rb xQs).up (by omega))⟩) ((o + 26)) (show SLa o ((o + 26)) by unfold SLa; omega) (by omega)) ?_
      rintro _ ⟨V7, rfl, g7, t7, u7, v7, y7, s7, xt7, xu7, xv7, xy7⟩
      have G_8 := G_4.trans (g7.wide (fun q hq => by have hq : q = o + 26 := hq; show q = o + 26 ∨ q = o + 27 ∨ q = o + 28 ∨ q = o + 29; omega))
      refine g_aload_n rfl rfl ?_
      refine g_aload_n rfl rfl ?_
      refine g_aload_n rfl rfl ?_
      refine g_getR rfl ms.1 (mr_one ms) ?_
      refine g_aload_n rfl rfl ?_
      refine g_getR rfl ms.1 (mr_two ms) ?_
      refine g_callVI [aO (some (o + 24)), aO (some (o + 25))] [aO (some o)] rfl rfl rfl rfl (Nat.le_of_ble_eq_true rfl) ms.1 (m_within (by omega) ms V7 (by have := G_8.2.2.1; omega) ((o + 24)) (show SLa o ((o + 24)) by unfold SLa; omega) (show SB V7 o (o + 24) (tpR S a) (20) from ⟨_, _, _, _, (g7.sa (show SLa o ((o + 24)) by unfold SLa; omega) (show ¬(o + 24 = o + 26) by omega) (g3.sa (show SLa o ((o + 24)) by unfold SLa; omega) sP)), ((g7.rb (g3.rb xPp)).up (by omega)), ((g7.rb (g3.rb xPq)).up (by omega)), ((g7.rb (g3.rb xPr)).up (by omega)), ((g7.rb (g3.rb xPs)).up (by omega))⟩) ((o + 25)) (show SLa o ((o + 25)) by unfold SLa; omega) (show SB V7 o (o + 25) (tpR S b) (180) from ⟨_, _, _, _, (g7.sa (show SLa o ((o + 25)) by unfold SLa; omega) (show ¬(o + 25 = o + 26) by omega) (g3.sa (show SLa o ((o + 25)) by unfold SLa; omega) sQ)), ((g7.rb (g3.rb xQp)).up (by omega)), ((g7.rb (g3.rb xQq)).up (by omega)), ((g7.rb (g3.rb xQr)).up (by omega)), ((g7.rb (g3.rb xQs)).up (by omega))⟩)) ?_
      rintro _ _ ⟨p9, rfl, V9, rfl, g9, xp9⟩
      have G_10 := G_8.trans (g9.gs _)
      refine g_callVI [aI ((p9 : Int))] [] rfl rfl rfl rfl (Nat.le_of_ble_eq_true rfl) ms.1 (r_sign (by omega) ms V9 xp9) ?_
      rintro r11 _ ⟨rfl, e12⟩
      rw [e12]
      clear e12 r11
      refine g_if_ne rfl (fun c180 => ?_) (fun c180 => ?_)
      · skip
        refine g_aload_n rfl rfl ?_
        refine g_aload_n rfl rfl ?_
        refine g_getR rfl ms.1 (mr_three ms) ?_
        refine g_aload_n rfl rfl ?_
        refine g_getR rfl ms.1 (mr_two ms) ?_
        refine g_iconst rfl ?_
        refine g_aload_n rfl rfl ?_
        refine g_getR rfl ms.1 (mr_four ms) ?_
        refine g_callVI [aO (some (o + 26)), aO (some (o + 25)), aI 0, aO (some (o + 27))] [] rfl rfl rfl rfl (Nat.le_of_ble_eq_true rfl) ms.1 (m_meet0 (by omega) ms V9 (by have := G_10.2.2.1; omega) ((o + 26)) (show SLa o ((o + 26)) by unfold SLa; omega) (show SB V9 o (o + 26) (m_polar_S (tpR S a) (tpR S b)) (42) from ⟨_, _, _, _, (g9.sa (show SLa o ((o + 26)) by unfold SLa; omega) s7), ((g9.rb xt7).up (by omega)), ((g9.rb xu7).up (by omega)), ((g9.rb xv7).up (by omega)), ((g9.rb xy7).up (by omega))⟩) ((o + 25)) (show SLa o ((o + 25)) by unfold SLa; omega) (show SB V9 o (o + 25) (tpR S b) (20) from ⟨_, _, _, _, (g9.sa (show SLa o ((o + 25)) by unfold SLa; omega) (g7.sa (show SLa o ((o + 25)) by unfold SLa; omega) (show ¬(o + 25 = o + 26) by omega) (g3.sa (show SLa o ((o + 25)) by unfold SLa; omega) sQ))), ((g9.rb (g7.rb (g3.rb xQp))).up (by omega)), ((g9.rb (g7.rb (g3.rb xQq))).up (by omega)), ((g9.rb (g7.rb (g3.rb xQr))).up (by omega)), ((g9.rb (g7.rb (g3.rb xQs))).up (by omega))⟩) ((o + 27)) (show SLa o ((o + 27)) by unfold SLa; omega) (by omega)) ?_
        rintro r13 _ ⟨V13, rfl, g13, q13⟩
        have G_14 := G_10.trans (g13.wide (fun q hq => by have hq : q = o + 27 := hq; show q = o + 26 ∨ q = o + 27 ∨ q = o + 28 ∨ q = o + 29; omega))
        cases eS13 : m_meet_O false (m_polar_S (tpR S a) (tpR S b)) (tpR S b) with
        | none =>
          rw [eS13] at q13
          obtain rfl : r13 = 0 := q13
          refine g_if_ne_f rfl (by omega) ?_
          refine g_bipush rfl ?_
          refine g_iret rfl ?_
          have ek : keepM S 1 (m_s18_O S a b) = (-3, S) := by
            have eo : m_s18_O S a b = none := by
              unfold m_s18_O
              have l0 := @lcmp_0 (m_within_S (tpR S a) (tpR S b)) 0
              have l1 := @lcmp_lt (m_within_S (tpR S a) (tpR S b)) 0
              first
                | exact m_tan_no (by omega)
                | exact m_tan_no2 (by omega) (by omega) eS13
            rw [eo]
            rfl
          rw [ek]
          exact ⟨V13, rfl, KM.of (G_14.mono (by omega)), rfl, (g13.mt (show ¬((o + 4) = o + 27) by omega) (show ¬((o + 5) = o + 27) by omega) (g9.mt (g7.mt (show ¬((o + 4) = o + 26) by omega) (show ¬((o + 5) = o + 26) by omega) (g3.mt mt))))⟩
        | some P13 =>
          rw [eS13] at q13
          obtain ⟨rfl, t13, u13, v13, y13, s13, xt13, xu13, xv13, xy13⟩ := q13
          refine g_if_ne_t rfl (by omega) ?_
          refine g_aload_n rfl rfl ?_
          refine g_aload_n rfl rfl ?_
          refine g_getR rfl ms.1 (mr_three ms) ?_
          refine g_aload_n rfl rfl ?_
          refine g_getR rfl ms.1 (mr_two ms) ?_
          refine g_iconst rfl ?_
          refine g_aload_n rfl rfl ?_
          refine g_getR rfl ms.1 (mr_five ms) ?_
          refine g_callVI [aO (some (o + 26)), aO (some (o + 25)), aI 1, aO (some (o + 28))] [] rfl rfl rfl rfl (Nat.le_of_ble_eq_true rfl) ms.1 (m_meet1 (by omega) ms V13 (by have := G_14.2.2.1; omega) ((o + 26)) (show SLa o ((o + 26)) by unfold SLa; omega) (show SB V13 o (o + 26) (m_polar_S (tpR S a) (tpR S b)) (42) from ⟨_, _, _, _, (g13.sa (show SLa o ((o + 26)) by unfold SLa; omega) (show ¬(o + 26 = o + 27) by omega) (g9.sa (show SLa o ((o + 26)) by unfold SLa; omega) s7)), ((g13.rb (g9.rb xt7)).up (by omega)), ((g13.rb (g9.rb xu7)).up (by omega)), ((g13.rb (g9.rb xv7)).up (by omega)), ((g13.rb (g9.rb xy7)).up (by omega))⟩) ((o + 25)) (show SLa o ((o + 25)) by unfold SLa; omega) (show SB V13 o (o + 25) (tpR S b) (20) from ⟨_, _, _, _, (g13.sa (show SLa o ((o + 25)) by unfold SLa; omega) (show ¬(o + 25 = o + 27) by omega) (g9.sa (show SLa o ((o + 25)) by unfold SLa; omega) (g7.sa (show SLa o ((o + 25)) by unfold SLa; omega) (show ¬(o + 25 = o + 26) by omega) (g3.sa (show SLa o ((o + 25)) by unfold SLa; omega) sQ)))), ((g13.rb (g9.rb (g7.rb (g3.rb xQp)))).up (by omega)), ((g13.rb (g9.rb (g7.rb (g3.rb xQq)))).up (by omega)), ((g13.rb (g9.rb (g7.rb (g3.rb xQr)))).up (by omega)), ((g13.rb (g9.rb (g7.rb (g3.rb xQs)))).up (by omega))⟩) ((o + 28)) (show SLa o ((o + 28)) by unfold SLa; omega) (by omega)) ?_
          rintro r15 _ ⟨V15, rfl, g15, q15⟩
          have G_16 := G_14.trans (g15.wide (fun q hq => by have hq : q = o + 28 := hq; show q = o + 26 ∨ q = o + 27 ∨ q = o + 28 ∨ q = o + 29; omega))
          obtain ⟨P15, eS15⟩ : ∃ P, m_meet_O true (m_polar_S (tpR S a) (tpR S b)) (tpR S b) = some P := m_meet_both eS13
          rw [eS15] at q15
          obtain ⟨rfl, t15, u15, v15, y15, s15, xt15, xu15, xv15, xy15⟩ := q15
          refine g_istore_n (l1 := [(3, aI 1), (0, aO (some o)), (1, aI 18), (2, aI a)]) rfl rfl ?_
          refine g_aload_n rfl rfl ?_
          refine g_aload_n rfl rfl ?_
          refine g_getR rfl ms.1 (mr_four ms) ?_
          refine g_iconst rfl ?_
          refine g_callVN [aO (some (o + 27)), aI 0] [] rfl rfl rfl rfl (Nat.le_of_ble_eq_true rfl) ms.1 (m_settle0 (by omega) ms V15 (by have := G_16.2.2.1; omega) ((o + 27)) (show SLa o ((o + 27)) by unfold SLa; omega) (show SB V15 o (o + 27) P13 (250) from ⟨_, _, _, _, (g15.sa (show SLa o ((o + 27)) by unfold SLa; omega) (show ¬(o + 27 = o + 28) by omega) s13), ((g15.rb xt13).up (by omega)), ((g15.rb xu13).up (by omega)), ((g15.rb xv13).up (by omega)), ((g15.rb xy13).up (by omega))⟩) (by omega)) ?_
          rintro _ ⟨V17, rfl, g17, t17, u17, v17, y17, s17, xt17, xu17, xv17, xy17⟩
          have G_18 := G_16.trans (g17.wide (fun q hq => by have hq : q = o + 27 := hq; show q = o + 26 ∨ q = o + 27 ∨ q = o + 28 ∨ q = o + 29; omega))
          refine g_aload_n rfl rfl ?_
          refine g_aload_n rfl rfl ?_
          refine g_getR rfl ms.1 (mr_five ms) ?_
          refine g_iconst rfl ?_
          refine g_callVN [aO (some (o + 28)), aI 0] [] rfl rfl rfl rfl (Nat.le_of_ble_eq_true rfl) ms.1 (m_settle0 (by omega) ms V17 (by have := G_18.2.2.1; omega) ((o + 28)) (show SLa o ((o + 28)) by unfold SLa; omega) (show SB V17 o (o + 28) P15 (250) from ⟨_, _, _, _, (g17.sa (show SLa o ((o + 28)) by unfold SLa; omega) (show ¬(o + 28 = o + 27) by omega) s15), ((g17.rb xt15).up (by omega)), ((g17.rb xu15).up (by omega)), ((g17.rb xv15).up (by omega)), ((g17.rb xy15).up (by omega))⟩) (by omega)) ?_
          rintro _ ⟨V19, rfl, g19, t19, u19, v19, y19, s19, xt19, xu19, xv19, xy19⟩
          have G_20 := G_18.trans (g19.wide (fun q hq => by have hq : q = o + 28 := hq; show q = o + 26 ∨ q = o + 27 ∨ q = o + 28 ∨ q = o + 29; omega))
          refine g_aload_n rfl rfl ?_
          refine g_aload_n rfl rfl ?_
          refine g_getR rfl ms.1 (mr_four ms) ?_
          refine g_aload_n rfl rfl ?_
          refine g_getR rfl ms.1 (mr_two ms) ?_
          refine g_aload_n rfl rfl ?_
          refine g_getR rfl ms.1 (mr_got ms) ?_
          refine g_callVN [aO (some (o + 27)), aO (some (o + 25)), aO (some (o + 29))] [] rfl rfl rfl rfl (Nat.le_of_ble_eq_true rfl) ms.1 (m_polar (by omega) ms V19 (by have := G_20.2.2.1; omega) ((o + 27)) (show SLa o ((o + 27)) by unfold SLa; omega) (show SB V19 o (o + 27) (m_low P13) (250) from ⟨_, _, _, _, (g19.sa (show SLa o ((o + 27)) by unfold SLa; omega) (show ¬(o + 27 = o + 28) by omega) s17), ((g19.rb xt17).up (by omega)), ((g19.rb xu17).up (by omega)), ((g19.rb xv17).up (by omega)), ((g19.rb xy17).up (by omega))⟩) ((o + 25)) (show SLa o ((o + 25)) by unfold SLa; omega) (show SB V19 o (o + 25) (tpR S b) (20) from ⟨_, _, _, _, (g19.sa (show SLa o ((o + 25)) by unfold SLa; omega) (show ¬(o + 25 = o + 28) by omega) (g17.sa (show SLa o ((o + 25)) by unfold SLa; omega) (show ¬(o + 25 = o + 27) by omega) (g15.sa (show SLa o ((o + 25)) by unfold SLa; omega) (show ¬(o + 25 = o + 28) by omega) (g13.sa (show SLa o ((o + 25)) by unfold SLa; omega) (show ¬(o + 25 = o + 27) by omega) (g9.sa (show SLa o ((o + 25)) by unfold SLa; omega) (g7.sa (show SLa o ((o + 25)) by unfold SLa; omega) (show ¬(o + 25 = o + 26) by omega) (g3.sa (show SLa o ((o + 25)) by unfold SLa; omega) sQ))))))), ((g19.rb (g17.rb (g15.rb (g13.rb (g9.rb (g7.rb (g3.rb xQp))))))).up (by omega)), ((g19.rb (g17.rb (g15.rb (g13.rb (g9.rb (g7.rb (g3.rb xQq))))))).up (by omega)), ((g19.rb (g17.rb (g15.rb (g13.rb (g9.rb (g7.rb (g3.rb xQr))))))).up (by omega)), ((g19.rb (g17.rb (g15.rb (g13.rb (g9.rb (g7.rb (g3.rb xQs))))))).up (by omega))⟩) ((o + 29)) (show SLa o ((o + 29)) by unfold SLa; omega) (by omega)) ?_
          rintro _ ⟨V21, rfl, g21, t21, u21, v21, y21, s21, xt21, xu21, xv21, xy21⟩
          have G_22 := G_20.trans (g21.wide (fun q hq => by have hq : q = o + 29 := hq; show q = o + 26 ∨ q = o + 27 ∨ q = o + 28 ∨ q = o + 29; omega))
          refine g_aload_n rfl rfl ?_
          refine g_aload_n rfl rfl ?_
          refine g_getR rfl ms.1 (mr_five ms) ?_
          refine g_aload_n rfl rfl ?_
          refine g_getR rfl ms.1 (mr_two ms) ?_
          refine g_aload_n rfl rfl ?_
          refine g_getR rfl ms.1 (mr_three ms) ?_
          refine g_callVN [aO (some (o + 28)), aO (some (o + 25)), aO (some (o + 26))] [] rfl rfl rfl rfl (Nat.le_of_ble_eq_true rfl) ms.1 (m_polar (by omega) ms V21 (by have := G_22.2.2.1; omega) ((o + 28)) (show SLa o ((o + 28)) by unfold SLa; omega) (show SB V21 o (o + 28) (m_low P15) (250) from ⟨_, _, _, _, (g21.sa (show SLa o ((o + 28)) by unfold SLa; omega) (show ¬(o + 28 = o + 29) by omega) s19), ((g21.rb xt19).up (by omega)), ((g21.rb xu19).up (by omega)), ((g21.rb xv19).up (by omega)), ((g21.rb xy19).up (by omega))⟩) ((o + 25)) (show SLa o ((o + 25)) by unfold SLa; omega) (show SB V21 o (o + 25) (tpR S b) (20) from ⟨_, _, _, _, (g21.sa (show SLa o ((o + 25)) by unfold SLa; omega) (show ¬(o + 25 = o + 29) by omega) (g19.sa (show SLa o ((o + 25)) by unfold SLa; omega) (show ¬(o + 25 = o + 28) by omega) (g17.sa (show SLa o ((o + 25)) by unfold SLa; omega) (show ¬(o + 25 = o + 27) by omega) (g15.sa (show SLa o ((o + 25)) by unfold SLa; omega) (show ¬(o + 25 = o + 28) by omega) (g13.sa (show SLa o ((o + 25)) by unfold SLa; omega) (show ¬(o + 25 = o + 27) by omega) (g9.sa (show SLa o ((o + 25)) by unfold SLa; omega) (g7.sa (show SLa o ((o + 25)) by unfold SLa; omega) (show ¬(o + 25 = o + 26) by omega) (g3.sa (show SLa o ((o + 25)) by unfold SLa; omega) sQ)))))))), ((g21.rb (g19.rb (g17.rb (g15.rb (g13.rb (g9.rb (g7.rb (g3.rb xQp)))))))).up (by omega)), ((g21.rb (g19.rb (g17.rb (g15.rb (g13.rb (g9.rb (g7.rb (g3.rb xQq)))))))).up (by omega)), ((g21.rb (g19.rb (g17.rb (g15.rb (g13.rb (g9.rb (g7.rb (g3.rb xQr)))))))).up (by omega)), ((g21.rb (g19.rb (g17.rb (g15.rb (g13.rb (g9.rb (g7.rb (g3.rb xQs)))))))).up (by omega))⟩) ((o + 26)) (show SLa o ((o + 26)) by unfold SLa; omega) (by omega)) ?_
          rintro _ ⟨V23, rfl, g23, t23, u23, v23, y23, s23, xt23, xu23, xv23, xy23⟩
          have G_24 := G_22.trans (g23.wide (fun q hq => by have hq : q = o + 26 := hq; show q = o + 26 ∨ q = o + 27 ∨ q = o + 28 ∨ q = o + 29; omega))
          refine g_aload_n rfl rfl ?_
          refine g_aload_n rfl rfl ?_
          refine g_getR rfl ms.1 (mr_got ms) ?_
          refine g_iconst rfl ?_
          refine g_callVN [aO (some (o + 29)), aI 1] [] rfl rfl rfl rfl (Nat.le_of_ble_eq_true rfl) ms.1 (m_settle1 (by omega) ms V23 (by have := G_24.2.2.1; omega) ((o + 29)) (show SLa o ((o + 29)) by unfold SLa; omega) (show SB V23 o (o + 29) (m_polar_S (m_low P13) (tpR S b)) (272) from ⟨_, _, _, _, (g23.sa (show SLa o ((o + 29)) by unfold SLa; omega) (show ¬(o + 29 = o + 26) by omega) s21), ((g23.rb xt21).up (by omega)), ((g23.rb xu21).up (by omega)), ((g23.rb xv21).up (by omega)), ((g23.rb xy21).up (by omega))⟩) (by omega)) ?_
          rintro _ ⟨V25, rfl, g25, t25, u25, v25, y25, s25, xt25, xu25, xv25, xy25⟩
          have G_26 := G_24.trans (g25.wide (fun q hq => by have hq : q = o + 29 := hq; show q = o + 26 ∨ q = o + 27 ∨ q = o + 28 ∨ q = o + 29; omega))
          refine g_aload_n rfl rfl ?_
          refine g_aload_n rfl rfl ?_
          refine g_getR rfl ms.1 (mr_three ms) ?_
          refine g_iconst rfl ?_
          refine g_callVN [aO (some (o + 26)), aI 1] [] rfl rfl rfl rfl (Nat.le_of_ble_eq_true rfl) ms.1 (m_settle1 (by omega) ms V25 (by have := G_26.2.2.1; omega) ((o + 26)) (show SLa o ((o + 26)) by unfold SLa; omega) (show SB V25 o (o + 26) (m_polar_S (m_low P15) (tpR S b)) (272) from ⟨_, _, _, _, (g25.sa (show SLa o ((o + 26)) by unfold SLa; omega) (show ¬(o + 26 = o + 29) by omega) s23), ((g25.rb xt23).up (by omega)), ((g25.rb xu23).up (by omega)), ((g25.rb xv23).up (by omega)), ((g25.rb xy23).up (by omega))⟩) (by omega)) ?_
          rintro _ ⟨V27, rfl, g27, t27, u27, v27, y27, s27, xt27, xu27, xv27, xy27⟩
          have G_28 := G_26.trans (g27.wide (fun q hq => by have hq : q = o + 26 := hq; show q = o + 26 ∨ q = o + 27 ∨ q = o + 28 ∨ q = o + 29; omega))
          refine g_aload_n rfl rfl ?_
          refine g_aload_n rfl rfl ?_
          refine g_getR rfl ms.1 (mr_got ms) ?_
          refine g_iconst rfl ?_
          refine g_iald (i := 0) rfl (mt_got ms) (by omega) (by omega) ?_
          refine g_top (v2 := aI ((t25 : Int))) (congrArg aI (by exact (g27.sa (show SLa o ((o + 29)) by unfold SLa; omega) (show ¬(o + 29 = o + 26) by omega) s25).1)) ?_
          refine g_aload_n rfl rfl ?_
          refine g_getR rfl ms.1 (mr_three ms) ?_
          refine g_iconst rfl ?_
          refine g_iald (i := 0) rfl (mt_three ms) (by omega) (by omega) ?_
          refine g_top (v2 := aI ((t27 : Int))) (congrArg aI (by exact s27.1)) ?_
          refine g_callVI [aI ((t25 : Int)), aI ((t27 : Int))] [] rfl rfl rfl rfl (Nat.le_of_ble_eq_true rfl) ms.1 (r_cmp (by omega) ms V27 (by have := G_28.2.2.1; omega) (g27.rb xt25) xt27 (273) (by omega) (by omega) (by omega)) ?_
          rintro _ _ ⟨rfl, V29, rfl, g29⟩
          have G_30 := G_28.trans (g29.gs _)
          refine g_istore (l1 := [(4, aI (lcmp ((m_low (m_polar_S (m_low P13) (tpR S b))).1) ((m_low (m_polar_S (m_low P15) (tpR S b))).1))), (3, aI 1), (0, aO (some o)), (1, aI 18), (2, aI a)]) rfl rfl ?_
          refine g_iload rfl rfl ?_
          refine g_if_eq rfl (fun c322 => ?_) (fun c322 => ?_)
          · skip
            refine g_aload_n rfl rfl ?_
            refine g_aload_n rfl rfl ?_
            refine g_getR rfl ms.1 (mr_got ms) ?_
            refine g_iconst rfl ?_
            refine g_iald (i := 1) rfl (mt_got ms) (by omega) (by omega) ?_
            refine g_top (v2 := aI ((u25 : Int))) (congrArg aI (by exact (g29.sa (show SLa o ((o + 29)) by unfold SLa; omega) (g27.sa (show SLa o ((o + 29)) by unfold SLa; omega) (show ¬(o + 29 = o + 26) by omega) s25)).2.1)) ?_
            refine g_aload_n rfl rfl ?_
            refine g_getR rfl ms.1 (mr_three ms) ?_
            refine g_iconst rfl ?_
            refine g_iald (i := 1) rfl (mt_three ms) (by omega) (by omega) ?_
            refine g_top (v2 := aI ((u27 : Int))) (congrArg aI (by exact (g29.sa (show SLa o ((o + 26)) by unfold SLa; omega) s27).2.1)) ?_
            refine g_callVI [aI ((u25 : Int)), aI ((u27 : Int))] [] rfl rfl rfl rfl (Nat.le_of_ble_eq_true rfl) ms.1 (r_cmp (by omega) ms V29 (by have := G_30.2.2.1; omega) (g29.rb (g27.rb xu25)) (g29.rb xu27) (273) (by omega) (by omega) (by omega)) ?_
            rintro _ _ ⟨rfl, V31, rfl, g31⟩
            have G_32 := G_30.trans (g31.gs _)
            refine g_istore (l1 := [(4, aI (lcmp ((m_low (m_polar_S (m_low P13) (tpR S b))).2.1) ((m_low (m_polar_S (m_low P15) (tpR S b))).2.1))), (3, aI 1), (0, aO (some o)), (1, aI 18), (2, aI a)]) rfl rfl ?_
            refine g_iload rfl rfl ?_
            refine g_if_eq rfl (fun c350 => ?_) (fun c350 => ?_)
            · skip
              refine g_aload_n rfl rfl ?_
              refine g_aload_n rfl rfl ?_
              refine g_getR rfl ms.1 (mr_got ms) ?_
              refine g_iconst rfl ?_
              refine g_iald (i := 2) rfl (mt_got ms) (by omega) (by omega) ?_
              refine g_top (v2 := aI ((v25 : Int))) (congrArg aI (by exact (g31.sa (show SLa o ((o + 29)) by unfold SLa; omega) (g29.sa (show SLa o ((o + 29)) by unfold SLa; omega) (g27.sa (show SLa o ((o + 29)) by unfold SLa; omega) (show ¬(o + 29 = o + 26) by omega) s25))).2.2.1)) ?_
              refine g_aload_n rfl rfl ?_
              refine g_getR rfl ms.1 (mr_three ms) ?_
              refine g_iconst rfl ?_
              refine g_iald (i := 2) rfl (mt_three ms) (by omega) (by omega) ?_
              refine g_top (v2 := aI ((v27 : Int))) (congrArg aI (by exact (g31.sa (show SLa o ((o + 26)) by unfold SLa; omega) (g29.sa (show SLa o ((o + 26)) by unfold SLa; omega) s27)).2.2.1)) ?_
              refine g_callVI [aI ((v25 : Int)), aI ((v27 : Int))] [] rfl rfl rfl rfl (Nat.le_of_ble_eq_true rfl) ms.1 (r_cmp (by omega) ms V31 (by have := G_32.2.2.1; omega) (g31.rb (g29.rb (g27.rb xv25))) (g31.rb (g29.rb xv27)) (273) (by omega) (by omega) (by omega)) ?_
              rintro _ _ ⟨rfl, V33, rfl, g33⟩
              have G_34 := G_32.trans (g33.gs _)
              refine g_istore (l1 := [(4, aI (lcmp ((m_low (m_polar_S (m_low P13) (tpR S b))).2.2.1) ((m_low (m_polar_S (m_low P15) (tpR S b))).2.2.1))), (3, aI 1), (0, aO (some o)), (1, aI 18), (2, aI a)]) rfl rfl ?_
              refine g_aload_n rfl rfl ?_
              refine g_iload_n rfl rfl ?_
              refine g_if_eq_f rfl (by omega) ?_
              refine g_iload rfl rfl ?_
              refine g_if_ge rfl (fun c383 => ?_) (fun c383 => ?_)
              · skip
                refine g_iconst rfl ?_
                refine g_iload_n rfl rfl ?_
                refine g_bipush rfl ?_
                refine g_icmp_ne_f rfl (by omega) ?_
                refine g_iconst rfl ?_
                refine g_goto rfl ?_
                refine g_icmp_ne_t rfl (by omega) ?_
                refine g_aload_n rfl rfl ?_
                refine g_getR rfl ms.1 (mr_three ms) ?_
                refine g_iconst rfl ?_
                refine g_callVI [aO (some (o + 26)), aI 1] [] rfl rfl rfl rfl (Nat.le_of_ble_eq_true rfl) ms.1 (m_keepT1 (by omega) ms V33 ok (g33.mt (g31.mt (g29.mt (g27.mt (show ¬((o + 4) = o + 26) by omega) (show ¬((o + 5) = o + 26) by omega) (g25.mt (show ¬((o + 4) = o + 29) by omega) (show ¬((o + 5) = o + 29) by omega) (g23.mt (show ¬((o + 4) = o + 26) by omega) (show ¬((o + 5) = o + 26) by omega) (g21.mt (show ¬((o + 4) = o + 29) by omega) (show ¬((o + 5) = o + 29) by omega) (g19.mt (show ¬((o + 4) = o + 28) by omega) (show ¬((o + 5) = o + 28) by omega) (g17.mt (show ¬((o + 4) = o + 27) by omega) (show ¬((o + 5) = o + 27) by omega) (g15.mt (show ¬((o + 4) = o + 28) by omega) (show ¬((o + 5) = o + 28) by omega) (g13.mt (show ¬((o + 4) = o + 27) by omega) (show ¬((o + 5) = o + 27) by omega) (g9.mt (g7.mt (show ¬((o + 4) = o + 26) by omega) (show ¬((o + 5) = o + 26) by omega) (g3.mt mt)))))))))))))) (by have := G_34.2.2.1; omega) ((o + 26)) (show SLa o ((o + 26)) by unfold SLa; omega) (show SB V33 o (o + 26) (m_low (m_polar_S (m_low P15) (tpR S b))) (272) from ⟨_, _, _, _, (g33.sa (show SLa o ((o + 26)) by unfold SLa; omega) (g31.sa (show SLa o ((o + 26)) by unfold SLa; omega) (g29.sa (show SLa o ((o + 26)) by unfold SLa; omega) s27))), ((g33.rb (g31.rb (g29.rb xt27))).up (by omega)), ((g33.rb (g31.rb (g29.rb xu27))).up (by omega)), ((g33.rb (g31.rb (g29.rb xv27))).up (by omega)), ((g33.rb (g31.rb (g29.rb xy27))).up (by omega))⟩) (by omega)) ?_
                rintro r35 _ ⟨V35, rfl, k35, e35, m35⟩
                refine g_iret rfl ?_
                have ek : keepM S 1 (m_s18_O S a b) = keepT S 1 (lowK 1 (m_low (m_polar_S (m_low P15) (tpR S b)))) := by
                  have eo : m_s18_O S a b = some (m_low (m_polar_S (m_low P15) (tpR S b))) := by
                    unfold m_s18_O
                    have l0 := @lcmp_0 (m_within_S (tpR S a) (tpR S b)) 0
                    have l1 := @lcmp_lt (m_within_S (tpR S a) (tpR S b)) 0
                    have u0 := @lcmp_0 (m_low (m_polar_S (m_low P13) (tpR S b))).1 (m_low (m_polar_S (m_low P15) (tpR S b))).1
                    have v0 := @lcmp_lt (m_low (m_polar_S (m_low P13) (tpR S b))).1 (m_low (m_polar_S (m_low P15) (tpR S b))).1
                    have u1 := @lcmp_0 (m_low (m_polar_S (m_low P13) (tpR S b))).2.1 (m_low (m_polar_S (m_low P15) (tpR S b))).2.1
                    have v1 := @lcmp_lt (m_low (m_polar_S (m_low P13) (tpR S b))).2.1 (m_low (m_polar_S (m_low P15) (tpR S b))).2.1
                    have u2 := @lcmp_0 (m_low (m_polar_S (m_low P13) (tpR S b))).2.2.1 (m_low (m_polar_S (m_low P15) (tpR S b))).2.2.1
                    have v2 := @lcmp_lt (m_low (m_polar_S (m_low P13) (tpR S b))).2.2.1 (m_low (m_polar_S (m_low P15) (tpR S b))).2.2.1
                    have hb : ¬ m_bef (m_side P13 (tpR S b)) (m_side P15 (tpR S b)) := by unfold m_bef m_side; omega
                    exact m_tan_w (by omega) (by omega) eS13 eS15 (by simp [hb])
                  rw [eo]
                  rfl
                rw [ek]
                exact ⟨_, rfl, (Gs.km G_34 k35 (fun q hq => by have hq : q = o + 26 := hq; show q = o + 26 ∨ q = o + 27 ∨ q = o + 28 ∨ q = o + 29; omega)).mono (by omega), e35, m35⟩
              · skip
                refine g_iconst rfl ?_
                refine g_goto rfl ?_
                refine g_iload_n rfl rfl ?_
                refine g_bipush rfl ?_
                refine g_icmp_ne_f rfl (by omega) ?_
                refine g_iconst rfl ?_
                refine g_goto rfl ?_
                refine g_icmp_ne_f rfl (by omega) ?_
                refine g_aload_n rfl rfl ?_
                refine g_getR rfl ms.1 (mr_got ms) ?_
                refine g_goto rfl ?_
                refine g_iconst rfl ?_
                refine g_callVI [aO (some (o + 29)), aI 1] [] rfl rfl rfl rfl (Nat.le_of_ble_eq_true rfl) ms.1 (m_keepT1 (by omega) ms V33 ok (g33.mt (g31.mt (g29.mt (g27.mt (show ¬((o + 4) = o + 26) by omega) (show ¬((o + 5) = o + 26) by omega) (g25.mt (show ¬((o + 4) = o + 29) by omega) (show ¬((o + 5) = o + 29) by omega) (g23.mt (show ¬((o + 4) = o + 26) by omega) (show ¬((o + 5) = o + 26) by omega) (g21.mt (show ¬((o + 4) = o + 29) by omega) (show ¬((o + 5) = o + 29) by omega) (g19.mt (show ¬((o + 4) = o + 28) by omega) (show ¬((o + 5) = o + 28) by omega) (g17.mt (show ¬((o + 4) = o + 27) by omega) (show ¬((o + 5) = o + 27) by omega) (g15.mt (show ¬((o + 4) = o + 28) by omega) (show ¬((o + 5) = o + 28) by omega) (g13.mt (show ¬((o + 4) = o + 27) by omega) (show ¬((o + 5) = o + 27) by omega) (g9.mt (g7.mt (show ¬((o + 4) = o + 26) by omega) (show ¬((o + 5) = o + 26) by omega) (g3.mt mt)))))))))))))) (by have := G_34.2.2.1; omega) ((o + 29)) (show SLa o ((o + 29)) by unfold SLa; omega) (show SB V33 o (o + 29) (m_low (m_polar_S (m_low P13) (tpR S b))) (272) from ⟨_, _, _, _, (g33.sa (show SLa o ((o + 29)) by unfold SLa; omega) (g31.sa (show SLa o ((o + 29)) by unfold SLa; omega) (g29.sa (show SLa o ((o + 29)) by unfold SLa; omega) (g27.sa (show SLa o ((o + 29)) by unfold SLa; omega) (show ¬(o + 29 = o + 26) by omega) s25)))), ((g33.rb (g31.rb (g29.rb (g27.rb xt25)))).up (by omega)), ((g33.rb (g31.rb (g29.rb (g27.rb xu25)))).up (by omega)), ((g33.rb (g31.rb (g29.rb (g27.rb xv25)))).up (by omega)), ((g33.rb (g31.rb (g29.rb (g27.rb xy25)))).up (by omega))⟩) (by omega)) ?_
                rintro r36 _ ⟨V36, rfl, k36, e36, m36⟩
                refine g_iret rfl ?_
                have ek : keepM S 1 (m_s18_O S a b) = keepT S 1 (lowK 1 (m_low (m_polar_S (m_low P13) (tpR S b)))) := by
                  have eo : m_s18_O S a b = some (m_low (m_polar_S (m_low P13) (tpR S b))) := by
                    unfold m_s18_O
                    have l0 := @lcmp_0 (m_within_S (tpR S a) (tpR S b)) 0
                    have l1 := @lcmp_lt (m_within_S (tpR S a) (tpR S b)) 0
                    have u0 := @lcmp_0 (m_low (m_polar_S (m_low P13) (tpR S b))).1 (m_low (m_polar_S (m_low P15) (tpR S b))).1
                    have v0 := @lcmp_lt (m_low (m_polar_S (m_low P13) (tpR S b))).1 (m_low (m_polar_S (m_low P15) (tpR S b))).1
                    have u1 := @lcmp_0 (m_low (m_polar_S (m_low P13) (tpR S b))).2.1 (m_low (m_polar_S (m_low P15) (tpR S b))).2.1
                    have v1 := @lcmp_lt (m_low (m_polar_S (m_low P13) (tpR S b))).2.1 (m_low (m_polar_S (m_low P15) (tpR S b))).2.1
                    have u2 := @lcmp_0 (m_low (m_polar_S (m_low P13) (tpR S b))).2.2.1 (m_low (m_polar_S (m_low P15) (tpR S b))).2.2.1
                    have v2 := @lcmp_lt (m_low (m_polar_S (m_low P13) (tpR S b))).2.2.1 (m_low (m_polar_S (m_low P15) (tpR S b))).2.2.1
                    have hb : m_bef (m_side P13 (tpR S b)) (m_side P15 (tpR S b)) := by unfold m_bef m_side; omega
                    exact m_tan_u (by omega) (by omega) eS13 eS15 (by simp [hb])
                  rw [eo]
                  rfl
                rw [ek]
                exact ⟨_, rfl, (Gs.km G_34 k36 (fun q hq => by have hq : q = o + 29 := hq; show q = o + 26 ∨ q = o + 27 ∨ q = o + 28 ∨ q = o + 29; omega)).mono (by omega), e36, m36⟩
            · skip
              refine g_iload rfl rfl ?_
              refine g_goto rfl ?_
              refine g_istore (l1 := [(4, aI (lcmp ((m_low (m_polar_S (m_low P13) (tpR S b))).2.1) ((m_low (m_polar_S (m_low P15) (tpR S b))).2.1))), (3, aI 1), (0, aO (some o)), (1, aI 18), (2, aI a)]) rfl rfl ?_
              refine g_aload_n rfl rfl ?_
              refine g_iload_n rfl rfl ?_
              refine g_if_eq_f rfl (by omega) ?_
              refine g_iload rfl rfl ?_
              refine g_if_ge rfl (fun c383 => ?_) (fun c383 => ?_)
              · skip
                refine g_iconst rfl ?_
                refine g_iload_n rfl rfl ?_
                refine g_bipush rfl ?_
                refine g_icmp_ne_f rfl (by omega) ?_
                refine g_iconst rfl ?_
                refine g_goto rfl ?_
                refine g_icmp_ne_t rfl (by omega) ?_
                refine g_aload_n rfl rfl ?_
                refine g_getR rfl ms.1 (mr_three ms) ?_
                refine g_iconst rfl ?_
                refine g_callVI [aO (some (o + 26)), aI 1] [] rfl rfl rfl rfl (Nat.le_of_ble_eq_true rfl) ms.1 (m_keepT1 (by omega) ms V31 ok (g31.mt (g29.mt (g27.mt (show ¬((o + 4) = o + 26) by omega) (show ¬((o + 5) = o + 26) by omega) (g25.mt (show ¬((o + 4) = o + 29) by omega) (show ¬((o + 5) = o + 29) by omega) (g23.mt (show ¬((o + 4) = o + 26) by omega) (show ¬((o + 5) = o + 26) by omega) (g21.mt (show ¬((o + 4) = o + 29) by omega) (show ¬((o + 5) = o + 29) by omega) (g19.mt (show ¬((o + 4) = o + 28) by omega) (show ¬((o + 5) = o + 28) by omega) (g17.mt (show ¬((o + 4) = o + 27) by omega) (show ¬((o + 5) = o + 27) by omega) (g15.mt (show ¬((o + 4) = o + 28) by omega) (show ¬((o + 5) = o + 28) by omega) (g13.mt (show ¬((o + 4) = o + 27) by omega) (show ¬((o + 5) = o + 27) by omega) (g9.mt (g7.mt (show ¬((o + 4) = o + 26) by omega) (show ¬((o + 5) = o + 26) by omega) (g3.mt mt))))))))))))) (by have := G_32.2.2.1; omega) ((o + 26)) (show SLa o ((o + 26)) by unfold SLa; omega) (show SB V31 o (o + 26) (m_low (m_polar_S (m_low P15) (tpR S b))) (272) from ⟨_, _, _, _, (g31.sa (show SLa o ((o + 26)) by unfold SLa; omega) (g29.sa (show SLa o ((o + 26)) by unfold SLa; omega) s27)), ((g31.rb (g29.rb xt27)).up (by omega)), ((g31.rb (g29.rb xu27)).up (by omega)), ((g31.rb (g29.rb xv27)).up (by omega)), ((g31.rb (g29.rb xy27)).up (by omega))⟩) (by omega)) ?_
                rintro r37 _ ⟨V37, rfl, k37, e37, m37⟩
                refine g_iret rfl ?_
                have ek : keepM S 1 (m_s18_O S a b) = keepT S 1 (lowK 1 (m_low (m_polar_S (m_low P15) (tpR S b)))) := by
                  have eo : m_s18_O S a b = some (m_low (m_polar_S (m_low P15) (tpR S b))) := by
                    unfold m_s18_O
                    have l0 := @lcmp_0 (m_within_S (tpR S a) (tpR S b)) 0
                    have l1 := @lcmp_lt (m_within_S (tpR S a) (tpR S b)) 0
                    have u0 := @lcmp_0 (m_low (m_polar_S (m_low P13) (tpR S b))).1 (m_low (m_polar_S (m_low P15) (tpR S b))).1
                    have v0 := @lcmp_lt (m_low (m_polar_S (m_low P13) (tpR S b))).1 (m_low (m_polar_S (m_low P15) (tpR S b))).1
                    have u1 := @lcmp_0 (m_low (m_polar_S (m_low P13) (tpR S b))).2.1 (m_low (m_polar_S (m_low P15) (tpR S b))).2.1
                    have v1 := @lcmp_lt (m_low (m_polar_S (m_low P13) (tpR S b))).2.1 (m_low (m_polar_S (m_low P15) (tpR S b))).2.1
                    have u2 := @lcmp_0 (m_low (m_polar_S (m_low P13) (tpR S b))).2.2.1 (m_low (m_polar_S (m_low P15) (tpR S b))).2.2.1
                    have v2 := @lcmp_lt (m_low (m_polar_S (m_low P13) (tpR S b))).2.2.1 (m_low (m_polar_S (m_low P15) (tpR S b))).2.2.1
                    have hb : ¬ m_bef (m_side P13 (tpR S b)) (m_side P15 (tpR S b)) := by unfold m_bef m_side; omega
                    exact m_tan_w (by omega) (by omega) eS13 eS15 (by simp [hb])
                  rw [eo]
                  rfl
                rw [ek]
                exact ⟨_, rfl, (Gs.km G_32 k37 (fun q hq => by have hq : q = o + 26 := hq; show q = o + 26 ∨ q = o + 27 ∨ q = o + 28 ∨ q = o + 29; omega)).mono (by omega), e37, m37⟩
              · skip
                refine g_iconst rfl ?_
                refine g_goto rfl ?_
                refine g_iload_n rfl rfl ?_
                refine g_bipush rfl ?_
                refine g_icmp_ne_f rfl (by omega) ?_
                refine g_iconst rfl ?_
                refine g_goto rfl ?_
                refine g_icmp_ne_f rfl (by omega) ?_
                refine g_aload_n rfl rfl ?_
                refine g_getR rfl ms.1 (mr_got ms) ?_
                refine g_goto rfl ?_
                refine g_iconst rfl ?_
                refine g_callVI [aO (some (o + 29)), aI 1] [] rfl rfl rfl rfl (Nat.le_of_ble_eq_true rfl) ms.1 (m_keepT1 (by omega) ms V31 ok (g31.mt (g29.mt (g27.mt (show ¬((o + 4) = o + 26) by omega) (show ¬((o + 5) = o + 26) by omega) (g25.mt (show ¬((o + 4) = o + 29) by omega) (show ¬((o + 5) = o + 29) by omega) (g23.mt (show ¬((o + 4) = o + 26) by omega) (show ¬((o + 5) = o + 26) by omega) (g21.mt (show ¬((o + 4) = o + 29) by omega) (show ¬((o + 5) = o + 29) by omega) (g19.mt (show ¬((o + 4) = o + 28) by omega) (show ¬((o + 5) = o + 28) by omega) (g17.mt (show ¬((o + 4) = o + 27) by omega) (show ¬((o + 5) = o + 27) by omega) (g15.mt (show ¬((o + 4) = o + 28) by omega) (show ¬((o + 5) = o + 28) by omega) (g13.mt (show ¬((o + 4) = o + 27) by omega) (show ¬((o + 5) = o + 27) by omega) (g9.mt (g7.mt (show ¬((o + 4) = o + 26) by omega) (show ¬((o + 5) = o + 26) by omega) (g3.mt mt))))))))))))) (by have := G_32.2.2.1; omega) ((o + 29)) (show SLa o ((o + 29)) by unfold SLa; omega) (show SB V31 o (o + 29) (m_low (m_polar_S (m_low P13) (tpR S b))) (272) from ⟨_, _, _, _, (g31.sa (show SLa o ((o + 29)) by unfold SLa; omega) (g29.sa (show SLa o ((o + 29)) by unfold SLa; omega) (g27.sa (show SLa o ((o + 29)) by unfold SLa; omega) (show ¬(o + 29 = o + 26) by omega) s25))), ((g31.rb (g29.rb (g27.rb xt25))).up (by omega)), ((g31.rb (g29.rb (g27.rb xu25))).up (by omega)), ((g31.rb (g29.rb (g27.rb xv25))).up (by omega)), ((g31.rb (g29.rb (g27.rb xy25))).up (by omega))⟩) (by omega)) ?_
                rintro r38 _ ⟨V38, rfl, k38, e38, m38⟩
                refine g_iret rfl ?_
                have ek : keepM S 1 (m_s18_O S a b) = keepT S 1 (lowK 1 (m_low (m_polar_S (m_low P13) (tpR S b)))) := by
                  have eo : m_s18_O S a b = some (m_low (m_polar_S (m_low P13) (tpR S b))) := by
                    unfold m_s18_O
                    have l0 := @lcmp_0 (m_within_S (tpR S a) (tpR S b)) 0
                    have l1 := @lcmp_lt (m_within_S (tpR S a) (tpR S b)) 0
                    have u0 := @lcmp_0 (m_low (m_polar_S (m_low P13) (tpR S b))).1 (m_low (m_polar_S (m_low P15) (tpR S b))).1
                    have v0 := @lcmp_lt (m_low (m_polar_S (m_low P13) (tpR S b))).1 (m_low (m_polar_S (m_low P15) (tpR S b))).1
                    have u1 := @lcmp_0 (m_low (m_polar_S (m_low P13) (tpR S b))).2.1 (m_low (m_polar_S (m_low P15) (tpR S b))).2.1
                    have v1 := @lcmp_lt (m_low (m_polar_S (m_low P13) (tpR S b))).2.1 (m_low (m_polar_S (m_low P15) (tpR S b))).2.1
                    have u2 := @lcmp_0 (m_low (m_polar_S (m_low P13) (tpR S b))).2.2.1 (m_low (m_polar_S (m_low P15) (tpR S b))).2.2.1
                    have v2 := @lcmp_lt (m_low (m_polar_S (m_low P13) (tpR S b))).2.2.1 (m_low (m_polar_S (m_low P15) (tpR S b))).2.2.1
                    have hb : m_bef (m_side P13 (tpR S b)) (m_side P15 (tpR S b)) := by unfold m_bef m_side; omega
                    exact m_tan_u (by omega) (by omega) eS13 eS15 (by simp [hb])
                  rw [eo]
                  rfl
                rw [ek]
                exact ⟨_, rfl, (Gs.km G_32 k38 (fun q hq => by have hq : q = o + 29 := hq; show q = o + 26 ∨ q = o + 27 ∨ q = o + 28 ∨ q = o + 29; omega)).mono (by omega), e38, m38⟩
          · skip
            refine g_iload rfl rfl ?_
            refine g_goto rfl ?_
            refine g_istore (l1 := [(4, aI (lcmp ((m_low (m_polar_S (m_low P13) (tpR S b))).1) ((m_low (m_polar_S (m_low P15) (tpR S b))).1))), (3, aI 1), (0, aO (some o)), (1, aI 18), (2, aI a)]) rfl rfl ?_
            refine g_iload rfl rfl ?_
            refine g_if_eq rfl (fun c350 => ?_) (fun c350 => ?_)
            · skip
              refine g_aload_n rfl rfl ?_
              refine g_aload_n rfl rfl ?_
              refine g_getR rfl ms.1 (mr_got ms) ?_
              refine g_iconst rfl ?_
              refine g_iald (i := 2) rfl (mt_got ms) (by omega) (by omega) ?_
              refine g_top (v2 := aI ((v25 : Int))) (congrArg aI (by exact (g29.sa (show SLa o ((o + 29)) by unfold SLa; omega) (g27.sa (show SLa o ((o + 29)) by unfold SLa; omega) (show ¬(o + 29 = o + 26) by omega) s25)).2.2.1)) ?_
              refine g_aload_n rfl rfl ?_
              refine g_getR rfl ms.1 (mr_three ms) ?_
              refine g_iconst rfl ?_
              refine g_iald (i := 2) rfl (mt_three ms) (by omega) (by omega) ?_
              refine g_top (v2 := aI ((v27 : Int))) (congrArg aI (by exact (g29.sa (show SLa o ((o + 26)) by unfold SLa; omega) s27).2.2.1)) ?_
              refine g_callVI [aI ((v25 : Int)), aI ((v27 : Int))] [] rfl rfl rfl rfl (Nat.le_of_ble_eq_true rfl) ms.1 (r_cmp (by omega) ms V29 (by have := G_30.2.2.1; omega) (g29.rb (g27.rb xv25)) (g29.rb xv27) (273) (by omega) (by omega) (by omega)) ?_
              rintro _ _ ⟨rfl, V39, rfl, g39⟩
              have G_40 := G_30.trans (g39.gs _)
              refine g_istore (l1 := [(4, aI (lcmp ((m_low (m_polar_S (m_low P13) (tpR S b))).2.2.1) ((m_low (m_polar_S (m_low P15) (tpR S b))).2.2.1))), (3, aI 1), (0, aO (some o)), (1, aI 18), (2, aI a)]) rfl rfl ?_
              refine g_aload_n rfl rfl ?_
              refine g_iload_n rfl rfl ?_
              refine g_if_eq_f rfl (by omega) ?_
              refine g_iload rfl rfl ?_
              refine g_if_ge rfl (fun c383 => ?_) (fun c383 => ?_)
              · skip
                refine g_iconst rfl ?_
                refine g_iload_n rfl rfl ?_
                refine g_bipush rfl ?_
                refine g_icmp_ne_f rfl (by omega) ?_
                refine g_iconst rfl ?_
                refine g_goto rfl ?_
                refine g_icmp_ne_t rfl (by omega) ?_
                refine g_aload_n rfl rfl ?_
                refine g_getR rfl ms.1 (mr_three ms) ?_
                refine g_iconst rfl ?_
                refine g_callVI [aO (some (o + 26)), aI 1] [] rfl rfl rfl rfl (Nat.le_of_ble_eq_true rfl) ms.1 (m_keepT1 (by omega) ms V39 ok (g39.mt (g29.mt (g27.mt (show ¬((o + 4) = o + 26) by omega) (show ¬((o + 5) = o + 26) by omega) (g25.mt (show ¬((o + 4) = o + 29) by omega) (show ¬((o + 5) = o + 29) by omega) (g23.mt (show ¬((o + 4) = o + 26) by omega) (show ¬((o + 5) = o + 26) by omega) (g21.mt (show ¬((o + 4) = o + 29) by omega) (show ¬((o + 5) = o + 29) by omega) (g19.mt (show ¬((o + 4) = o + 28) by omega) (show ¬((o + 5) = o + 28) by omega) (g17.mt (show ¬((o + 4) = o + 27) by omega) (show ¬((o + 5) = o + 27) by omega) (g15.mt (show ¬((o + 4) = o + 28) by omega) (show ¬((o + 5) = o + 28) by omega) (g13.mt (show ¬((o + 4) = o + 27) by omega) (show ¬((o + 5) = o + 27) by omega) (g9.mt (g7.mt (show ¬((o + 4) = o + 26) by omega) (show ¬((o + 5) = o + 26) by omega) (g3.mt mt))))))))))))) (by have := G_40.2.2.1; omega) ((o + 26)) (show SLa o ((o + 26)) by unfold SLa; omega) (show SB V39 o (o + 26) (m_low (m_polar_S (m_low P15) (tpR S b))) (272) from ⟨_, _, _, _, (g39.sa (show SLa o ((o + 26)) by unfold SLa; omega) (g29.sa (show SLa o ((o + 26)) by unfold SLa; omega) s27)), ((g39.rb (g29.rb xt27)).up (by omega)), ((g39.rb (g29.rb xu27)).up (by omega)), ((g39.rb (g29.rb xv27)).up (by omega)), ((g39.rb (g29.rb xy27)).up (by omega))⟩) (by omega)) ?_
                rintro r41 _ ⟨V41, rfl, k41, e41, m41⟩
                refine g_iret rfl ?_
                have ek : keepM S 1 (m_s18_O S a b) = keepT S 1 (lowK 1 (m_low (m_polar_S (m_low P15) (tpR S b)))) := by
                  have eo : m_s18_O S a b = some (m_low (m_polar_S (m_low P15) (tpR S b))) := by
                    unfold m_s18_O
                    have l0 := @lcmp_0 (m_within_S (tpR S a) (tpR S b)) 0
                    have l1 := @lcmp_lt (m_within_S (tpR S a) (tpR S b)) 0
                    have u0 := @lcmp_0 (m_low (m_polar_S (m_low P13) (tpR S b))).1 (m_low (m_polar_S (m_low P15) (tpR S b))).1
                    have v0 := @lcmp_lt (m_low (m_polar_S (m_low P13) (tpR S b))).1 (m_low (m_polar_S (m_low P15) (tpR S b))).1
                    have u1 := @lcmp_0 (m_low (m_polar_S (m_low P13) (tpR S b))).2.1 (m_low (m_polar_S (m_low P15) (tpR S b))).2.1
                    have v1 := @lcmp_lt (m_low (m_polar_S (m_low P13) (tpR S b))).2.1 (m_low (m_polar_S (m_low P15) (tpR S b))).2.1
                    have u2 := @lcmp_0 (m_low (m_polar_S (m_low P13) (tpR S b))).2.2.1 (m_low (m_polar_S (m_low P15) (tpR S b))).2.2.1
                    have v2 := @lcmp_lt (m_low (m_polar_S (m_low P13) (tpR S b))).2.2.1 (m_low (m_polar_S (m_low P15) (tpR S b))).2.2.1
                    have hb : ¬ m_bef (m_side P13 (tpR S b)) (m_side P15 (tpR S b)) := by unfold m_bef m_side; omega
                    exact m_tan_w (by omega) (by omega) eS13 eS15 (by simp [hb])
                  rw [eo]
                  rfl
                rw [ek]
                exact ⟨_, rfl, (Gs.km G_40 k41 (fun q hq => by have hq : q = o + 26 := hq; show q = o + 26 ∨ q = o + 27 ∨ q = o + 28 ∨ q = o + 29; omega)).mono (by omega), e41, m41⟩
              · skip
                refine g_iconst rfl ?_
                refine g_goto rfl ?_
                refine g_iload_n rfl rfl ?_
                refine g_bipush rfl ?_
                refine g_icmp_ne_f rfl (by omega) ?_
                refine g_iconst rfl ?_
                refine g_goto rfl ?_
                refine g_icmp_ne_f rfl (by omega) ?_
                refine g_aload_n rfl rfl ?_
                refine g_getR rfl ms.1 (mr_got ms) ?_
                refine g_goto rfl ?_
                refine g_iconst rfl ?_
                refine g_callVI [aO (some (o + 29)), aI 1] [] rfl rfl rfl rfl (Nat.le_of_ble_eq_true rfl) ms.1 (m_keepT1 (by omega) ms V39 ok (g39.mt (g29.mt (g27.mt (show ¬((o + 4) = o + 26) by omega) (show ¬((o + 5) = o + 26) by omega) (g25.mt (show ¬((o + 4) = o + 29) by omega) (show ¬((o + 5) = o + 29) by omega) (g23.mt (show ¬((o + 4) = o + 26) by omega) (show ¬((o + 5) = o + 26) by omega) (g21.mt (show ¬((o + 4) = o + 29) by omega) (show ¬((o + 5) = o + 29) by omega) (g19.mt (show ¬((o + 4) = o + 28) by omega) (show ¬((o + 5) = o + 28) by omega) (g17.mt (show ¬((o + 4) = o + 27) by omega) (show ¬((o + 5) = o + 27) by omega) (g15.mt (show ¬((o + 4) = o + 28) by omega) (show ¬((o + 5) = o + 28) by omega) (g13.mt (show ¬((o + 4) = o + 27) by omega) (show ¬((o + 5) = o + 27) by omega) (g9.mt (g7.mt (show ¬((o + 4) = o + 26) by omega) (show ¬((o + 5) = o + 26) by omega) (g3.mt mt))))))))))))) (by have := G_40.2.2.1; omega) ((o + 29)) (show SLa o ((o + 29)) by unfold SLa; omega) (show SB V39 o (o + 29) (m_low (m_polar_S (m_low P13) (tpR S b))) (272) from ⟨_, _, _, _, (g39.sa (show SLa o ((o + 29)) by unfold SLa; omega) (g29.sa (show SLa o ((o + 29)) by unfold SLa; omega) (g27.sa (show SLa o ((o + 29)) by unfold SLa; omega) (show ¬(o + 29 = o + 26) by omega) s25))), ((g39.rb (g29.rb (g27.rb xt25))).up (by omega)), ((g39.rb (g29.rb (g27.rb xu25))).up (by omega)), ((g39.rb (g29.rb (g27.rb xv25))).up (by omega)), ((g39.rb (g29.rb (g27.rb xy25))).up (by omega))⟩) (by omega)) ?_
                rintro r42 _ ⟨V42, rfl, k42, e42, m42⟩
                refine g_iret rfl ?_
                have ek : keepM S 1 (m_s18_O S a b) = keepT S 1 (lowK 1 (m_low (m_polar_S (m_low P13) (tpR S b)))) := by
                  have eo : m_s18_O S a b = some (m_low (m_polar_S (m_low P13) (tpR S b))) := by
                    unfold m_s18_O
                    have l0 := @lcmp_0 (m_within_S (tpR S a) (tpR S b)) 0
                    have l1 := @lcmp_lt (m_within_S (tpR S a) (tpR S b)) 0
                    have u0 := @lcmp_0 (m_low (m_polar_S (m_low P13) (tpR S b))).1 (m_low (m_polar_S (m_low P15) (tpR S b))).1
                    have v0 := @lcmp_lt (m_low (m_polar_S (m_low P13) (tpR S b))).1 (m_low (m_polar_S (m_low P15) (tpR S b))).1
                    have u1 := @lcmp_0 (m_low (m_polar_S (m_low P13) (tpR S b))).2.1 (m_low (m_polar_S (m_low P15) (tpR S b))).2.1
                    have v1 := @lcmp_lt (m_low (m_polar_S (m_low P13) (tpR S b))).2.1 (m_low (m_polar_S (m_low P15) (tpR S b))).2.1
                    have u2 := @lcmp_0 (m_low (m_polar_S (m_low P13) (tpR S b))).2.2.1 (m_low (m_polar_S (m_low P15) (tpR S b))).2.2.1
                    have v2 := @lcmp_lt (m_low (m_polar_S (m_low P13) (tpR S b))).2.2.1 (m_low (m_polar_S (m_low P15) (tpR S b))).2.2.1
                    have hb : m_bef (m_side P13 (tpR S b)) (m_side P15 (tpR S b)) := by unfold m_bef m_side; omega
                    exact m_tan_u (by omega) (by omega) eS13 eS15 (by simp [hb])
                  rw [eo]
                  rfl
                rw [ek]
                exact ⟨_, rfl, (Gs.km G_40 k42 (fun q hq => by have hq : q = o + 29 := hq; show q = o + 26 ∨ q = o + 27 ∨ q = o + 28 ∨ q = o + 29; omega)).mono (by omega), e42, m42⟩
            · skip
              refine g_iload rfl rfl ?_
              refine g_goto rfl ?_
              refine g_istore (l1 := [(4, aI (lcmp ((m_low (m_polar_S (m_low P13) (tpR S b))).1) ((m_low (m_polar_S (m_low P15) (tpR S b))).1))), (3, aI 1), (0, aO (some o)), (1, aI 18), (2, aI a)]) rfl rfl ?_
              refine g_aload_n rfl rfl ?_
              refine g_iload_n rfl rfl ?_
              refine g_if_eq_f rfl (by omega) ?_
              refine g_iload rfl rfl ?_
              refine g_if_ge rfl (fun c383 => ?_) (fun c383 => ?_)
              · skip
                refine g_iconst rfl ?_
                refine g_iload_n rfl rfl ?_
                refine g_bipush rfl ?_
                refine g_icmp_ne_f rfl (by omega) ?_
                refine g_iconst rfl ?_
                refine g_goto rfl ?_
                refine g_icmp_ne_t rfl (by omega) ?_
                refine g_aload_n rfl rfl ?_
                refine g_getR rfl ms.1 (mr_three ms) ?_
                refine g_iconst rfl ?_
                refine g_callVI [aO (some (o + 26)), aI 1] [] rfl rfl rfl rfl (Nat.le_of_ble_eq_true rfl) ms.1 (m_keepT1 (by omega) ms V29 ok (g29.mt (g27.mt (show ¬((o + 4) = o + 26) by omega) (show ¬((o + 5) = o + 26) by omega) (g25.mt (show ¬((o + 4) = o + 29) by omega) (show ¬((o + 5) = o + 29) by omega) (g23.mt (show ¬((o + 4) = o + 26) by omega) (show ¬((o + 5) = o + 26) by omega) (g21.mt (show ¬((o + 4) = o + 29) by omega) (show ¬((o + 5) = o + 29) by omega) (g19.mt (show ¬((o + 4) = o + 28) by omega) (show ¬((o + 5) = o + 28) by omega) (g17.mt (show ¬((o + 4) = o + 27) by omega) (show ¬((o + 5) = o + 27) by omega) (g15.mt (show ¬((o + 4) = o + 28) by omega) (show ¬((o + 5) = o + 28) by omega) (g13.mt (show ¬((o + 4) = o + 27) by omega) (show ¬((o + 5) = o + 27) by omega) (g9.mt (g7.mt (show ¬((o + 4) = o + 26) by omega) (show ¬((o + 5) = o + 26) by omega) (g3.mt mt)))))))))))) (by have := G_30.2.2.1; omega) ((o + 26)) (show SLa o ((o + 26)) by unfold SLa; omega) (show SB V29 o (o + 26) (m_low (m_polar_S (m_low P15) (tpR S b))) (272) from ⟨_, _, _, _, (g29.sa (show SLa o ((o + 26)) by unfold SLa; omega) s27), ((g29.rb xt27).up (by omega)), ((g29.rb xu27).up (by omega)), ((g29.rb xv27).up (by omega)), ((g29.rb xy27).up (by omega))⟩) (by omega)) ?_
                rintro r43 _ ⟨V43, rfl, k43, e43, m43⟩
                refine g_iret rfl ?_
                have ek : keepM S 1 (m_s18_O S a b) = keepT S 1 (lowK 1 (m_low (m_polar_S (m_low P15) (tpR S b)))) := by
                  have eo : m_s18_O S a b = some (m_low (m_polar_S (m_low P15) (tpR S b))) := by
                    unfold m_s18_O
                    have l0 := @lcmp_0 (m_within_S (tpR S a) (tpR S b)) 0
                    have l1 := @lcmp_lt (m_within_S (tpR S a) (tpR S b)) 0
                    have u0 := @lcmp_0 (m_low (m_polar_S (m_low P13) (tpR S b))).1 (m_low (m_polar_S (m_low P15) (tpR S b))).1
                    have v0 := @lcmp_lt (m_low (m_polar_S (m_low P13) (tpR S b))).1 (m_low (m_polar_S (m_low P15) (tpR S b))).1
                    have u1 := @lcmp_0 (m_low (m_polar_S (m_low P13) (tpR S b))).2.1 (m_low (m_polar_S (m_low P15) (tpR S b))).2.1
                    have v1 := @lcmp_lt (m_low (m_polar_S (m_low P13) (tpR S b))).2.1 (m_low (m_polar_S (m_low P15) (tpR S b))).2.1
                    have u2 := @lcmp_0 (m_low (m_polar_S (m_low P13) (tpR S b))).2.2.1 (m_low (m_polar_S (m_low P15) (tpR S b))).2.2.1
                    have v2 := @lcmp_lt (m_low (m_polar_S (m_low P13) (tpR S b))).2.2.1 (m_low (m_polar_S (m_low P15) (tpR S b))).2.2.1
                    have hb : ¬ m_bef (m_side P13 (tpR S b)) (m_side P15 (tpR S b)) := by unfold m_bef m_side; omega
                    exact m_tan_w (by omega) (by omega) eS13 eS15 (by simp [hb])
                  rw [eo]
                  rfl
                rw [ek]
                exact ⟨_, rfl, (Gs.km G_30 k43 (fun q hq => by have hq : q = o + 26 := hq; show q = o + 26 ∨ q = o + 27 ∨ q = o + 28 ∨ q = o + 29; omega)).mono (by omega), e43, m43⟩
              · skip
                refine g_iconst rfl ?_
                refine g_goto rfl ?_
                refine g_iload_n rfl rfl ?_
                refine g_bipush rfl ?_
                refine g_icmp_ne_f rfl (by omega) ?_
                refine g_iconst rfl ?_
                refine g_goto rfl ?_
                refine g_icmp_ne_f rfl (by omega) ?_
                refine g_aload_n rfl rfl ?_
                refine g_getR rfl ms.1 (mr_got ms) ?_
                refine g_goto rfl ?_
                refine g_iconst rfl ?_
                refine g_callVI [aO (some (o + 29)), aI 1] [] rfl rfl rfl rfl (Nat.le_of_ble_eq_true rfl) ms.1 (m_keepT1 (by omega) ms V29 ok (g29.mt (g27.mt (show ¬((o + 4) = o + 26) by omega) (show ¬((o + 5) = o + 26) by omega) (g25.mt (show ¬((o + 4) = o + 29) by omega) (show ¬((o + 5) = o + 29) by omega) (g23.mt (show ¬((o + 4) = o + 26) by omega) (show ¬((o + 5) = o + 26) by omega) (g21.mt (show ¬((o + 4) = o + 29) by omega) (show ¬((o + 5) = o + 29) by omega) (g19.mt (show ¬((o + 4) = o + 28) by omega) (show ¬((o + 5) = o + 28) by omega) (g17.mt (show ¬((o + 4) = o + 27) by omega) (show ¬((o + 5) = o + 27) by omega) (g15.mt (show ¬((o + 4) = o + 28) by omega) (show ¬((o + 5) = o + 28) by omega) (g13.mt (show ¬((o + 4) = o + 27) by omega) (show ¬((o + 5) = o + 27) by omega) (g9.mt (g7.mt (show ¬((o + 4) = o + 26) by omega) (show ¬((o + 5) = o + 26) by omega) (g3.mt mt)))))))))))) (by have := G_30.2.2.1; omega) ((o + 29)) (show SLa o ((o + 29)) by unfold SLa; omega) (show SB V29 o (o + 29) (m_low (m_polar_S (m_low P13) (tpR S b))) (272) from ⟨_, _, _, _, (g29.sa (show SLa o ((o + 29)) by unfold SLa; omega) (g27.sa (show SLa o ((o + 29)) by unfold SLa; omega) (show ¬(o + 29 = o + 26) by omega) s25)), ((g29.rb (g27.rb xt25)).up (by omega)), ((g29.rb (g27.rb xu25)).up (by omega)), ((g29.rb (g27.rb xv25)).up (by omega)), ((g29.rb (g27.rb xy25)).up (by omega))⟩) (by omega)) ?_
                rintro r44 _ ⟨V44, rfl, k44, e44, m44⟩
                refine g_iret rfl ?_
                have ek : keepM S 1 (m_s18_O S a b) = keepT S 1 (lowK 1 (m_low (m_polar_S (m_low P13) (tpR S b)))) := by
                  have eo : m_s18_O S a b = some (m_low (m_polar_S (m_low P13) (tpR S b))) := by
                    unfold m_s18_O
                    have l0 := @lcmp_0 (m_within_S (tpR S a) (tpR S b)) 0
                    have l1 := @lcmp_lt (m_within_S (tpR S a) (tpR S b)) 0
                    have u0 := @lcmp_0 (m_low (m_polar_S (m_low P13) (tpR S b))).1 (m_low (m_polar_S (m_low P15) (tpR S b))).1
                    have v0 := @lcmp_lt (m_low (m_polar_S (m_low P13) (tpR S b))).1 (m_low (m_polar_S (m_low P15) (tpR S b))).1
                    have u1 := @lcmp_0 (m_low (m_polar_S (m_low P13) (tpR S b))).2.1 (m_low (m_polar_S (m_low P15) (tpR S b))).2.1
                    have v1 := @lcmp_lt (m_low (m_polar_S (m_low P13) (tpR S b))).2.1 (m_low (m_polar_S (m_low P15) (tpR S b))).2.1
                    have u2 := @lcmp_0 (m_low (m_polar_S (m_low P13) (tpR S b))).2.2.1 (m_low (m_polar_S (m_low P15) (tpR S b))).2.2.1
                    have v2 := @lcmp_lt (m_low (m_polar_S (m_low P13) (tpR S b))).2.2.1 (m_low (m_polar_S (m_low P15) (tpR S b))).2.2.1
                    have hb : m_bef (m_side P13 (tpR S b)) (m_side P15 (tpR S b)) := by unfold m_bef m_side; omega
                    exact m_tan_u (by omega) (by omega) eS13 eS15 (by simp [hb])
                  rw [eo]
                  rfl
                rw [ek]
                exact ⟨_, rfl, (Gs.km G_30 k44 (fun q hq => by have hq : q = o + 29 := hq; show q = o + 26 ∨ q = o + 27 ∨ q = o + 28 ∨ q = o + 29; omega)).mono (by omega), e44, m44⟩
      · skip
        refine g_aload_n rfl rfl ?_
        refine g_aload_n rfl rfl ?_
        refine g_getR rfl ms.1 (mr_three ms) ?_
        refine g_iconst rfl ?_
        refine g_callVI [aO (some (o + 26)), aI 1] [] rfl rfl rfl rfl (Nat.le_of_ble_eq_true rfl) ms.1 (m_keepT1 (by omega) ms V9 ok (g9.mt (g7.mt (show ¬((o + 4) = o + 26) by omega) (show ¬((o + 5) = o + 26) by omega) (g3.mt mt))) (by have := G_10.2.2.1; omega) ((o + 26)) (show SLa o ((o + 26)) by unfold SLa; omega) (show SB V9 o (o + 26) (m_polar_S (tpR S a) (tpR S b)) (42) from ⟨_, _, _, _, (g9.sa (show SLa o ((o + 26)) by unfold SLa; omega) s7), ((g9.rb xt7).up (by omega)), ((g9.rb xu7).up (by omega)), ((g9.rb xv7).up (by omega)), ((g9.rb xy7).up (by omega))⟩) (by omega)) ?_
        rintro r45 _ ⟨V45, rfl, k45, e45, m45⟩
        refine g_iret rfl ?_
        have ek : keepM S 1 (m_s18_O S a b) = keepT S 1 (lowK 1 (m_polar_S (tpR S a) (tpR S b))) := by
          have eo : m_s18_O S a b = some (m_polar_S (tpR S a) (tpR S b)) := by
            unfold m_s18_O
            have l0 := @lcmp_0 (m_within_S (tpR S a) (tpR S b)) 0
            have l1 := @lcmp_lt (m_within_S (tpR S a) (tpR S b)) 0
            exact m_tan_on (by omega) (by omega)
          rw [eo]
          rfl
        rw [ek]
        exact ⟨_, rfl, (Gs.km G_10 k45 (fun q hq => by have hq : q = o + 26 := hq; show q = o + 26 ∨ q = o + 27 ∨ q = o + 28 ∨ q = o + 29; omega)).mono (by omega), e45, m45⟩
    · skip
      refine g_bipush rfl ?_
      refine g_iret rfl ?_
      have ek : keepM S 1 (m_s18_O S a b) = (-3, S) := by
        have eo : m_s18_O S a b = none := by
          unfold m_s18_O
          have l0 := @lcmp_0 (m_within_S (tpR S a) (tpR S b)) 0
          have l1 := @lcmp_lt (m_within_S (tpR S a) (tpR S b)) 0
          first
            | exact m_tan_no (by omega)
            | exact m_tan_no2 (by omega) (by omega) 
        rw [eo]
        rfl
      rw [ek]
      exact ⟨V3, rfl, KM.of (G_4.mono (by omega)), rfl, (g3.mt mt)⟩
noncomputable def m_s19_O (S : aS) (a b : Int) : Option T4 := m_tan_O S false a (tpR S a) (tpR S b)
set_option maxRecDepth 100000 in
set_option maxHeartbeats 4000000 in
theorem m_meeting19 {w : aW} {d : Nat} (hd : 9 ≤ d) {h : aH} {o : Nat} (ms : MS h o) (V : Nat → Nat → Int) {S : aS} (ok : OkT S) (mt : MT V o S) (hF : 0 ≤ V o 1 ∧ V o 1 + 266 ≤ 700) (b : Int) (a : Int) (ha : 0 ≤ a ∧ a < sT S) (tP : SB V o (o + 24) (tpR S a) (20)) (tQ : SB V o (o + 25) (tpR S b) (20))  : WP w d 311 [aO (some o), aI 19, aI a] (hw h V) (RI (fun r h1 => ∃ V1, h1 = hw h V1 ∧ KM V V1 o 266 (fun q => q = o + 26 ∨ q = o + 27 ∨ q = o + 28 ∨ q = o + 29) ∧ r = (keepM S 1 (m_s19_O S a b)).1 ∧ MT V1 o (keepM S 1 (m_s19_O S a b)).2)) := by
  obtain ⟨d, rfl⟩ : ∃ d1, d = d1 + 1 := ⟨d - 1, by omega⟩
  refine WP.enter (cd := cd_X12_meeting) rfl ?_
  have G0 := Gs.refl V o (fun q => q = o + 26 ∨ q = o + 27 ∨ q = o + 28 ∨ q = o + 29)
  obtain ⟨Pp, Pq, Pr, Ps, sP, xPp, xPq, xPr, xPs⟩ := tP
  obtain ⟨Qp, Qq, Qr, Qs, sQ, xQp, xQq, xQr, xQs⟩ := tQ
  have hn := ok.1
  have hls : largs 0 [aO (some o), aI 19, aI a] = [(0, aO (some o)), (1, aI 19), (2, aI a)] := rfl
  rw [hls]
  clear hls
  refine g_iload_n rfl rfl ?_
  refine g_bipush rfl ?_
  refine g_icmp_ge_t rfl (by omega) ?_
  refine g_iload_n rfl rfl ?_
  refine g_bipush rfl ?_
  refine g_icmp_ge_t rfl (by omega) ?_
  refine g_aload_n rfl rfl ?_
  refine g_iload_n rfl rfl ?_
  refine g_callVI [aI a] [] rfl rfl rfl rfl (Nat.le_of_ble_eq_true rfl) ms.1 (m_isFar (by omega) ms V ok mt a ha) ?_
  rintro r1 _ ⟨rfl, e2⟩
  rw [e2]
  clear e2 r1
  refine g_b_ne rfl (fun c123 => ?_) (fun c123 => ?_)
  · skip
    refine g_bipush rfl ?_
    refine g_iret rfl ?_
    have ek : keepM S 1 (m_s19_O S a b) = (-3, S) := by
      have eo : m_s19_O S a b = none := by
        unfold m_s19_O
        have l0 := @lcmp_0 (m_within_S (tpR S a) (tpR S b)) 0
        have l1 := @lcmp_lt (m_within_S (tpR S a) (tpR S b)) 0
        first
          | exact m_tan_no (by omega)
          | exact m_tan_no2 (by omega) (by omega) 
      rw [eo]
      rfl
    rw [ek]
    exact ⟨V, rfl, KM.of (G0.mono (by omega)), rfl, mt⟩
  · skip
    refine g_aload_n rfl rfl ?_
    refine g_aload_n rfl rfl ?_
    refine g_aload_n rfl rfl ?_
    refine g_getR rfl ms.1 (mr_one ms) ?_
    refine g_aload_n rfl rfl ?_
    refine g_getR rfl ms.1 (mr_two ms) ?_
    refine g_callVI [aO (some (o + 24)), aO (some (o + 25))] [aO (some o)] rfl rfl rfl rfl (Nat.le_of_ble_eq_true rfl) ms.1 (m_within (by omega) ms V (by have := G0.2.2.1; omega) ((o + 24)) (show SLa o ((o + 24)) by unfold SLa; omega) (show SB V o (o + 24) (tpR S a) (20) from ⟨_, _, _, _, sP, (xPp.up (by omega)), (xPq.up (by omega)), (xPr.up (by omega)), (xPs.up (by omega))⟩) ((o + 25)) (show SLa o ((o + 25)) by unfold SLa; omega) (show SB V o (o + 25) (tpR S b) (180) from ⟨_, _, _, _, sQ, (xQp.up (by omega)), (xQq.up (by omega)), (xQr.up (by omega)), (xQs.up (by omega))⟩)) ?_
    rintro _ _ ⟨p3, rfl, V3, rfl, g3, xp3⟩
    have G_4 := G0.trans (g3.gs _)
    refine g_callVI [aI ((p3 : Int))] [] rfl rfl rfl rfl (Nat.le_of_ble_eq_true rfl) ms.1 (r_sign (by omega) ms V3 xp3) ?_
    rintro r5 _ ⟨rfl, e6⟩
    rw [e6]
    clear e6 r5
    refine g_if_ge rfl (fun c142 => ?_) (fun c142 => ?_)
    · skip
      refine g_aload_n rfl rfl ?_
      refine g_aload_n rfl rfl ?_
      refine g_getR rfl ms.1 (mr_one ms) ?_
      refine g_aload_n rfl rfl ?_
      refine g_getR rfl ms.1 (mr_two ms) ?_
      refine g_aload_n rfl rfl ?_
      refine g_getR rfl ms.1 (mr_three ms) ?_
      refine g_callVN [aO (some (o + 24)), aO (some (o + 25)), aO (some (o + 26))] [] rfl rfl rfl rfl (Nat.le_of_ble_eq_true rfl) ms.1 (m_polar (by omega) ms V3 (by have := G_4.2.2.1; omega) ((o + 24)) (show SLa o ((o + 24)) by unfold SLa; omega) (show SB V3 o (o + 24) (tpR S a) (20) from ⟨_, _, _, _, (g3.sa (show SLa o ((o + 24)) by unfold SLa; omega) sP), ((g3.rb xPp).up (by omega)), ((g3.rb xPq).up (by omega)), ((g3.rb xPr).up (by omega)), ((g3.rb xPs).up (by omega))⟩) ((o + 25)) (show SLa o ((o + 25)) by unfold SLa; omega) (show SB V3 o (o + 25) (tpR S b) (20) from ⟨_, _, _, _, (g3.sa (show SLa o ((o + 25)) by unfold SLa; omega) sQ), ((g3.rb xQp).up (by omega)), ((g3.rb xQq).up (by omega)), ((g3.rb xQr).up (by omega)), ((g3.rb xQs).up (by omega))⟩) ((o + 26)) (show SLa o ((o + 26)) by unfold SLa; omega) (by omega)) ?_
      rintro _ ⟨V7, rfl, g7, t7, u7, v7, y7, s7, xt7, xu7, xv7, xy7⟩
      have G_8 := G_4.trans (g7.wide (fun q hq => by have hq : q = o + 26 := hq; show q = o + 26 ∨ q = o + 27 ∨ q = o + 28 ∨ q = o + 29; omega))
      refine g_aload_n rfl rfl ?_
      refine g_aload_n rfl rfl ?_
      refine g_aload_n rfl rfl ?_
      refine g_getR rfl ms.1 (mr_one ms) ?_
      refine g_aload_n rfl rfl ?_
      refine g_getR rfl ms.1 (mr_two ms) ?_
      refine g_callVI [aO (some (o + 24)), aO (some (o + 25))] [aO (some o)] rfl rfl rfl rfl (Nat.le_of_ble_eq_true rfl) ms.1 (m_within (by omega) ms V7 (by have := G_8.2.2.1; omega) ((o + 24)) (show SLa o ((o + 24)) by unfold SLa; omega) (show SB V7 o (o + 24) (tpR S a) (20) from ⟨_, _, _, _, (g7.sa (show SLa o ((o + 24)) by unfold SLa; omega) (show ¬(o + 24 = o + 26) by omega) (g3.sa (show SLa o ((o + 24)) by unfold SLa; omega) sP)), ((g7.rb (g3.rb xPp)).up (by omega)), ((g7.rb (g3.rb xPq)).up (by omega)), ((g7.rb (g3.rb xPr)).up (by omega)), ((g7.rb (g3.rb xPs)).up (by omega))⟩) ((o + 25)) (show SLa o ((o + 25)) by unfold SLa; omega) (show SB V7 o (o + 25) (tpR S b) (180) from ⟨_, _, _, _, (g7.sa (show SLa o ((o + 25)) by unfold SLa; omega) (show ¬(o + 25 = o + 26) by omega) (g3.sa (show SLa o ((o + 25)) by unfold SLa; omega) sQ)), ((g7.rb (g3.rb xQp)).up (by omega)), ((g7.rb (g3.rb xQq)).up (by omega)), ((g7.rb (g3.rb xQr)).up (by omega)), ((g7.rb (g3.rb xQs)).up (by omega))⟩)) ?_
      rintro _ _ ⟨p9, rfl, V9, rfl, g9, xp9⟩
      have G_10 := G_8.trans (g9.gs _)
      refine g_callVI [aI ((p9 : Int))] [] rfl rfl rfl rfl (Nat.le_of_ble_eq_true rfl) ms.1 (r_sign (by omega) ms V9 xp9) ?_
      rintro r11 _ ⟨rfl, e12⟩
      rw [e12]
      clear e12 r11
      refine g_if_ne rfl (fun c180 => ?_) (fun c180 => ?_)
      · skip
        refine g_aload_n rfl rfl ?_
        refine g_aload_n rfl rfl ?_
        refine g_getR rfl ms.1 (mr_three ms) ?_
        refine g_aload_n rfl rfl ?_
        refine g_getR rfl ms.1 (mr_two ms) ?_
        refine g_iconst rfl ?_
        refine g_aload_n rfl rfl ?_
        refine g_getR rfl ms.1 (mr_four ms) ?_
        refine g_callVI [aO (some (o + 26)), aO (some (o + 25)), aI 0, aO (some (o + 27))] [] rfl rfl rfl rfl (Nat.le_of_ble_eq_true rfl) ms.1 (m_meet0 (by omega) ms V9 (by have := G_10.2.2.1; omega) ((o + 26)) (show SLa o ((o + 26)) by unfold SLa; omega) (show SB V9 o (o + 26) (m_polar_S (tpR S a) (tpR S b)) (42) from ⟨_, _, _, _, (g9.sa (show SLa o ((o + 26)) by unfold SLa; omega) s7), ((g9.rb xt7).up (by omega)), ((g9.rb xu7).up (by omega)), ((g9.rb xv7).up (by omega)), ((g9.rb xy7).up (by omega))⟩) ((o + 25)) (show SLa o ((o + 25)) by unfold SLa; omega) (show SB V9 o (o + 25) (tpR S b) (20) from ⟨_, _, _, _, (g9.sa (show SLa o ((o + 25)) by unfold SLa; omega) (g7.sa (show SLa o ((o + 25)) by unfold SLa; omega) (show ¬(o + 25 = o + 26) by omega) (g3.sa (show SLa o ((o + 25)) by unfold SLa; omega) sQ))), ((g9.rb (g7.rb (g3.rb xQp))).up (by omega)), ((g9.rb (g7.rb (g3.rb xQq))).up (by omega)), ((g9.rb (g7.rb (g3.rb xQr))).up (by omega)), ((g9.rb (g7.rb (g3.rb xQs))).up (by omega))⟩) ((o + 27)) (show SLa o ((o + 27)) by unfold SLa; omega) (by omega)) ?_
        rintro r13 _ ⟨V13, rfl, g13, q13⟩
        have G_14 := G_10.trans (g13.wide (fun q hq => by have hq : q = o + 27 := hq; show q = o + 26 ∨ q = o + 27 ∨ q = o + 28 ∨ q = o + 29; omega))
        cases eS13 : m_meet_O false (m_polar_S (tpR S a) (tpR S b)) (tpR S b) with
        | none =>
          rw [eS13] at q13
          obtain rfl : r13 = 0 := q13
          refine g_if_ne_f rfl (by omega) ?_
          refine g_bipush rfl ?_
          refine g_iret rfl ?_
          have ek : keepM S 1 (m_s19_O S a b) = (-3, S) := by
            have eo : m_s19_O S a b = none := by
              unfold m_s19_O
              have l0 := @lcmp_0 (m_within_S (tpR S a) (tpR S b)) 0
              have l1 := @lcmp_lt (m_within_S (tpR S a) (tpR S b)) 0
              first
                | exact m_tan_no (by omega)
                | exact m_tan_no2 (by omega) (by omega) eS13
            rw [eo]
            rfl
          rw [ek]
          exact ⟨V13, rfl, KM.of (G_14.mono (by omega)), rfl, (g13.mt (show ¬((o + 4) = o + 27) by omega) (show ¬((o + 5) = o + 27) by omega) (g9.mt (g7.mt (show ¬((o + 4) = o + 26) by omega) (show ¬((o + 5) = o + 26) by omega) (g3.mt mt))))⟩
        | some P13 =>
          rw [eS13] at q13
          obtain ⟨rfl, t13, u13, v13, y13, s13, xt13, xu13, xv13, xy13⟩ := q13
          refine g_if_ne_t rfl (by omega) ?_
          refine g_aload_n rfl rfl ?_
          refine g_aload_n rfl rfl ?_
          refine g_getR rfl ms.1 (mr_three ms) ?_
          refine g_aload_n rfl rfl ?_
          refine g_getR rfl ms.1 (mr_two ms) ?_
          refine g_iconst rfl ?_
          refine g_aload_n rfl rfl ?_
          refine g_getR rfl ms.1 (mr_five ms) ?_
          refine g_callVI [aO (some (o + 26)), aO (some (o + 25)), aI 1, aO (some (o + 28))] [] rfl rfl rfl rfl (Nat.le_of_ble_eq_true rfl) ms.1 (m_meet1 (by omega) ms V13 (by have := G_14.2.2.1; omega) ((o + 26)) (show SLa o ((o + 26)) by unfold SLa; omega) (show SB V13 o (o + 26) (m_polar_S (tpR S a) (tpR S b)) (42) from ⟨_, _, _, _, (g13.sa (show SLa o ((o + 26)) by unfold SLa; omega) (show ¬(o + 26 = o + 27) by omega) (g9.sa (show SLa o ((o + 26)) by unfold SLa; omega) s7)), ((g13.rb (g9.rb xt7)).up (by omega)), ((g13.rb (g9.rb xu7)).up (by omega)), ((g13.rb (g9.rb xv7)).up (by omega)), ((g13.rb (g9.rb xy7)).up (by omega))⟩) ((o + 25)) (show SLa o ((o + 25)) by unfold SLa; omega) (show SB V13 o (o + 25) (tpR S b) (20) from ⟨_, _, _, _, (g13.sa (show SLa o ((o + 25)) by unfold SLa; omega) (show ¬(o + 25 = o + 27) by omega) (g9.sa (show SLa o ((o + 25)) by unfold SLa; omega) (g7.sa (show SLa o ((o + 25)) by unfold SLa; omega) (show ¬(o + 25 = o + 26) by omega) (g3.sa (show SLa o ((o + 25)) by unfold SLa; omega) sQ)))), ((g13.rb (g9.rb (g7.rb (g3.rb xQp)))).up (by omega)), ((g13.rb (g9.rb (g7.rb (g3.rb xQq)))).up (by omega)), ((g13.rb (g9.rb (g7.rb (g3.rb xQr)))).up (by omega)), ((g13.rb (g9.rb (g7.rb (g3.rb xQs)))).up (by omega))⟩) ((o + 28)) (show SLa o ((o + 28)) by unfold SLa; omega) (by omega)) ?_
          rintro r15 _ ⟨V15, rfl, g15, q15⟩
          have G_16 := G_14.trans (g15.wide (fun q hq => by have hq : q = o + 28 := hq; show q = o + 26 ∨ q = o + 27 ∨ q = o + 28 ∨ q = o + 29; omega))
          obtain ⟨P15, eS15⟩ : ∃ P, m_meet_O true (m_polar_S (tpR S a) (tpR S b)) (tpR S b) = some P := m_meet_both eS13
          rw [eS15] at q15
          obtain ⟨rfl, t15, u15, v15, y15, s15, xt15, xu15, xv15, xy15⟩ := q15
          refine g_istore_n (l1 := [(3, aI 1), (0, aO (some o)), (1, aI 19), (2, aI a)]) rfl rfl ?_
          refine g_aload_n rfl rfl ?_
          refine g_aload_n rfl rfl ?_
          refine g_getR rfl ms.1 (mr_four ms) ?_
          refine g_iconst rfl ?_
          refine g_callVN [aO (some (o + 27)), aI 0] [] rfl rfl rfl rfl (Nat.le_of_ble_eq_true rfl) ms.1 (m_settle0 (by omega) ms V15 (by have := G_16.2.2.1; omega) ((o + 27)) (show SLa o ((o + 27)) by unfold SLa; omega) (show SB V15 o (o + 27) P13 (250) from ⟨_, _, _, _, (g15.sa (show SLa o ((o + 27)) by unfold SLa; omega) (show ¬(o + 27 = o + 28) by omega) s13), ((g15.rb xt13).up (by omega)), ((g15.rb xu13).up (by omega)), ((g15.rb xv13).up (by omega)), ((g15.rb xy13).up (by omega))⟩) (by omega)) ?_
          rintro _ ⟨V17, rfl, g17, t17, u17, v17, y17, s17, xt17, xu17, xv17, xy17⟩
          have G_18 := G_16.trans (g17.wide (fun q hq => by have hq : q = o + 27 := hq; show q = o + 26 ∨ q = o + 27 ∨ q = o + 28 ∨ q = o + 29; omega))
          refine g_aload_n rfl rfl ?_
          refine g_aload_n rfl rfl ?_
          refine g_getR rfl ms.1 (mr_five ms) ?_
          refine g_iconst rfl ?_
          refine g_callVN [aO (some (o + 28)), aI 0] [] rfl rfl rfl rfl (Nat.le_of_ble_eq_true rfl) ms.1 (m_settle0 (by omega) ms V17 (by have := G_18.2.2.1; omega) ((o + 28)) (show SLa o ((o + 28)) by unfold SLa; omega) (show SB V17 o (o + 28) P15 (250) from ⟨_, _, _, _, (g17.sa (show SLa o ((o + 28)) by unfold SLa; omega) (show ¬(o + 28 = o + 27) by omega) s15), ((g17.rb xt15).up (by omega)), ((g17.rb xu15).up (by omega)), ((g17.rb xv15).up (by omega)), ((g17.rb xy15).up (by omega))⟩) (by omega)) ?_
          rintro _ ⟨V19, rfl, g19, t19, u19, v19, y19, s19, xt19, xu19, xv19, xy19⟩
          have G_20 := G_18.trans (g19.wide (fun q hq => by have hq : q = o + 28 := hq; show q = o + 26 ∨ q = o + 27 ∨ q = o + 28 ∨ q = o + 29; omega))
          refine g_aload_n rfl rfl ?_
          refine g_aload_n rfl rfl ?_
          refine g_getR rfl ms.1 (mr_four ms) ?_
          refine g_aload_n rfl rfl ?_
          refine g_getR rfl ms.1 (mr_two ms) ?_
          refine g_aload_n rfl rfl ?_
          refine g_getR rfl ms.1 (mr_got ms) ?_
          refine g_callVN [aO (some (o + 27)), aO (some (o + 25)), aO (some (o + 29))] [] rfl rfl rfl rfl (Nat.le_of_ble_eq_true rfl) ms.1 (m_polar (by omega) ms V19 (by have := G_20.2.2.1; omega) ((o + 27)) (show SLa o ((o + 27)) by unfold SLa; omega) (show SB V19 o (o + 27) (m_low P13) (250) from ⟨_, _, _, _, (g19.sa (show SLa o ((o + 27)) by unfold SLa; omega) (show ¬(o + 27 = o + 28) by omega) s17), ((g19.rb xt17).up (by omega)), ((g19.rb xu17).up (by omega)), ((g19.rb xv17).up (by omega)), ((g19.rb xy17).up (by omega))⟩) ((o + 25)) (show SLa o ((o + 25)) by unfold SLa; omega) (show SB V19 o (o + 25) (tpR S b) (20) from ⟨_, _, _, _, (g19.sa (show SLa o ((o + 25)) by unfold SLa; omega) (show ¬(o + 25 = o + 28) by omega) (g17.sa (show SLa o ((o + 25)) by unfold SLa; omega) (show ¬(o + 25 = o + 27) by omega) (g15.sa (show SLa o ((o + 25)) by unfold SLa; omega) (show ¬(o + 25 = o + 28) by omega) (g13.sa (show SLa o ((o + 25)) by unfold SLa; omega) (show ¬(o + 25 = o + 27) by omega) (g9.sa (show SLa o ((o + 25)) by unfold SLa; omega) (g7.sa (show SLa o ((o + 25)) by unfold SLa; omega) (show ¬(o + 25 = o + 26) by omega) (g3.sa (show SLa o ((o + 25)) by unfold SLa; omega) sQ))))))), ((g19.rb (g17.rb (g15.rb (g13.rb (g9.rb (g7.rb (g3.rb xQp))))))).up (by omega)), ((g19.rb (g17.rb (g15.rb (g13.rb (g9.rb (g7.rb (g3.rb xQq))))))).up (by omega)), ((g19.rb (g17.rb (g15.rb (g13.rb (g9.rb (g7.rb (g3.rb xQr))))))).up (by omega)), ((g19.rb (g17.rb (g15.rb (g13.rb (g9.rb (g7.rb (g3.rb xQs))))))).up (by omega))⟩) ((o + 29)) (show SLa o ((o + 29)) by unfold SLa; omega) (by omega)) ?_
          rintro _ ⟨V21, rfl, g21, t21, u21, v21, y21, s21, xt21, xu21, xv21, xy21⟩
          have G_22 := G_20.trans (g21.wide (fun q hq => by have hq : q = o + 29 := hq; show q = o + 26 ∨ q = o + 27 ∨ q = o + 28 ∨ q = o + 29; omega))
          refine g_aload_n rfl rfl ?_
          refine g_aload_n rfl rfl ?_
          refine g_getR rfl ms.1 (mr_five ms) ?_
          refine g_aload_n rfl rfl ?_
          refine g_getR rfl ms.1 (mr_two ms) ?_
          refine g_aload_n rfl rfl ?_
          refine g_getR rfl ms.1 (mr_three ms) ?_
          refine g_callVN [aO (some (o + 28)), aO (some (o + 25)), aO (some (o + 26))] [] rfl rfl rfl rfl (Nat.le_of_ble_eq_true rfl) ms.1 (m_polar (by omega) ms V21 (by have := G_22.2.2.1; omega) ((o + 28)) (show SLa o ((o + 28)) by unfold SLa; omega) (show SB V21 o (o + 28) (m_low P15) (250) from ⟨_, _, _, _, (g21.sa (show SLa o ((o + 28)) by unfold SLa; omega) (show ¬(o + 28 = o + 29) by omega) s19), ((g21.rb xt19).up (by omega)), ((g21.rb xu19).up (by omega)), ((g21.rb xv19).up (by omega)), ((g21.rb xy19).up (by omega))⟩) ((o + 25)) (show SLa o ((o + 25)) by unfold SLa; omega) (show SB V21 o (o + 25) (tpR S b) (20) from ⟨_, _, _, _, (g21.sa (show SLa o ((o + 25)) by unfold SLa; omega) (show ¬(o + 25 = o + 29) by omega) (g19.sa (show SLa o ((o + 25)) by unfold SLa; omega) (show ¬(o + 25 = o + 28) by omega) (g17.sa (show SLa o ((o + 25)) by unfold SLa; omega) (show ¬(o + 25 = o + 27) by omega) (g15.sa (show SLa o ((o + 25)) by unfold SLa; omega) (show ¬(o + 25 = o + 28) by omega) (g13.sa (show SLa o ((o + 25)) by unfold SLa; omega) (show ¬(o + 25 = o + 27) by omega) (g9.sa (show SLa o ((o + 25)) by unfold SLa; omega) (g7.sa (show SLa o ((o + 25)) by unfold SLa; omega) (show ¬(o + 25 = o + 26) by omega) (g3.sa (show SLa o ((o + 25)) by unfold SLa; omega) sQ)))))))), ((g21.rb (g19.rb (g17.rb (g15.rb (g13.rb (g9.rb (g7.rb (g3.rb xQp)))))))).up (by omega)), ((g21.rb (g19.rb (g17.rb (g15.rb (g13.rb (g9.rb (g7.rb (g3.rb xQq)))))))).up (by omega)), ((g21.rb (g19.rb (g17.rb (g15.rb (g13.rb (g9.rb (g7.rb (g3.rb xQr)))))))).up (by omega)), ((g21.rb (g19.rb (g17.rb (g15.rb (g13.rb (g9.rb (g7.rb (g3.rb xQs)))))))).up (by omega))⟩) ((o + 26)) (show SLa o ((o + 26)) by unfold SLa; omega) (by omega)) ?_
          rintro _ ⟨V23, rfl, g23, t23, u23, v23, y23, s23, xt23, xu23, xv23, xy23⟩
          have G_24 := G_22.trans (g23.wide (fun q hq => by have hq : q = o + 26 := hq; show q = o + 26 ∨ q = o + 27 ∨ q = o + 28 ∨ q = o + 29; omega))
          refine g_aload_n rfl rfl ?_
          refine g_aload_n rfl rfl ?_
          refine g_getR rfl ms.1 (mr_got ms) ?_
          refine g_iconst rfl ?_
          refine g_callVN [aO (some (o + 29)), aI 1] [] rfl rfl rfl rfl (Nat.le_of_ble_eq_true rfl) ms.1 (m_settle1 (by omega) ms V23 (by have := G_24.2.2.1; omega) ((o + 29)) (show SLa o ((o + 29)) by unfold SLa; omega) (show SB V23 o (o + 29) (m_polar_S (m_low P13) (tpR S b)) (272) from ⟨_, _, _, _, (g23.sa (show SLa o ((o + 29)) by unfold SLa; omega) (show ¬(o + 29 = o + 26) by omega) s21), ((g23.rb xt21).up (by omega)), ((g23.rb xu21).up (by omega)), ((g23.rb xv21).up (by omega)), ((g23.rb xy21).up (by omega))⟩) (by omega)) ?_
          rintro _ ⟨V25, rfl, g25, t25, u25, v25, y25, s25, xt25, xu25, xv25, xy25⟩
          have G_26 := G_24.trans (g25.wide (fun q hq => by have hq : q = o + 29 := hq; show q = o + 26 ∨ q = o + 27 ∨ q = o + 28 ∨ q = o + 29; omega))
          refine g_aload_n rfl rfl ?_
          refine g_aload_n rfl rfl ?_
          refine g_getR rfl ms.1 (mr_three ms) ?_
          refine g_iconst rfl ?_
          refine g_callVN [aO (some (o + 26)), aI 1] [] rfl rfl rfl rfl (Nat.le_of_ble_eq_true rfl) ms.1 (m_settle1 (by omega) ms V25 (by have := G_26.2.2.1; omega) ((o + 26)) (show SLa o ((o + 26)) by unfold SLa; omega) (show SB V25 o (o + 26) (m_polar_S (m_low P15) (tpR S b)) (272) from ⟨_, _, _, _, (g25.sa (show SLa o ((o + 26)) by unfold SLa; omega) (show ¬(o + 26 = o + 29) by omega) s23), ((g25.rb xt23).up (by omega)), ((g25.rb xu23).up (by omega)), ((g25.rb xv23).up (by omega)), ((g25.rb xy23).up (by omega))⟩) (by omega)) ?_
          rintro _ ⟨V27, rfl, g27, t27, u27, v27, y27, s27, xt27, xu27, xv27, xy27⟩
          have G_28 := G_26.trans (g27.wide (fun q hq => by have hq : q = o + 26 := hq; show q = o + 26 ∨ q = o + 27 ∨ q = o + 28 ∨ q = o + 29; omega))
          refine g_aload_n rfl rfl ?_
          refine g_aload_n rfl rfl ?_
          refine g_getR rfl ms.1 (mr_got ms) ?_
          refine g_iconst rfl ?_
          refine g_iald (i := 0) rfl (mt_got ms) (by omega) (by omega) ?_
          refine g_top (v2 := aI ((t25 : Int))) (congrArg aI (by exact (g27.sa (show SLa o ((o + 29)) by unfold SLa; omega) (show ¬(o + 29 = o + 26) by omega) s25).1)) ?_
          refine g_aload_n rfl rfl ?_
          refine g_getR rfl ms.1 (mr_three ms) ?_
          refine g_iconst rfl ?_
          refine g_iald (i := 0) rfl (mt_three ms) (by omega) (by omega) ?_
          refine g_top (v2 := aI ((t27 : Int))) (congrArg aI (by exact s27.1)) ?_
          refine g_callVI [aI ((t25 : Int)), aI ((t27 : Int))] [] rfl rfl rfl rfl (Nat.le_of_ble_eq_true rfl) ms.1 (r_cmp (by omega) ms V27 (by have := G_28.2.2.1; omega) (g27.rb xt25) xt27 (273) (by omega) (by omega) (by omega)) ?_
          rintro _ _ ⟨rfl, V29, rfl, g29⟩
          have G_30 := G_28.trans (g29.gs _)
          refine g_istore (l1 := [(4, aI (lcmp ((m_low (m_polar_S (m_low P13) (tpR S b))).1) ((m_low (m_polar_S (m_low P15) (tpR S b))).1))), (3, aI 1), (0, aO (some o)), (1, aI 19), (2, aI a)]) rfl rfl ?_
          refine g_iload rfl rfl ?_
          refine g_if_eq rfl (fun c322 => ?_) (fun c322 => ?_)
          · skip
            refine g_aload_n rfl rfl ?_
            refine g_aload_n rfl rfl ?_
            refine g_getR rfl ms.1 (mr_got ms) ?_
            refine g_iconst rfl ?_
            refine g_iald (i := 1) rfl (mt_got ms) (by omega) (by omega) ?_
            refine g_top (v2 := aI ((u25 : Int))) (congrArg aI (by exact (g29.sa (show SLa o ((o + 29)) by unfold SLa; omega) (g27.sa (show SLa o ((o + 29)) by unfold SLa; omega) (show ¬(o + 29 = o + 26) by omega) s25)).2.1)) ?_
            refine g_aload_n rfl rfl ?_
            refine g_getR rfl ms.1 (mr_three ms) ?_
            refine g_iconst rfl ?_
            refine g_iald (i := 1) rfl (mt_three ms) (by omega) (by omega) ?_
            refine g_top (v2 := aI ((u27 : Int))) (congrArg aI (by exact (g29.sa (show SLa o ((o + 26)) by unfold SLa; omega) s27).2.1)) ?_
            refine g_callVI [aI ((u25 : Int)), aI ((u27 : Int))] [] rfl rfl rfl rfl (Nat.le_of_ble_eq_true rfl) ms.1 (r_cmp (by omega) ms V29 (by have := G_30.2.2.1; omega) (g29.rb (g27.rb xu25)) (g29.rb xu27) (273) (by omega) (by omega) (by omega)) ?_
            rintro _ _ ⟨rfl, V31, rfl, g31⟩
            have G_32 := G_30.trans (g31.gs _)
            refine g_istore (l1 := [(4, aI (lcmp ((m_low (m_polar_S (m_low P13) (tpR S b))).2.1) ((m_low (m_polar_S (m_low P15) (tpR S b))).2.1))), (3, aI 1), (0, aO (some o)), (1, aI 19), (2, aI a)]) rfl rfl ?_
            refine g_iload rfl rfl ?_
            refine g_if_eq rfl (fun c350 => ?_) (fun c350 => ?_)
            · skip
              refine g_aload_n rfl rfl ?_
              refine g_aload_n rfl rfl ?_
              refine g_getR rfl ms.1 (mr_got ms) ?_
              refine g_iconst rfl ?_
              refine g_iald (i := 2) rfl (mt_got ms) (by omega) (by omega) ?_
              refine g_top (v2 := aI ((v25 : Int))) (congrArg aI (by exact (g31.sa (show SLa o ((o + 29)) by unfold SLa; omega) (g29.sa (show SLa o ((o + 29)) by unfold SLa; omega) (g27.sa (show SLa o ((o + 29)) by unfold SLa; omega) (show ¬(o + 29 = o + 26) by omega) s25))).2.2.1)) ?_
              refine g_aload_n rfl rfl ?_
              refine g_getR rfl ms.1 (mr_three ms) ?_
              refine g_iconst rfl ?_
              refine g_iald (i := 2) rfl (mt_three ms) (by omega) (by omega) ?_
              refine g_top (v2 := aI ((v27 : Int))) (congrArg aI (by exact (g31.sa (show SLa o ((o + 26)) by unfold SLa; omega) (g29.sa (show SLa o ((o + 26)) by unfold SLa; omega) s27)).2.2.1)) ?_
              refine g_callVI [aI ((v25 : Int)), aI ((v27 : Int))] [] rfl rfl rfl rfl (Nat.le_of_ble_eq_true rfl) ms.1 (r_cmp (by omega) ms V31 (by have := G_32.2.2.1; omega) (g31.rb (g29.rb (g27.rb xv25))) (g31.rb (g29.rb xv27)) (273) (by omega) (by omega) (by omega)) ?_
              rintro _ _ ⟨rfl, V33, rfl, g33⟩
              have G_34 := G_32.trans (g33.gs _)
              refine g_istore (l1 := [(4, aI (lcmp ((m_low (m_polar_S (m_low P13) (tpR S b))).2.2.1) ((m_low (m_polar_S (m_low P15) (tpR S b))).2.2.1))), (3, aI 1), (0, aO (some o)), (1, aI 19), (2, aI a)]) rfl rfl ?_
              refine g_aload_n rfl rfl ?_
              refine g_iload_n rfl rfl ?_
              refine g_if_eq_f rfl (by omega) ?_
              refine g_iload rfl rfl ?_
              refine g_if_ge rfl (fun c383 => ?_) (fun c383 => ?_)
              · skip
                refine g_iconst rfl ?_
                refine g_iload_n rfl rfl ?_
                refine g_bipush rfl ?_
                refine g_icmp_ne_t rfl (by omega) ?_
                refine g_iconst rfl ?_
                refine g_icmp_ne_f rfl (by omega) ?_
                refine g_aload_n rfl rfl ?_
                refine g_getR rfl ms.1 (mr_got ms) ?_
                refine g_goto rfl ?_
                refine g_iconst rfl ?_
                refine g_callVI [aO (some (o + 29)), aI 1] [] rfl rfl rfl rfl (Nat.le_of_ble_eq_true rfl) ms.1 (m_keepT1 (by omega) ms V33 ok (g33.mt (g31.mt (g29.mt (g27.mt (show ¬((o + 4) = o + 26) by omega) (show ¬((o + 5) = o + 26) by omega) (g25.mt (show ¬((o + 4) = o + 29) by omega) (show ¬((o + 5) = o + 29) by omega) (g23.mt (show ¬((o + 4) = o + 26) by omega) (show ¬((o + 5) = o + 26) by omega) (g21.mt (show ¬((o + 4) = o + 29) by omega) (show ¬((o + 5) = o + 29) by omega) (g19.mt (show ¬((o + 4) = o + 28) by omega) (show ¬((o + 5) = o + 28) by omega) (g17.mt (show ¬((o + 4) = o + 27) by omega) (show ¬((o + 5) = o + 27) by omega) (g15.mt (show ¬((o + 4) = o + 28) by omega) (show ¬((o + 5) = o + 28) by omega) (g13.mt (show ¬((o + 4) = o + 27) by omega) (show ¬((o + 5) = o + 27) by omega) (g9.mt (g7.mt (show ¬((o + 4) = o + 26) by omega) (show ¬((o + 5) = o + 26) by omega) (g3.mt mt)))))))))))))) (by have := G_34.2.2.1; omega) ((o + 29)) (show SLa o ((o + 29)) by unfold SLa; omega) (show SB V33 o (o + 29) (m_low (m_polar_S (m_low P13) (tpR S b))) (272) from ⟨_, _, _, _, (g33.sa (show SLa o ((o + 29)) by unfold SLa; omega) (g31.sa (show SLa o ((o + 29)) by unfold SLa; omega) (g29.sa (show SLa o ((o + 29)) by unfold SLa; omega) (g27.sa (show SLa o ((o + 29)) by unfold SLa; omega) (show ¬(o + 29 = o + 26) by omega) s25)))), ((g33.rb (g31.rb (g29.rb (g27.rb xt25)))).up (by omega)), ((g33.rb (g31.rb (g29.rb (g27.rb xu25)))).up (by omega)), ((g33.rb (g31.rb (g29.rb (g27.rb xv25)))).up (by omega)), ((g33.rb (g31.rb (g29.rb (g27.rb xy25)))).up (by omega))⟩) (by omega)) ?_
                rintro r35 _ ⟨V35, rfl, k35, e35, m35⟩
                refine g_iret rfl ?_
                have ek : keepM S 1 (m_s19_O S a b) = keepT S 1 (lowK 1 (m_low (m_polar_S (m_low P13) (tpR S b)))) := by
                  have eo : m_s19_O S a b = some (m_low (m_polar_S (m_low P13) (tpR S b))) := by
                    unfold m_s19_O
                    have l0 := @lcmp_0 (m_within_S (tpR S a) (tpR S b)) 0
                    have l1 := @lcmp_lt (m_within_S (tpR S a) (tpR S b)) 0
                    have u0 := @lcmp_0 (m_low (m_polar_S (m_low P13) (tpR S b))).1 (m_low (m_polar_S (m_low P15) (tpR S b))).1
                    have v0 := @lcmp_lt (m_low (m_polar_S (m_low P13) (tpR S b))).1 (m_low (m_polar_S (m_low P15) (tpR S b))).1
                    have u1 := @lcmp_0 (m_low (m_polar_S (m_low P13) (tpR S b))).2.1 (m_low (m_polar_S (m_low P15) (tpR S b))).2.1
                    have v1 := @lcmp_lt (m_low (m_polar_S (m_low P13) (tpR S b))).2.1 (m_low (m_polar_S (m_low P15) (tpR S b))).2.1
                    have u2 := @lcmp_0 (m_low (m_polar_S (m_low P13) (tpR S b))).2.2.1 (m_low (m_polar_S (m_low P15) (tpR S b))).2.2.1
                    have v2 := @lcmp_lt (m_low (m_polar_S (m_low P13) (tpR S b))).2.2.1 (m_low (m_polar_S (m_low P15) (tpR S b))).2.2.1
                    have hb : ¬ m_bef (m_side P13 (tpR S b)) (m_side P15 (tpR S b)) := by unfold m_bef m_side; omega
                    exact m_tan_u (by omega) (by omega) eS13 eS15 (by simp [hb])
                  rw [eo]
                  rfl
                rw [ek]
                exact ⟨_, rfl, (Gs.km G_34 k35 (fun q hq => by have hq : q = o + 29 := hq; show q = o + 26 ∨ q = o + 27 ∨ q = o + 28 ∨ q = o + 29; omega)).mono (by omega), e35, m35⟩
              · skip
                refine g_iconst rfl ?_
                refine g_goto rfl ?_
                refine g_iload_n rfl rfl ?_
                refine g_bipush rfl ?_
                refine g_icmp_ne_t rfl (by omega) ?_
                refine g_iconst rfl ?_
                refine g_icmp_ne_t rfl (by omega) ?_
                refine g_aload_n rfl rfl ?_
                refine g_getR rfl ms.1 (mr_three ms) ?_
                refine g_iconst rfl ?_
                refine g_callVI [aO (some (o + 26)), aI 1] [] rfl rfl rfl rfl (Nat.le_of_ble_eq_true rfl) ms.1 (m_keepT1 (by omega) ms V33 ok (g33.mt (g31.mt (g29.mt (g27.mt (show ¬((o + 4) = o + 26) by omega) (show ¬((o + 5) = o + 26) by omega) (g25.mt (show ¬((o + 4) = o + 29) by omega) (show ¬((o + 5) = o + 29) by omega) (g23.mt (show ¬((o + 4) = o + 26) by omega) (show ¬((o + 5) = o + 26) by omega) (g21.mt (show ¬((o + 4) = o + 29) by omega) (show ¬((o + 5) = o + 29) by omega) (g19.mt (show ¬((o + 4) = o + 28) by omega) (show ¬((o + 5) = o + 28) by omega) (g17.mt (show ¬((o + 4) = o + 27) by omega) (show ¬((o + 5) = o + 27) by omega) (g15.mt (show ¬((o + 4) = o + 28) by omega) (show ¬((o + 5) = o + 28) by omega) (g13.mt (show ¬((o + 4) = o + 27) by omega) (show ¬((o + 5) = o + 27) by omega) (g9.mt (g7.mt (show ¬((o + 4) = o + 26) by omega) (show ¬((o + 5) = o + 26) by omega) (g3.mt mt)))))))))))))) (by have := G_34.2.2.1; omega) ((o + 26)) (show SLa o ((o + 26)) by unfold SLa; omega) (show SB V33 o (o + 26) (m_low (m_polar_S (m_low P15) (tpR S b))) (272) from ⟨_, _, _, _, (g33.sa (show SLa o ((o + 26)) by unfold SLa; omega) (g31.sa (show SLa o ((o + 26)) by unfold SLa; omega) (g29.sa (show SLa o ((o + 26)) by unfold SLa; omega) s27))), ((g33.rb (g31.rb (g29.rb xt27))).up (by omega)), ((g33.rb (g31.rb (g29.rb xu27))).up (by omega)), ((g33.rb (g31.rb (g29.rb xv27))).up (by omega)), ((g33.rb (g31.rb (g29.rb xy27))).up (by omega))⟩) (by omega)) ?_
                rintro r36 _ ⟨V36, rfl, k36, e36, m36⟩
                refine g_iret rfl ?_
                have ek : keepM S 1 (m_s19_O S a b) = keepT S 1 (lowK 1 (m_low (m_polar_S (m_low P15) (tpR S b)))) := by
                  have eo : m_s19_O S a b = some (m_low (m_polar_S (m_low P15) (tpR S b))) := by
                    unfold m_s19_O
                    have l0 := @lcmp_0 (m_within_S (tpR S a) (tpR S b)) 0
                    have l1 := @lcmp_lt (m_within_S (tpR S a) (tpR S b)) 0
                    have u0 := @lcmp_0 (m_low (m_polar_S (m_low P13) (tpR S b))).1 (m_low (m_polar_S (m_low P15) (tpR S b))).1
                    have v0 := @lcmp_lt (m_low (m_polar_S (m_low P13) (tpR S b))).1 (m_low (m_polar_S (m_low P15) (tpR S b))).1
                    have u1 := @lcmp_0 (m_low (m_polar_S (m_low P13) (tpR S b))).2.1 (m_low (m_polar_S (m_low P15) (tpR S b))).2.1
                    have v1 := @lcmp_lt (m_low (m_polar_S (m_low P13) (tpR S b))).2.1 (m_low (m_polar_S (m_low P15) (tpR S b))).2.1
                    have u2 := @lcmp_0 (m_low (m_polar_S (m_low P13) (tpR S b))).2.2.1 (m_low (m_polar_S (m_low P15) (tpR S b))).2.2.1
                    have v2 := @lcmp_lt (m_low (m_polar_S (m_low P13) (tpR S b))).2.2.1 (m_low (m_polar_S (m_low P15) (tpR S b))).2.2.1
                    have hb : m_bef (m_side P13 (tpR S b)) (m_side P15 (tpR S b)) := by unfold m_bef m_side; omega
                    exact m_tan_w (by omega) (by omega) eS13 eS15 (by simp [hb])
                  rw [eo]
                  rfl
                rw [ek]
                exact ⟨_, rfl, (Gs.km G_34 k36 (fun q hq => by have hq : q = o + 26 := hq; show q = o + 26 ∨ q = o + 27 ∨ q = o + 28 ∨ q = o + 29; omega)).mono (by omega), e36, m36⟩
            · skip
              refine g_iload rfl rfl ?_
              refine g_goto rfl ?_
              refine g_istore (l1 := [(4, aI (lcmp ((m_low (m_polar_S (m_low P13) (tpR S b))).2.1) ((m_low (m_polar_S (m_low P15) (tpR S b))).2.1))), (3, aI 1), (0, aO (some o)), (1, aI 19), (2, aI a)]) rfl rfl ?_
              refine g_aload_n rfl rfl ?_
              refine g_iload_n rfl rfl ?_
              refine g_if_eq_f rfl (by omega) ?_
              refine g_iload rfl rfl ?_
              refine g_if_ge rfl (fun c383 => ?_) (fun c383 => ?_)
              · skip
                refine g_iconst rfl ?_
                refine g_iload_n rfl rfl ?_
                refine g_bipush rfl ?_
                refine g_icmp_ne_t rfl (by omega) ?_
                refine g_iconst rfl ?_
                refine g_icmp_ne_f rfl (by omega) ?_
                refine g_aload_n rfl rfl ?_
                refine g_getR rfl ms.1 (mr_got ms) ?_
                refine g_goto rfl ?_
                refine g_iconst rfl ?_
                refine g_callVI [aO (some (o + 29)), aI 1] [] rfl rfl rfl rfl (Nat.le_of_ble_eq_true rfl) ms.1 (m_keepT1 (by omega) ms V31 ok (g31.mt (g29.mt (g27.mt (show ¬((o + 4) = o + 26) by omega) (show ¬((o + 5) = o + 26) by omega) (g25.mt (show ¬((o + 4) = o + 29) by omega) (show ¬((o + 5) = o + 29) by omega) (g23.mt (show ¬((o + 4) = o + 26) by omega) (show ¬((o + 5) = o + 26) by omega) (g21.mt (show ¬((o + 4) = o + 29) by omega) (show ¬((o + 5) = o + 29) by omega) (g19.mt (show ¬((o + 4) = o + 28) by omega) (show ¬((o + 5) = o + 28) by omega) (g17.mt (show ¬((o + 4) = o + 27) by omega) (show ¬((o + 5) = o + 27) by omega) (g15.mt (show ¬((o + 4) = o + 28) by omega) (show ¬((o + 5) = o + 28) by omega) (g13.mt (show ¬((o + 4) = o + 27) by omega) (show ¬((o + 5) = o + 27) by omega) (g9.mt (g7.mt (show ¬((o + 4) = o + 26) by omega) (show ¬((o + 5) = o + 26) by omega) (g3.mt mt))))))))))))) (by have := G_32.2.2.1; omega) ((o + 29)) (show SLa o ((o + 29)) by unfold SLa; omega) (show SB V31 o (o + 29) (m_low (m_polar_S (m_low P13) (tpR S b))) (272) from ⟨_, _, _, _, (g31.sa (show SLa o ((o + 29)) by unfold SLa; omega) (g29.sa (show SLa o ((o + 29)) by unfold SLa; omega) (g27.sa (show SLa o ((o + 29)) by unfold SLa; omega) (show ¬(o + 29 = o + 26) by omega) s25))), ((g31.rb (g29.rb (g27.rb xt25))).up (by omega)), ((g31.rb (g29.rb (g27.rb xu25))).up (by omega)), ((g31.rb (g29.rb (g27.rb xv25))).up (by omega)), ((g31.rb (g29.rb (g27.rb xy25))).up (by omega))⟩) (by omega)) ?_
                rintro r37 _ ⟨V37, rfl, k37, e37, m37⟩
                refine g_iret rfl ?_
                have ek : keepM S 1 (m_s19_O S a b) = keepT S 1 (lowK 1 (m_low (m_polar_S (m_low P13) (tpR S b)))) := by
                  have eo : m_s19_O S a b = some (m_low (m_polar_S (m_low P13) (tpR S b))) := by
                    unfold m_s19_O
                    have l0 := @lcmp_0 (m_within_S (tpR S a) (tpR S b)) 0
                    have l1 := @lcmp_lt (m_within_S (tpR S a) (tpR S b)) 0
                    have u0 := @lcmp_0 (m_low (m_polar_S (m_low P13) (tpR S b))).1 (m_low (m_polar_S (m_low P15) (tpR S b))).1
                    have v0 := @lcmp_lt (m_low (m_polar_S (m_low P13) (tpR S b))).1 (m_low (m_polar_S (m_low P15) (tpR S b))).1
                    have u1 := @lcmp_0 (m_low (m_polar_S (m_low P13) (tpR S b))).2.1 (m_low (m_polar_S (m_low P15) (tpR S b))).2.1
                    have v1 := @lcmp_lt (m_low (m_polar_S (m_low P13) (tpR S b))).2.1 (m_low (m_polar_S (m_low P15) (tpR S b))).2.1
                    have u2 := @lcmp_0 (m_low (m_polar_S (m_low P13) (tpR S b))).2.2.1 (m_low (m_polar_S (m_low P15) (tpR S b))).2.2.1
                    have v2 := @lcmp_lt (m_low (m_polar_S (m_low P13) (tpR S b))).2.2.1 (m_low (m_polar_S (m_low P15) (tpR S b))).2.2.1
                    have hb : ¬ m_bef (m_side P13 (tpR S b)) (m_side P15 (tpR S b)) := by unfold m_bef m_side; omega
                    exact m_tan_u (by omega) (by omega) eS13 eS15 (by simp [hb])
                  rw [eo]
                  rfl
                rw [ek]
                exact ⟨_, rfl, (Gs.km G_32 k37 (fun q hq => by have hq : q = o + 29 := hq; show q = o + 26 ∨ q = o + 27 ∨ q = o + 28 ∨ q = o + 29; omega)).mono (by omega), e37, m37⟩
              · skip
                refine g_iconst rfl ?_
                refine g_goto rfl ?_
                refine g_iload_n rfl rfl ?_
                refine g_bipush rfl ?_
                refine g_icmp_ne_t rfl (by omega) ?_
                refine g_iconst rfl ?_
                refine g_icmp_ne_t rfl (by omega) ?_
                refine g_aload_n rfl rfl ?_
                refine g_getR rfl ms.1 (mr_three ms) ?_
                refine g_iconst rfl ?_
                refine g_callVI [aO (some (o + 26)), aI 1] [] rfl rfl rfl rfl (Nat.le_of_ble_eq_true rfl) ms.1 (m_keepT1 (by omega) ms V31 ok (g31.mt (g29.mt (g27.mt (show ¬((o + 4) = o + 26) by omega) (show ¬((o + 5) = o + 26) by omega) (g25.mt (show ¬((o + 4) = o + 29) by omega) (show ¬((o + 5) = o + 29) by omega) (g23.mt (show ¬((o + 4) = o + 26) by omega) (show ¬((o + 5) = o + 26) by omega) (g21.mt (show ¬((o + 4) = o + 29) by omega) (show ¬((o + 5) = o + 29) by omega) (g19.mt (show ¬((o + 4) = o + 28) by omega) (show ¬((o + 5) = o + 28) by omega) (g17.mt (show ¬((o + 4) = o + 27) by omega) (show ¬((o + 5) = o + 27) by omega) (g15.mt (show ¬((o + 4) = o + 28) by omega) (show ¬((o + 5) = o + 28) by omega) (g13.mt (show ¬((o + 4) = o + 27) by omega) (show ¬((o + 5) = o + 27) by omega) (g9.mt (g7.mt (show ¬((o + 4) = o + 26) by omega) (show ¬((o + 5) = o + 26) by omega) (g3.mt mt))))))))))))) (by have := G_32.2.2.1; omega) ((o + 26)) (show SLa o ((o + 26)) by unfold SLa; omega) (show SB V31 o (o + 26) (m_low (m_polar_S (m_low P15) (tpR S b))) (272) from ⟨_, _, _, _, (g31.sa (show SLa o ((o + 26)) by unfold SLa; omega) (g29.sa (show SLa o ((o + 26)) by unfold SLa; omega) s27)), ((g31.rb (g29.rb xt27)).up (by omega)), ((g31.rb (g29.rb xu27)).up (by omega)), ((g31.rb (g29.rb xv27)).up (by omega)), ((g31.rb (g29.rb xy27)).up (by omega))⟩) (by omega)) ?_
                rintro r38 _ ⟨V38, rfl, k38, e38, m38⟩
                refine g_iret rfl ?_
                have ek : keepM S 1 (m_s19_O S a b) = keepT S 1 (lowK 1 (m_low (m_polar_S (m_low P15) (tpR S b)))) := by
                  have eo : m_s19_O S a b = some (m_low (m_polar_S (m_low P15) (tpR S b))) := by
                    unfold m_s19_O
                    have l0 := @lcmp_0 (m_within_S (tpR S a) (tpR S b)) 0
                    have l1 := @lcmp_lt (m_within_S (tpR S a) (tpR S b)) 0
                    have u0 := @lcmp_0 (m_low (m_polar_S (m_low P13) (tpR S b))).1 (m_low (m_polar_S (m_low P15) (tpR S b))).1
                    have v0 := @lcmp_lt (m_low (m_polar_S (m_low P13) (tpR S b))).1 (m_low (m_polar_S (m_low P15) (tpR S b))).1
                    have u1 := @lcmp_0 (m_low (m_polar_S (m_low P13) (tpR S b))).2.1 (m_low (m_polar_S (m_low P15) (tpR S b))).2.1
                    have v1 := @lcmp_lt (m_low (m_polar_S (m_low P13) (tpR S b))).2.1 (m_low (m_polar_S (m_low P15) (tpR S b))).2.1
                    have u2 := @lcmp_0 (m_low (m_polar_S (m_low P13) (tpR S b))).2.2.1 (m_low (m_polar_S (m_low P15) (tpR S b))).2.2.1
                    have v2 := @lcmp_lt (m_low (m_polar_S (m_low P13) (tpR S b))).2.2.1 (m_low (m_polar_S (m_low P15) (tpR S b))).2.2.1
                    have hb : m_bef (m_side P13 (tpR S b)) (m_side P15 (tpR S b)) := by unfold m_bef m_side; omega
                    exact m_tan_w (by omega) (by omega) eS13 eS15 (by simp [hb])
                  rw [eo]
                  rfl
                rw [ek]
                exact ⟨_, rfl, (Gs.km G_32 k38 (fun q hq => by have hq : q = o + 26 := hq; show q = o + 26 ∨ q = o + 27 ∨ q = o + 28 ∨ q = o + 29; omega)).mono (by omega), e38, m38⟩
          · skip
            refine g_iload rfl rfl ?_
            refine g_goto rfl ?_
            refine g_istore (l1 := [(4, aI (lcmp ((m_low (m_polar_S (m_low P13) (tpR S b))).1) ((m_low (m_polar_S (m_low P15) (tpR S b))).1))), (3, aI 1), (0, aO (some o)), (1, aI 19), (2, aI a)]) rfl rfl ?_
            refine g_iload rfl rfl ?_
            refine g_if_eq rfl (fun c350 => ?_) (fun c350 => ?_)
            · skip
              refine g_aload_n rfl rfl ?_
              refine g_aload_n rfl rfl ?_
              refine g_getR rfl ms.1 (mr_got ms) ?_
              refine g_iconst rfl ?_
              refine g_iald (i := 2) rfl (mt_got ms) (by omega) (by omega) ?_
              refine g_top (v2 := aI ((v25 : Int))) (congrArg aI (by exact (g29.sa (show SLa o ((o + 29)) by unfold SLa; omega) (g27.sa (show SLa o ((o + 29)) by unfold SLa; omega) (show ¬(o + 29 = o + 26) by omega) s25)).2.2.1)) ?_
              refine g_aload_n rfl rfl ?_
              refine g_getR rfl ms.1 (mr_three ms) ?_
              refine g_iconst rfl ?_
              refine g_iald (i := 2) rfl (mt_three ms) (by omega) (by omega) ?_
              refine g_top (v2 := aI ((v27 : Int))) (congrArg aI (by exact (g29.sa (show SLa o ((o + 26)) by unfold SLa; omega) s27).2.2.1)) ?_
              refine g_callVI [aI ((v25 : Int)), aI ((v27 : Int))] [] rfl rfl rfl rfl (Nat.le_of_ble_eq_true rfl) ms.1 (r_cmp (by omega) ms V29 (by have := G_30.2.2.1; omega) (g29.rb (g27.rb xv25)) (g29.rb xv27) (273) (by omega) (by omega) (by omega)) ?_
              rintro _ _ ⟨rfl, V39, rfl, g39⟩
              have G_40 := G_30.trans (g39.gs _)
              refine g_istore (l1 := [(4, aI (lcmp ((m_low (m_polar_S (m_low P13) (tpR S b))).2.2.1) ((m_low (m_polar_S (m_low P15) (tpR S b))).2.2.1))), (3, aI 1), (0, aO (some o)), (1, aI 19), (2, aI a)]) rfl rfl ?_
              refine g_aload_n rfl rfl ?_
              refine g_iload_n rfl rfl ?_
              refine g_if_eq_f rfl (by omega) ?_
              refine g_iload rfl rfl ?_
              refine g_if_ge rfl (fun c383 => ?_) (fun c383 => ?_)
              · skip
                refine g_iconst rfl ?_
                refine g_iload_n rfl rfl ?_
                refine g_bipush rfl ?_
                refine g_icmp_ne_t rfl (by omega) ?_
                refine g_iconst rfl ?_
                refine g_icmp_ne_f rfl (by omega) ?_
                refine g_aload_n rfl rfl ?_
                refine g_getR rfl ms.1 (mr_got ms) ?_
                refine g_goto rfl ?_
                refine g_iconst rfl ?_
                refine g_callVI [aO (some (o + 29)), aI 1] [] rfl rfl rfl rfl (Nat.le_of_ble_eq_true rfl) ms.1 (m_keepT1 (by omega) ms V39 ok (g39.mt (g29.mt (g27.mt (show ¬((o + 4) = o + 26) by omega) (show ¬((o + 5) = o + 26) by omega) (g25.mt (show ¬((o + 4) = o + 29) by omega) (show ¬((o + 5) = o + 29) by omega) (g23.mt (show ¬((o + 4) = o + 26) by omega) (show ¬((o + 5) = o + 26) by omega) (g21.mt (show ¬((o + 4) = o + 29) by omega) (show ¬((o + 5) = o + 29) by omega) (g19.mt (show ¬((o + 4) = o + 28) by omega) (show ¬((o + 5) = o + 28) by omega) (g17.mt (show ¬((o + 4) = o + 27) by omega) (show ¬((o + 5) = o + 27) by omega) (g15.mt (show ¬((o + 4) = o + 28) by omega) (show ¬((o + 5) = o + 28) by omega) (g13.mt (show ¬((o + 4) = o + 27) by omega) (show ¬((o + 5) = o + 27) by omega) (g9.mt (g7.mt (show ¬((o + 4) = o + 26) by omega) (show ¬((o + 5) = o + 26) by omega) (g3.mt mt))))))))))))) (by have := G_40.2.2.1; omega) ((o + 29)) (show SLa o ((o + 29)) by unfold SLa; omega) (show SB V39 o (o + 29) (m_low (m_polar_S (m_low P13) (tpR S b))) (272) from ⟨_, _, _, _, (g39.sa (show SLa o ((o + 29)) by unfold SLa; omega) (g29.sa (show SLa o ((o + 29)) by unfold SLa; omega) (g27.sa (show SLa o ((o + 29)) by unfold SLa; omega) (show ¬(o + 29 = o + 26) by omega) s25))), ((g39.rb (g29.rb (g27.rb xt25))).up (by omega)), ((g39.rb (g29.rb (g27.rb xu25))).up (by omega)), ((g39.rb (g29.rb (g27.rb xv25))).up (by omega)), ((g39.rb (g29.rb (g27.rb xy25))).up (by omega))⟩) (by omega)) ?_
                rintro r41 _ ⟨V41, rfl, k41, e41, m41⟩
                refine g_iret rfl ?_
                have ek : keepM S 1 (m_s19_O S a b) = keepT S 1 (lowK 1 (m_low (m_polar_S (m_low P13) (tpR S b)))) := by
                  have eo : m_s19_O S a b = some (m_low (m_polar_S (m_low P13) (tpR S b))) := by
                    unfold m_s19_O
                    have l0 := @lcmp_0 (m_within_S (tpR S a) (tpR S b)) 0
                    have l1 := @lcmp_lt (m_within_S (tpR S a) (tpR S b)) 0
                    have u0 := @lcmp_0 (m_low (m_polar_S (m_low P13) (tpR S b))).1 (m_low (m_polar_S (m_low P15) (tpR S b))).1
                    have v0 := @lcmp_lt (m_low (m_polar_S (m_low P13) (tpR S b))).1 (m_low (m_polar_S (m_low P15) (tpR S b))).1
                    have u1 := @lcmp_0 (m_low (m_polar_S (m_low P13) (tpR S b))).2.1 (m_low (m_polar_S (m_low P15) (tpR S b))).2.1
                    have v1 := @lcmp_lt (m_low (m_polar_S (m_low P13) (tpR S b))).2.1 (m_low (m_polar_S (m_low P15) (tpR S b))).2.1
                    have u2 := @lcmp_0 (m_low (m_polar_S (m_low P13) (tpR S b))).2.2.1 (m_low (m_polar_S (m_low P15) (tpR S b))).2.2.1
                    have v2 := @lcmp_lt (m_low (m_polar_S (m_low P13) (tpR S b))).2.2.1 (m_low (m_polar_S (m_low P15) (tpR S b))).2.2.1
                    have hb : ¬ m_bef (m_side P13 (tpR S b)) (m_side P15 (tpR S b)) := by unfold m_bef m_side; omega
                    exact m_tan_u (by omega) (by omega) eS13 eS15 (by simp [hb])
                  rw [eo]
                  rfl
                rw [ek]
                exact ⟨_, rfl, (Gs.km G_40 k41 (fun q hq => by have hq : q = o + 29 := hq; show q = o + 26 ∨ q = o + 27 ∨ q = o + 28 ∨ q = o + 29; omega)).mono (by omega), e41, m41⟩
              · skip
                refine g_iconst rfl ?_
                refine g_goto rfl ?_
                refine g_iload_n rfl rfl ?_
                refine g_bipush rfl ?_
                refine g_icmp_ne_t rfl (by omega) ?_
                refine g_iconst rfl ?_
                refine g_icmp_ne_t rfl (by omega) ?_
                refine g_aload_n rfl rfl ?_
                refine g_getR rfl ms.1 (mr_three ms) ?_
                refine g_iconst rfl ?_
                refine g_callVI [aO (some (o + 26)), aI 1] [] rfl rfl rfl rfl (Nat.le_of_ble_eq_true rfl) ms.1 (m_keepT1 (by omega) ms V39 ok (g39.mt (g29.mt (g27.mt (show ¬((o + 4) = o + 26) by omega) (show ¬((o + 5) = o + 26) by omega) (g25.mt (show ¬((o + 4) = o + 29) by omega) (show ¬((o + 5) = o + 29) by omega) (g23.mt (show ¬((o + 4) = o + 26) by omega) (show ¬((o + 5) = o + 26) by omega) (g21.mt (show ¬((o + 4) = o + 29) by omega) (show ¬((o + 5) = o + 29) by omega) (g19.mt (show ¬((o + 4) = o + 28) by omega) (show ¬((o + 5) = o + 28) by omega) (g17.mt (show ¬((o + 4) = o + 27) by omega) (show ¬((o + 5) = o + 27) by omega) (g15.mt (show ¬((o + 4) = o + 28) by omega) (show ¬((o + 5) = o + 28) by omega) (g13.mt (show ¬((o + 4) = o + 27) by omega) (show ¬((o + 5) = o + 27) by omega) (g9.mt (g7.mt (show ¬((o + 4) = o + 26) by omega) (show ¬((o + 5) = o + 26) by omega) (g3.mt mt))))))))))))) (by have := G_40.2.2.1; omega) ((o + 26)) (show SLa o ((o + 26)) by unfold SLa; omega) (show SB V39 o (o + 26) (m_low (m_polar_S (m_low P15) (tpR S b))) (272) from ⟨_, _, _, _, (g39.sa (show SLa o ((o + 26)) by unfold SLa; omega) (g29.sa (show SLa o ((o + 26)) by unfold SLa; omega) s27)), ((g39.rb (g29.rb xt27)).up (by omega)), ((g39.rb (g29.rb xu27)).up (by omega)), ((g39.rb (g29.rb xv27)).up (by omega)), ((g39.rb (g29.rb xy27)).up (by omega))⟩) (by omega)) ?_
                rintro r42 _ ⟨V42, rfl, k42, e42, m42⟩
                refine g_iret rfl ?_
                have ek : keepM S 1 (m_s19_O S a b) = keepT S 1 (lowK 1 (m_low (m_polar_S (m_low P15) (tpR S b)))) := by
                  have eo : m_s19_O S a b = some (m_low (m_polar_S (m_low P15) (tpR S b))) := by
                    unfold m_s19_O
                    have l0 := @lcmp_0 (m_within_S (tpR S a) (tpR S b)) 0
                    have l1 := @lcmp_lt (m_within_S (tpR S a) (tpR S b)) 0
                    have u0 := @lcmp_0 (m_low (m_polar_S (m_low P13) (tpR S b))).1 (m_low (m_polar_S (m_low P15) (tpR S b))).1
                    have v0 := @lcmp_lt (m_low (m_polar_S (m_low P13) (tpR S b))).1 (m_low (m_polar_S (m_low P15) (tpR S b))).1
                    have u1 := @lcmp_0 (m_low (m_polar_S (m_low P13) (tpR S b))).2.1 (m_low (m_polar_S (m_low P15) (tpR S b))).2.1
                    have v1 := @lcmp_lt (m_low (m_polar_S (m_low P13) (tpR S b))).2.1 (m_low (m_polar_S (m_low P15) (tpR S b))).2.1
                    have u2 := @lcmp_0 (m_low (m_polar_S (m_low P13) (tpR S b))).2.2.1 (m_low (m_polar_S (m_low P15) (tpR S b))).2.2.1
                    have v2 := @lcmp_lt (m_low (m_polar_S (m_low P13) (tpR S b))).2.2.1 (m_low (m_polar_S (m_low P15) (tpR S b))).2.2.1
                    have hb : m_bef (m_side P13 (tpR S b)) (m_side P15 (tpR S b)) := by unfold m_bef m_side; omega
                    exact m_tan_w (by omega) (by omega) eS13 eS15 (by simp [hb])
                  rw [eo]
                  rfl
                rw [ek]
                exact ⟨_, rfl, (Gs.km G_40 k42 (fun q hq => by have hq : q = o + 26 := hq; show q = o + 26 ∨ q = o + 27 ∨ q = o + 28 ∨ q = o + 29; omega)).mono (by omega), e42, m42⟩
            · skip
              refine g_iload rfl rfl ?_
              refine g_goto rfl ?_
              refine g_istore (l1 := [(4, aI (lcmp ((m_low (m_polar_S (m_low P13) (tpR S b))).1) ((m_low (m_polar_S (m_low P15) (tpR S b))).1))), (3, aI 1), (0, aO (some o)), (1, aI 19), (2, aI a)]) rfl rfl ?_
              refine g_aload_n rfl rfl ?_
              refine g_iload_n rfl rfl ?_
              refine g_if_eq_f rfl (by omega) ?_
              refine g_iload rfl rfl ?_
              refine g_if_ge rfl (fun c383 => ?_) (fun c383 => ?_)
              · skip
                refine g_iconst rfl ?_
                refine g_iload_n rfl rfl ?_
                refine g_bipush rfl ?_
                refine g_icmp_ne_t rfl (by omega) ?_
                refine g_iconst rfl ?_
                refine g_icmp_ne_f rfl (by omega) ?_
                refine g_aload_n rfl rfl ?_
                refine g_getR rfl ms.1 (mr_got ms) ?_
                refine g_goto rfl ?_
                refine g_iconst rfl ?_
                refine g_callVI [aO (some (o + 29)), aI 1] [] rfl rfl rfl rfl (Nat.le_of_ble_eq_true rfl) ms.1 (m_keepT1 (by omega) ms V29 ok (g29.mt (g27.mt (show ¬((o + 4) = o + 26) by omega) (show ¬((o + 5) = o + 26) by omega) (g25.mt (show ¬((o + 4) = o + 29) by omega) (show ¬((o + 5) = o + 29) by omega) (g23.mt (show ¬((o + 4) = o + 26) by omega) (show ¬((o + 5) = o + 26) by omega) (g21.mt (show ¬((o + 4) = o + 29) by omega) (show ¬((o + 5) = o + 29) by omega) (g19.mt (show ¬((o + 4) = o + 28) by omega) (show ¬((o + 5) = o + 28) by omega) (g17.mt (show ¬((o + 4) = o + 27) by omega) (show ¬((o + 5) = o + 27) by omega) (g15.mt (show ¬((o + 4) = o + 28) by omega) (show ¬((o + 5) = o + 28) by omega) (g13.mt (show ¬((o + 4) = o + 27) by omega) (show ¬((o + 5) = o + 27) by omega) (g9.mt (g7.mt (show ¬((o + 4) = o + 26) by omega) (show ¬((o + 5) = o + 26) by omega) (g3.mt mt)))))))))))) (by have := G_30.2.2.1; omega) ((o + 29)) (show SLa o ((o + 29)) by unfold SLa; omega) (show SB V29 o (o + 29) (m_low (m_polar_S (m_low P13) (tpR S b))) (272) from ⟨_, _, _, _, (g29.sa (show SLa o ((o + 29)) by unfold SLa; omega) (g27.sa (show SLa o ((o + 29)) by unfold SLa; omega) (show ¬(o + 29 = o + 26) by omega) s25)), ((g29.rb (g27.rb xt25)).up (by omega)), ((g29.rb (g27.rb xu25)).up (by omega)), ((g29.rb (g27.rb xv25)).up (by omega)), ((g29.rb (g27.rb xy25)).up (by omega))⟩) (by omega)) ?_
                rintro r43 _ ⟨V43, rfl, k43, e43, m43⟩
                refine g_iret rfl ?_
                have ek : keepM S 1 (m_s19_O S a b) = keepT S 1 (lowK 1 (m_low (m_polar_S (m_low P13) (tpR S b)))) := by
                  have eo : m_s19_O S a b = some (m_low (m_polar_S (m_low P13) (tpR S b))) := by
                    unfold m_s19_O
                    have l0 := @lcmp_0 (m_within_S (tpR S a) (tpR S b)) 0
                    have l1 := @lcmp_lt (m_within_S (tpR S a) (tpR S b)) 0
                    have u0 := @lcmp_0 (m_low (m_polar_S (m_low P13) (tpR S b))).1 (m_low (m_polar_S (m_low P15) (tpR S b))).1
                    have v0 := @lcmp_lt (m_low (m_polar_S (m_low P13) (tpR S b))).1 (m_low (m_polar_S (m_low P15) (tpR S b))).1
                    have u1 := @lcmp_0 (m_low (m_polar_S (m_low P13) (tpR S b))).2.1 (m_low (m_polar_S (m_low P15) (tpR S b))).2.1
                    have v1 := @lcmp_lt (m_low (m_polar_S (m_low P13) (tpR S b))).2.1 (m_low (m_polar_S (m_low P15) (tpR S b))).2.1
                    have u2 := @lcmp_0 (m_low (m_polar_S (m_low P13) (tpR S b))).2.2.1 (m_low (m_polar_S (m_low P15) (tpR S b))).2.2.1
                    have v2 := @lcmp_lt (m_low (m_polar_S (m_low P13) (tpR S b))).2.2.1 (m_low (m_polar_S (m_low P15) (tpR S b))).2.2.1
                    have hb : ¬ m_bef (m_side P13 (tpR S b)) (m_side P15 (tpR S b)) := by unfold m_bef m_side; omega
                    exact m_tan_u (by omega) (by omega) eS13 eS15 (by simp [hb])
                  rw [eo]
                  rfl
                rw [ek]
                exact ⟨_, rfl, (Gs.km G_30 k43 (fun q hq => by have hq : q = o + 29 := hq; show q = o + 26 ∨ q = o + 27 ∨ q = o + 28 ∨ q = o + 29; omega)).mono (by omega), e43, m43⟩
              · skip
                refine g_iconst rfl ?_
                refine g_goto rfl ?_
                refine g_iload_n rfl rfl ?_
                refine g_bipush rfl ?_
                refine g_icmp_ne_t rfl (by omega) ?_
                refine g_iconst rfl ?_
                refine g_icmp_ne_t rfl (by omega) ?_
                refine g_aload_n rfl rfl ?_
                refine g_getR rfl ms.1 (mr_three ms) ?_
                refine g_iconst rfl ?_
                refine g_callVI [aO (some (o + 26)), aI 1] [] rfl rfl rfl rfl (Nat.le_of_ble_eq_true rfl) ms.1 (m_keepT1 (by omega) ms V29 ok (g29.mt (g27.mt (show ¬((o + 4) = o + 26) by omega) (show ¬((o + 5) = o + 26) by omega) (g25.mt (show ¬((o + 4) = o + 29) by omega) (show ¬((o + 5) = o + 29) by omega) (g23.mt (show ¬((o + 4) = o + 26) by omega) (show ¬((o + 5) = o + 26) by omega) (g21.mt (show ¬((o + 4) = o + 29) by omega) (show ¬((o + 5) = o + 29) by omega) (g19.mt (show ¬((o + 4) = o + 28) by omega) (show ¬((o + 5) = o + 28) by omega) (g17.mt (show ¬((o + 4) = o + 27) by omega) (show ¬((o + 5) = o + 27) by omega) (g15.mt (show ¬((o + 4) = o + 28) by omega) (show ¬((o + 5) = o + 28) by omega) (g13.mt (show ¬((o + 4) = o + 27) by omega) (show ¬((o + 5) = o + 27) by omega) (g9.mt (g7.mt (show ¬((o + 4) = o + 26) by omega) (show ¬((o + 5) = o + 26) by omega) (g3.mt mt)))))))))))) (by have := G_30.2.2.1; omega) ((o + 26)) (show SLa o ((o + 26)) by unfold SLa; omega) (show SB V29 o (o + 26) (m_low (m_polar_S (m_low P15) (tpR S b))) (272) from ⟨_, _, _, _, (g29.sa (show SLa o ((o + 26)) by unfold SLa; omega) s27), ((g29.rb xt27).up (by omega)), ((g29.rb xu27).up (by omega)), ((g29.rb xv27).up (by omega)), ((g29.rb xy27).up (by omega))⟩) (by omega)) ?_
                rintro r44 _ ⟨V44, rfl, k44, e44, m44⟩
                refine g_iret rfl ?_
                have ek : keepM S 1 (m_s19_O S a b) = keepT S 1 (lowK 1 (m_low (m_polar_S (m_low P15) (tpR S b)))) := by
                  have eo : m_s19_O S a b = some (m_low (m_polar_S (m_low P15) (tpR S b))) := by
                    unfold m_s19_O
                    have l0 := @lcmp_0 (m_within_S (tpR S a) (tpR S b)) 0
                    have l1 := @lcmp_lt (m_within_S (tpR S a) (tpR S b)) 0
                    have u0 := @lcmp_0 (m_low (m_polar_S (m_low P13) (tpR S b))).1 (m_low (m_polar_S (m_low P15) (tpR S b))).1
                    have v0 := @lcmp_lt (m_low (m_polar_S (m_low P13) (tpR S b))).1 (m_low (m_polar_S (m_low P15) (tpR S b))).1
                    have u1 := @lcmp_0 (m_low (m_polar_S (m_low P13) (tpR S b))).2.1 (m_low (m_polar_S (m_low P15) (tpR S b))).2.1
                    have v1 := @lcmp_lt (m_low (m_polar_S (m_low P13) (tpR S b))).2.1 (m_low (m_polar_S (m_low P15) (tpR S b))).2.1
                    have u2 := @lcmp_0 (m_low (m_polar_S (m_low P13) (tpR S b))).2.2.1 (m_low (m_polar_S (m_low P15) (tpR S b))).2.2.1
                    have v2 := @lcmp_lt (m_low (m_polar_S (m_low P13) (tpR S b))).2.2.1 (m_low (m_polar_S (m_low P15) (tpR S b))).2.2.1
                    have hb : m_bef (m_side P13 (tpR S b)) (m_side P15 (tpR S b)) := by unfold m_bef m_side; omega
                    exact m_tan_w (by omega) (by omega) eS13 eS15 (by simp [hb])
                  rw [eo]
                  rfl
                rw [ek]
                exact ⟨_, rfl, (Gs.km G_30 k44 (fun q hq => by have hq : q = o + 26 := hq; show q = o + 26 ∨ q = o + 27 ∨ q = o + 28 ∨ q = o + 29; omega)).mono (by omega), e44, m44⟩
      · skip
        refine g_aload_n rfl rfl ?_
        refine g_aload_n rfl rfl ?_
        refine g_getR rfl ms.1 (mr_three ms) ?_
        refine g_iconst rfl ?_
        refine g_callVI [aO (some (o + 26)), aI 1] [] rfl rfl rfl rfl (Nat.le_of_ble_eq_true rfl) ms.1 (m_keepT1 (by omega) ms V9 ok (g9.mt (g7.mt (show ¬((o + 4) = o + 26) by omega) (show ¬((o + 5) = o + 26) by omega) (g3.mt mt))) (by have := G_10.2.2.1; omega) ((o + 26)) (show SLa o ((o + 26)) by unfold SLa; omega) (show SB V9 o (o + 26) (m_polar_S (tpR S a) (tpR S b)) (42) from ⟨_, _, _, _, (g9.sa (show SLa o ((o + 26)) by unfold SLa; omega) s7), ((g9.rb xt7).up (by omega)), ((g9.rb xu7).up (by omega)), ((g9.rb xv7).up (by omega)), ((g9.rb xy7).up (by omega))⟩) (by omega)) ?_
        rintro r45 _ ⟨V45, rfl, k45, e45, m45⟩
        refine g_iret rfl ?_
        have ek : keepM S 1 (m_s19_O S a b) = keepT S 1 (lowK 1 (m_polar_S (tpR S a) (tpR S b))) := by
          have eo : m_s19_O S a b = some (m_polar_S (tpR S a) (tpR S b)) := by
            unfold m_s19_O
            have l0 := @lcmp_0 (m_within_S (tpR S a) (tpR S b)) 0
            have l1 := @lcmp_lt (m_within_S (tpR S a) (tpR S b)) 0
            exact m_tan_on (by omega) (by omega)
          rw [eo]
          rfl
        rw [ek]
        exact ⟨_, rfl, (Gs.km G_10 k45 (fun q hq => by have hq : q = o + 26 := hq; show q = o + 26 ∨ q = o + 27 ∨ q = o + 28 ∨ q = o + 29; omega)).mono (by omega), e45, m45⟩
    · skip
      refine g_bipush rfl ?_
      refine g_iret rfl ?_
      have ek : keepM S 1 (m_s19_O S a b) = (-3, S) := by
        have eo : m_s19_O S a b = none := by
          unfold m_s19_O
          have l0 := @lcmp_0 (m_within_S (tpR S a) (tpR S b)) 0
          have l1 := @lcmp_lt (m_within_S (tpR S a) (tpR S b)) 0
          first
            | exact m_tan_no (by omega)
            | exact m_tan_no2 (by omega) (by omega) 
        rw [eo]
        rfl
      rw [ek]
      exact ⟨V3, rfl, KM.of (G_4.mono (by omega)), rfl, (g3.mt mt)⟩
