/-! the class's statements: printed by wip/whole/d8.py -/
theorem ifn {c : Prop} [Decidable c] {α : Type} {a : α} (h : (if c then none else some a) = none) : c := by
  by_cases q : c
  · exact q
  · rw [if_neg q] at h; cases h
theorem ifs {c : Prop} [Decidable c] {α : Type} {a b : α} (h : (if c then none else some a) = some b) : ¬ c ∧ b = a := by
  by_cases q : c
  · rw [if_pos q] at h; cases h
  · rw [if_neg q] at h
    cases h
    exact ⟨q, rfl⟩
set_option maxHeartbeats 4000000 in
theorem o_apart {w : aW} {d : Nat} (hd : 6 ≤ d) {k : Nat} {h : aH} {c : Nat} (ci : CI h c) {aP : Nat} {P : T3} (tP : TB h c aP P (k)) {aQ : Nat} {Q : T3} (tQ : TB h c aQ Q (k)) {aR : Nat} {R : T3} (tR : TB h c aR R (k)) {aU : Nat} {U : T3} (tU : TB h c aU U (k))  (hk : k ≤ 190) : WP w d 150 [aO (some (c + 10)), aO (some aP), aO (some aQ), aO (some aR), aO (some aU)] h (RI (fun r h1 => Gr h h1 c 42 ∧ r = if ¬((p_cross_S P Q).1 = 0 ∧ (p_cross_S P Q).2.1 = 0 ∧ (p_cross_S P Q).2.2 = 0) ∧ ¬((p_cross_S P R).1 = 0 ∧ (p_cross_S P R).2.1 = 0 ∧ (p_cross_S P R).2.2 = 0) ∧ ¬((p_cross_S P U).1 = 0 ∧ (p_cross_S P U).2.1 = 0 ∧ (p_cross_S P U).2.2 = 0) ∧ ¬((p_cross_S Q R).1 = 0 ∧ (p_cross_S Q R).2.1 = 0 ∧ (p_cross_S Q R).2.2 = 0) ∧ ¬((p_cross_S Q U).1 = 0 ∧ (p_cross_S Q U).2.1 = 0 ∧ (p_cross_S Q U).2.2 = 0) ∧ ¬((p_cross_S R U).1 = 0 ∧ (p_cross_S R U).2.1 = 0 ∧ (p_cross_S R U).2.2 = 0) then 1 else 0)) := by
  obtain ⟨d, rfl⟩ : ∃ d1, d = d1 + 1 := ⟨d - 1, by omega⟩
  refine WP.enter (cd := cd_X6_areApart) rfl ?_
  have G0 := Gr.refl ci
  obtain ⟨Px, Py, Pw, fP, wPx, wPy, wPw⟩ := tP
  obtain ⟨Qx, Qy, Qw, fQ, wQx, wQy, wQw⟩ := tQ
  obtain ⟨Rx, Ry, Rw, fR, wRx, wRy, wRw⟩ := tR
  obtain ⟨Ux, Uy, Uw, fU, wUx, wUy, wUw⟩ := tU
  have hls : largs 0 [aO (some (c + 10)), aO (some aP), aO (some aQ), aO (some aR), aO (some aU)] = [(0, aO (some (c + 10))), (1, aO (some aP)), (2, aO (some aQ)), (3, aO (some aR)), (4, aO (some aU))] := rfl
  rw [hls]
  clear hls
  refine g_aload_n rfl rfl ?_
  refine g_getR rfl (G0.cs.kd 10 (by omega) rfl) (G0.cs.rf 13 (by omega) rfl) ?_
  refine g_aload_n rfl rfl ?_
  refine g_aload_n rfl rfl ?_
  refine g_callVI [aO (some aP), aO (some aQ)] [] rfl rfl rfl rfl (Nat.le_of_ble_eq_true rfl) (G0.cs.kd 6 (by omega) rfl) (p_areSame (by omega) G0.ci (show TB h c aP P (k) from ⟨_, _, _, fP, (wPx.up (by omega)), (wPy.up (by omega)), (wPw.up (by omega))⟩) (show TB h c aQ Q (k) from ⟨_, _, _, fQ, (wQx.up (by omega)), (wQy.up (by omega)), (wQw.up (by omega))⟩) (by omega)) ?_
  rintro _ h1 ⟨g1, rfl⟩
  have G1 := G0.trans g1
  refine g_b_ne rfl (fun c9 => ?_) (fun c9 => ?_)
  · skip
    refine g_iconst rfl ?_
    refine g_zret rfl (by omega) ?_
    refine ⟨G1.mono (by omega), ?_⟩
    first
      | rfl
      | (refine (if_pos ?_).symm; refine ⟨?_, ?_, ?_, ?_, ?_, ?_⟩ <;> assumption)
      | (refine (if_neg fun q => ?_).symm; obtain ⟨q0, q1, q2, q3, q4, q5⟩ := q; contradiction)
      | (split <;> first | (refine (if_pos ?_).symm; refine ⟨?_, ?_, ?_, ?_, ?_, ?_⟩ <;> assumption) | (refine (if_neg fun q => ?_).symm; obtain ⟨q0, q1, q2, q3, q4, q5⟩ := q; contradiction))
  · skip
    refine g_aload_n rfl rfl ?_
    refine g_getR rfl (G1.cs.kd 10 (by omega) rfl) (G1.cs.rf 13 (by omega) rfl) ?_
    refine g_aload_n rfl rfl ?_
    refine g_aload_n rfl rfl ?_
    refine g_callVI [aO (some aP), aO (some aR)] [] rfl rfl rfl rfl (Nat.le_of_ble_eq_true rfl) (G1.cs.kd 6 (by omega) rfl) (p_areSame (by omega) G1.ci (show TB h1 c aP P (k) from ⟨_, _, _, (g1.tf fP), ((g1.wb wPx).up (by omega)), ((g1.wb wPy).up (by omega)), ((g1.wb wPw).up (by omega))⟩) (show TB h1 c aR R (k) from ⟨_, _, _, (g1.tf fR), ((g1.wb wRx).up (by omega)), ((g1.wb wRy).up (by omega)), ((g1.wb wRw).up (by omega))⟩) (by omega)) ?_
    rintro _ h2 ⟨g2, rfl⟩
    have G2 := G1.trans g2
    refine g_b_ne rfl (fun c21 => ?_) (fun c21 => ?_)
    · skip
      refine g_iconst rfl ?_
      refine g_zret rfl (by omega) ?_
      refine ⟨G2.mono (by omega), ?_⟩
      first
        | rfl
        | (refine (if_pos ?_).symm; refine ⟨?_, ?_, ?_, ?_, ?_, ?_⟩ <;> assumption)
        | (refine (if_neg fun q => ?_).symm; obtain ⟨q0, q1, q2, q3, q4, q5⟩ := q; contradiction)
        | (split <;> first | (refine (if_pos ?_).symm; refine ⟨?_, ?_, ?_, ?_, ?_, ?_⟩ <;> assumption) | (refine (if_neg fun q => ?_).symm; obtain ⟨q0, q1, q2, q3, q4, q5⟩ := q; contradiction))
    · skip
      refine g_aload_n rfl rfl ?_
      refine g_getR rfl (G2.cs.kd 10 (by omega) rfl) (G2.cs.rf 13 (by omega) rfl) ?_
      refine g_aload_n rfl rfl ?_
      refine g_aload rfl rfl ?_
      refine g_callVI [aO (some aP), aO (some aU)] [] rfl rfl rfl rfl (Nat.le_of_ble_eq_true rfl) (G2.cs.kd 6 (by omega) rfl) (p_areSame (by omega) G2.ci (show TB h2 c aP P (k) from ⟨_, _, _, (g2.tf (g1.tf fP)), ((g2.wb (g1.wb wPx)).up (by omega)), ((g2.wb (g1.wb wPy)).up (by omega)), ((g2.wb (g1.wb wPw)).up (by omega))⟩) (show TB h2 c aU U (k) from ⟨_, _, _, (g2.tf (g1.tf fU)), ((g2.wb (g1.wb wUx)).up (by omega)), ((g2.wb (g1.wb wUy)).up (by omega)), ((g2.wb (g1.wb wUw)).up (by omega))⟩) (by omega)) ?_
      rintro _ h3 ⟨g3, rfl⟩
      have G3 := G2.trans g3
      refine g_b_ne rfl (fun c34 => ?_) (fun c34 => ?_)
      · skip
        refine g_iconst rfl ?_
        refine g_zret rfl (by omega) ?_
        refine ⟨G3.mono (by omega), ?_⟩
        first
          | rfl
          | (refine (if_pos ?_).symm; refine ⟨?_, ?_, ?_, ?_, ?_, ?_⟩ <;> assumption)
          | (refine (if_neg fun q => ?_).symm; obtain ⟨q0, q1, q2, q3, q4, q5⟩ := q; contradiction)
          | (split <;> first | (refine (if_pos ?_).symm; refine ⟨?_, ?_, ?_, ?_, ?_, ?_⟩ <;> assumption) | (refine (if_neg fun q => ?_).symm; obtain ⟨q0, q1, q2, q3, q4, q5⟩ := q; contradiction))
      · skip
        refine g_aload_n rfl rfl ?_
        refine g_getR rfl (G3.cs.kd 10 (by omega) rfl) (G3.cs.rf 13 (by omega) rfl) ?_
        refine g_aload_n rfl rfl ?_
        refine g_aload_n rfl rfl ?_
        refine g_callVI [aO (some aQ), aO (some aR)] [] rfl rfl rfl rfl (Nat.le_of_ble_eq_true rfl) (G3.cs.kd 6 (by omega) rfl) (p_areSame (by omega) G3.ci (show TB h3 c aQ Q (k) from ⟨_, _, _, (g3.tf (g2.tf (g1.tf fQ))), ((g3.wb (g2.wb (g1.wb wQx))).up (by omega)), ((g3.wb (g2.wb (g1.wb wQy))).up (by omega)), ((g3.wb (g2.wb (g1.wb wQw))).up (by omega))⟩) (show TB h3 c aR R (k) from ⟨_, _, _, (g3.tf (g2.tf (g1.tf fR))), ((g3.wb (g2.wb (g1.wb wRx))).up (by omega)), ((g3.wb (g2.wb (g1.wb wRy))).up (by omega)), ((g3.wb (g2.wb (g1.wb wRw))).up (by omega))⟩) (by omega)) ?_
        rintro _ h4 ⟨g4, rfl⟩
        have G4 := G3.trans g4
        refine g_b_ne rfl (fun c46 => ?_) (fun c46 => ?_)
        · skip
          refine g_iconst rfl ?_
          refine g_zret rfl (by omega) ?_
          refine ⟨G4.mono (by omega), ?_⟩
          first
            | rfl
            | (refine (if_pos ?_).symm; refine ⟨?_, ?_, ?_, ?_, ?_, ?_⟩ <;> assumption)
            | (refine (if_neg fun q => ?_).symm; obtain ⟨q0, q1, q2, q3, q4, q5⟩ := q; contradiction)
            | (split <;> first | (refine (if_pos ?_).symm; refine ⟨?_, ?_, ?_, ?_, ?_, ?_⟩ <;> assumption) | (refine (if_neg fun q => ?_).symm; obtain ⟨q0, q1, q2, q3, q4, q5⟩ := q; contradiction))
        · skip
          refine g_aload_n rfl rfl ?_
          refine g_getR rfl (G4.cs.kd 10 (by omega) rfl) (G4.cs.rf 13 (by omega) rfl) ?_
          refine g_aload_n rfl rfl ?_
          refine g_aload rfl rfl ?_
          refine g_callVI [aO (some aQ), aO (some aU)] [] rfl rfl rfl rfl (Nat.le_of_ble_eq_true rfl) (G4.cs.kd 6 (by omega) rfl) (p_areSame (by omega) G4.ci (show TB h4 c aQ Q (k) from ⟨_, _, _, (g4.tf (g3.tf (g2.tf (g1.tf fQ)))), ((g4.wb (g3.wb (g2.wb (g1.wb wQx)))).up (by omega)), ((g4.wb (g3.wb (g2.wb (g1.wb wQy)))).up (by omega)), ((g4.wb (g3.wb (g2.wb (g1.wb wQw)))).up (by omega))⟩) (show TB h4 c aU U (k) from ⟨_, _, _, (g4.tf (g3.tf (g2.tf (g1.tf fU)))), ((g4.wb (g3.wb (g2.wb (g1.wb wUx)))).up (by omega)), ((g4.wb (g3.wb (g2.wb (g1.wb wUy)))).up (by omega)), ((g4.wb (g3.wb (g2.wb (g1.wb wUw)))).up (by omega))⟩) (by omega)) ?_
          rintro _ h5 ⟨g5, rfl⟩
          have G5 := G4.trans g5
          refine g_b_ne rfl (fun c59 => ?_) (fun c59 => ?_)
          · skip
            refine g_iconst rfl ?_
            refine g_zret rfl (by omega) ?_
            refine ⟨G5.mono (by omega), ?_⟩
            first
              | rfl
              | (refine (if_pos ?_).symm; refine ⟨?_, ?_, ?_, ?_, ?_, ?_⟩ <;> assumption)
              | (refine (if_neg fun q => ?_).symm; obtain ⟨q0, q1, q2, q3, q4, q5⟩ := q; contradiction)
              | (split <;> first | (refine (if_pos ?_).symm; refine ⟨?_, ?_, ?_, ?_, ?_, ?_⟩ <;> assumption) | (refine (if_neg fun q => ?_).symm; obtain ⟨q0, q1, q2, q3, q4, q5⟩ := q; contradiction))
          · skip
            refine g_aload_n rfl rfl ?_
            refine g_getR rfl (G5.cs.kd 10 (by omega) rfl) (G5.cs.rf 13 (by omega) rfl) ?_
            refine g_aload_n rfl rfl ?_
            refine g_aload rfl rfl ?_
            refine g_callVI [aO (some aR), aO (some aU)] [] rfl rfl rfl rfl (Nat.le_of_ble_eq_true rfl) (G5.cs.kd 6 (by omega) rfl) (p_areSame (by omega) G5.ci (show TB h5 c aR R (k) from ⟨_, _, _, (g5.tf (g4.tf (g3.tf (g2.tf (g1.tf fR))))), ((g5.wb (g4.wb (g3.wb (g2.wb (g1.wb wRx))))).up (by omega)), ((g5.wb (g4.wb (g3.wb (g2.wb (g1.wb wRy))))).up (by omega)), ((g5.wb (g4.wb (g3.wb (g2.wb (g1.wb wRw))))).up (by omega))⟩) (show TB h5 c aU U (k) from ⟨_, _, _, (g5.tf (g4.tf (g3.tf (g2.tf (g1.tf fU))))), ((g5.wb (g4.wb (g3.wb (g2.wb (g1.wb wUx))))).up (by omega)), ((g5.wb (g4.wb (g3.wb (g2.wb (g1.wb wUy))))).up (by omega)), ((g5.wb (g4.wb (g3.wb (g2.wb (g1.wb wUw))))).up (by omega))⟩) (by omega)) ?_
            rintro _ h6 ⟨g6, rfl⟩
            have G6 := G5.trans g6
            refine g_b_ne rfl (fun c72 => ?_) (fun c72 => ?_)
            · skip
              refine g_iconst rfl ?_
              refine g_zret rfl (by omega) ?_
              refine ⟨G6.mono (by omega), ?_⟩
              first
                | rfl
                | (refine (if_pos ?_).symm; refine ⟨?_, ?_, ?_, ?_, ?_, ?_⟩ <;> assumption)
                | (refine (if_neg fun q => ?_).symm; obtain ⟨q0, q1, q2, q3, q4, q5⟩ := q; contradiction)
                | (split <;> first | (refine (if_pos ?_).symm; refine ⟨?_, ?_, ?_, ?_, ?_, ?_⟩ <;> assumption) | (refine (if_neg fun q => ?_).symm; obtain ⟨q0, q1, q2, q3, q4, q5⟩ := q; contradiction))
            · skip
              refine g_iconst rfl ?_
              refine g_goto rfl ?_
              refine g_zret rfl (by omega) ?_
              refine ⟨G6.mono (by omega), ?_⟩
              first
                | rfl
                | (refine (if_pos ?_).symm; refine ⟨?_, ?_, ?_, ?_, ?_, ?_⟩ <;> assumption)
                | (refine (if_neg fun q => ?_).symm; obtain ⟨q0, q1, q2, q3, q4, q5⟩ := q; contradiction)
                | (split <;> first | (refine (if_pos ?_).symm; refine ⟨?_, ?_, ?_, ?_, ?_, ?_⟩ <;> assumption) | (refine (if_neg fun q => ?_).symm; obtain ⟨q0, q1, q2, q3, q4, q5⟩ := q; contradiction))
set_option maxHeartbeats 4000000 in
theorem o_onRing {w : aW} {d : Nat} (hd : 6 ≤ d) {h : aH} {c : Nat} (ci : CI h c) {aP : Nat} {P : T3} (tP : TB h c aP P (20)) {aR : Nat} {R : T4} (tR : QB h c aR R (180))  : WP w d 146 [aO (some (c + 10)), aO (some aP), aO (some aR)] h (RI (fun r h1 => Gr h h1 c 5 ∧ r = if ¬ P.2.2 = 0 ∧ p_inEq_S P R = 0 then 1 else 0)) := by
  obtain ⟨d, rfl⟩ : ∃ d1, d = d1 + 1 := ⟨d - 1, by omega⟩
  refine WP.enter (cd := cd_X6_isOnRing) rfl ?_
  have G0 := Gr.refl ci
  obtain ⟨Px, Py, Pw, fP, wPx, wPy, wPw⟩ := tP
  obtain ⟨Rk, Ra, Rb, Re, fR, wRk, wRa, wRb, wRe⟩ := tR
  have hls : largs 0 [aO (some (c + 10)), aO (some aP), aO (some aR)] = [(0, aO (some (c + 10))), (1, aO (some aP)), (2, aO (some aR))] := rfl
  rw [hls]
  clear hls
  refine g_aload_n rfl rfl ?_
  refine g_getR rfl (G0.cs.kd 10 (by omega) rfl) (G0.cs.rf 13 (by omega) rfl) ?_
  refine g_aload_n rfl rfl ?_
  refine g_callVI [aO (some aP)] [] rfl rfl rfl rfl (Nat.le_of_ble_eq_true rfl) (G0.cs.kd 6 (by omega) rfl) (p_isFar (by omega) G0.ci (show TB h c aP P (20) from ⟨_, _, _, fP, (wPx.up (by omega)), (wPy.up (by omega)), (wPw.up (by omega))⟩)) ?_
  rintro _ hx1 ⟨ehx1, rfl⟩
  rw [ehx1]
  clear ehx1 hx1
  refine g_b_ne rfl (fun c8 => ?_) (fun c8 => ?_)
  · skip
    refine g_iconst rfl ?_
    refine g_zret rfl (by omega) ?_
    refine ⟨G0.mono (by omega), ?_⟩
    first
      | rfl
      | (refine (if_pos ?_).symm; refine ⟨?_, ?_⟩ <;> assumption)
      | (refine (if_neg fun q => ?_).symm; obtain ⟨q0, q1⟩ := q; contradiction)
      | (split <;> first | (refine (if_pos ?_).symm; refine ⟨?_, ?_⟩ <;> assumption) | (refine (if_neg fun q => ?_).symm; obtain ⟨q0, q1⟩ := q; contradiction))
  · skip
    refine g_aload_n rfl rfl ?_
    refine g_getR rfl (G0.cs.kd 10 (by omega) rfl) (G0.cs.rf 12 (by omega) rfl) ?_
    refine g_aload_n rfl rfl ?_
    refine g_getR rfl (G0.cs.kd 10 (by omega) rfl) (G0.cs.rf 13 (by omega) rfl) ?_
    refine g_aload_n rfl rfl ?_
    refine g_aload_n rfl rfl ?_
    refine g_callVO [aO (some aP), aO (some aR)] [aO (some (c + 1))] rfl rfl rfl rfl (Nat.le_of_ble_eq_true rfl) (G0.cs.kd 6 (by omega) rfl) (p_inEq (by omega) G0.ci (show TB h c aP P (20) from ⟨_, _, _, fP, (wPx.up (by omega)), (wPy.up (by omega)), (wPw.up (by omega))⟩) (show QB h c aR R (180) from ⟨_, _, _, _, fR, (wRk.up (by omega)), (wRa.up (by omega)), (wRb.up (by omega)), (wRe.up (by omega))⟩)) ?_
    rintro _ h2 ⟨p2, rfl, g2, wp2⟩
    have G2 := G0.trans g2
    refine g_callVI [aO (some p2)] [] rfl rfl rfl rfl (Nat.le_of_ble_eq_true rfl) (G2.cs.kd 1 (by omega) rfl) (s_isZero (by omega) G2.ci wp2) ?_
    rintro _ hx3 ⟨ehx3, rfl⟩
    rw [ehx3]
    clear ehx3 hx3
    refine g_b_eq rfl (fun c27 => ?_) (fun c27 => ?_)
    · skip
      refine g_iconst rfl ?_
      refine g_zret rfl (by omega) ?_
      refine ⟨G2.mono (by omega), ?_⟩
      first
        | rfl
        | (refine (if_pos ?_).symm; refine ⟨?_, ?_⟩ <;> assumption)
        | (refine (if_neg fun q => ?_).symm; obtain ⟨q0, q1⟩ := q; contradiction)
        | (split <;> first | (refine (if_pos ?_).symm; refine ⟨?_, ?_⟩ <;> assumption) | (refine (if_neg fun q => ?_).symm; obtain ⟨q0, q1⟩ := q; contradiction))
    · skip
      refine g_iconst rfl ?_
      refine g_goto rfl ?_
      refine g_zret rfl (by omega) ?_
      refine ⟨G2.mono (by omega), ?_⟩
      first
        | rfl
        | (refine (if_pos ?_).symm; refine ⟨?_, ?_⟩ <;> assumption)
        | (refine (if_neg fun q => ?_).symm; obtain ⟨q0, q1⟩ := q; contradiction)
        | (split <;> first | (refine (if_pos ?_).symm; refine ⟨?_, ?_⟩ <;> assumption) | (refine (if_neg fun q => ?_).symm; obtain ⟨q0, q1⟩ := q; contradiction))
set_option maxHeartbeats 4000000 in
theorem o_within {w : aW} {d : Nat} (hd : 6 ≤ d) {h : aH} {c : Nat} (ci : CI h c) {aP : Nat} {P : T3} (tP : TB h c aP P (20)) {aR : Nat} {R : T4} (tR : QB h c aR R (20))  : WP w d 147 [aO (some (c + 10)), aO (some aP), aO (some aR)] h (RI (fun r h1 => Gr h h1 c 5 ∧ r = if ¬ P.2.2 = 0 ∧ lcmp (p_inEq_S P R) 0 < 0 then 1 else 0)) := by
  obtain ⟨d, rfl⟩ : ∃ d1, d = d1 + 1 := ⟨d - 1, by omega⟩
  refine WP.enter (cd := cd_X6_isWithin) rfl ?_
  have G0 := Gr.refl ci
  obtain ⟨Px, Py, Pw, fP, wPx, wPy, wPw⟩ := tP
  obtain ⟨Rk, Ra, Rb, Re, fR, wRk, wRa, wRb, wRe⟩ := tR
  have hls : largs 0 [aO (some (c + 10)), aO (some aP), aO (some aR)] = [(0, aO (some (c + 10))), (1, aO (some aP)), (2, aO (some aR))] := rfl
  rw [hls]
  clear hls
  refine g_aload_n rfl rfl ?_
  refine g_getR rfl (G0.cs.kd 10 (by omega) rfl) (G0.cs.rf 13 (by omega) rfl) ?_
  refine g_aload_n rfl rfl ?_
  refine g_callVI [aO (some aP)] [] rfl rfl rfl rfl (Nat.le_of_ble_eq_true rfl) (G0.cs.kd 6 (by omega) rfl) (p_isFar (by omega) G0.ci (show TB h c aP P (20) from ⟨_, _, _, fP, (wPx.up (by omega)), (wPy.up (by omega)), (wPw.up (by omega))⟩)) ?_
  rintro _ hx1 ⟨ehx1, rfl⟩
  rw [ehx1]
  clear ehx1 hx1
  refine g_b_ne rfl (fun c8 => ?_) (fun c8 => ?_)
  · skip
    refine g_iconst rfl ?_
    refine g_zret rfl (by omega) ?_
    refine ⟨G0.mono (by omega), ?_⟩
    first
      | rfl
      | (refine (if_pos ?_).symm; refine ⟨?_, ?_⟩ <;> assumption)
      | (refine (if_neg fun q => ?_).symm; obtain ⟨q0, q1⟩ := q; contradiction)
      | (refine (if_neg fun q => ?_).symm; obtain ⟨q0, q1⟩ := q; omega)
      | (split <;> first | (refine (if_pos ?_).symm; refine ⟨?_, ?_⟩ <;> assumption) | (refine (if_neg fun q => ?_).symm; obtain ⟨q0, q1⟩ := q; contradiction))
  · skip
    refine g_aload_n rfl rfl ?_
    refine g_getR rfl (G0.cs.kd 10 (by omega) rfl) (G0.cs.rf 12 (by omega) rfl) ?_
    refine g_aload_n rfl rfl ?_
    refine g_getR rfl (G0.cs.kd 10 (by omega) rfl) (G0.cs.rf 13 (by omega) rfl) ?_
    refine g_aload_n rfl rfl ?_
    refine g_aload_n rfl rfl ?_
    refine g_callVO [aO (some aP), aO (some aR)] [aO (some (c + 1))] rfl rfl rfl rfl (Nat.le_of_ble_eq_true rfl) (G0.cs.kd 6 (by omega) rfl) (p_inEq (by omega) G0.ci (show TB h c aP P (20) from ⟨_, _, _, fP, (wPx.up (by omega)), (wPy.up (by omega)), (wPw.up (by omega))⟩) (show QB h c aR R (180) from ⟨_, _, _, _, fR, (wRk.up (by omega)), (wRa.up (by omega)), (wRb.up (by omega)), (wRe.up (by omega))⟩)) ?_
    rintro _ h2 ⟨p2, rfl, g2, wp2⟩
    have G2 := G0.trans g2
    refine g_callVI [aO (some p2)] [] rfl rfl rfl rfl (Nat.le_of_ble_eq_true rfl) (G2.cs.kd 1 (by omega) rfl) (s_sign (by omega) G2.ci wp2) ?_
    rintro _ hx3 ⟨ehx3, rfl⟩
    rw [ehx3]
    clear ehx3 hx3
    refine g_if_ge rfl (fun c27 => ?_) (fun c27 => ?_)
    · skip
      refine g_iconst rfl ?_
      refine g_zret rfl (by omega) ?_
      refine ⟨G2.mono (by omega), ?_⟩
      first
        | rfl
        | (refine (if_pos ?_).symm; refine ⟨?_, ?_⟩ <;> assumption)
        | (refine (if_neg fun q => ?_).symm; obtain ⟨q0, q1⟩ := q; contradiction)
        | (refine (if_neg fun q => ?_).symm; obtain ⟨q0, q1⟩ := q; omega)
        | (split <;> first | (refine (if_pos ?_).symm; refine ⟨?_, ?_⟩ <;> assumption) | (refine (if_neg fun q => ?_).symm; obtain ⟨q0, q1⟩ := q; contradiction))
    · skip
      refine g_iconst rfl ?_
      refine g_goto rfl ?_
      refine g_zret rfl (by omega) ?_
      refine ⟨G2.mono (by omega), ?_⟩
      first
        | rfl
        | (refine (if_pos ?_).symm; refine ⟨?_, ?_⟩ <;> assumption)
        | (refine (if_neg fun q => ?_).symm; obtain ⟨q0, q1⟩ := q; contradiction)
        | (refine (if_neg fun q => ?_).symm; obtain ⟨q0, q1⟩ := q; omega)
        | (split <;> first | (refine (if_pos ?_).symm; refine ⟨?_, ?_⟩ <;> assumption) | (refine (if_neg fun q => ?_).symm; obtain ⟨q0, q1⟩ := q; contradiction))
set_option maxHeartbeats 4000000 in
theorem o_left {w : aW} {d : Nat} (hd : 6 ≤ d) {h : aH} {c : Nat} (ci : CI h c) {aP : Nat} {P : T3} (tP : TB h c aP P (20)) {aQ : Nat} {Q : T3} (tQ : TB h c aQ Q (20)) {aR : Nat} {R : T3} (tR : TB h c aR R (20))  : WP w d 148 [aO (some (c + 10)), aO (some aP), aO (some aQ), aO (some aR)] h (RI (fun r h1 => Gr h h1 c 10 ∧ r = if ¬(P.2.2 = 0 ∨ Q.2.2 = 0 ∨ R.2.2 = 0) ∧ 0 < lcmp (p_det_S P Q R) 0 then 1 else 0)) := by
  obtain ⟨d, rfl⟩ : ∃ d1, d = d1 + 1 := ⟨d - 1, by omega⟩
  refine WP.enter (cd := cd_X6_turnsLeft) rfl ?_
  have G0 := Gr.refl ci
  obtain ⟨Px, Py, Pw, fP, wPx, wPy, wPw⟩ := tP
  obtain ⟨Qx, Qy, Qw, fQ, wQx, wQy, wQw⟩ := tQ
  obtain ⟨Rx, Ry, Rw, fR, wRx, wRy, wRw⟩ := tR
  have hls : largs 0 [aO (some (c + 10)), aO (some aP), aO (some aQ), aO (some aR)] = [(0, aO (some (c + 10))), (1, aO (some aP)), (2, aO (some aQ)), (3, aO (some aR))] := rfl
  rw [hls]
  clear hls
  refine g_aload_n rfl rfl ?_
  refine g_getR rfl (G0.cs.kd 10 (by omega) rfl) (G0.cs.rf 13 (by omega) rfl) ?_
  refine g_aload_n rfl rfl ?_
  refine g_aload_n rfl rfl ?_
  refine g_aload_n rfl rfl ?_
  refine g_callVI [aO (some aP), aO (some aQ), aO (some aR)] [] rfl rfl rfl rfl (Nat.le_of_ble_eq_true rfl) (G0.cs.kd 6 (by omega) rfl) (p_isOneFar (by omega) G0.ci (show TB h c aP P (20) from ⟨_, _, _, fP, (wPx.up (by omega)), (wPy.up (by omega)), (wPw.up (by omega))⟩) (show TB h c aQ Q (20) from ⟨_, _, _, fQ, (wQx.up (by omega)), (wQy.up (by omega)), (wQw.up (by omega))⟩) (show TB h c aR R (20) from ⟨_, _, _, fR, (wRx.up (by omega)), (wRy.up (by omega)), (wRw.up (by omega))⟩)) ?_
  rintro _ hx1 ⟨ehx1, rfl⟩
  rw [ehx1]
  clear ehx1 hx1
  refine g_b_ne rfl (fun c10 => ?_) (fun c10 => ?_)
  · skip
    refine g_iconst rfl ?_
    refine g_zret rfl (by omega) ?_
    refine ⟨G0.mono (by omega), ?_⟩
    first
      | rfl
      | (refine (if_pos ?_).symm; refine ⟨?_, ?_⟩ <;> assumption)
      | (refine (if_neg fun q => ?_).symm; obtain ⟨q0, q1⟩ := q; contradiction)
      | (refine (if_neg fun q => ?_).symm; obtain ⟨q0, q1⟩ := q; omega)
      | (split <;> first | (refine (if_pos ?_).symm; refine ⟨?_, ?_⟩ <;> assumption) | (refine (if_neg fun q => ?_).symm; obtain ⟨q0, q1⟩ := q; contradiction))
  · skip
    refine g_aload_n rfl rfl ?_
    refine g_getR rfl (G0.cs.kd 10 (by omega) rfl) (G0.cs.rf 12 (by omega) rfl) ?_
    refine g_aload_n rfl rfl ?_
    refine g_getR rfl (G0.cs.kd 10 (by omega) rfl) (G0.cs.rf 13 (by omega) rfl) ?_
    refine g_aload_n rfl rfl ?_
    refine g_aload_n rfl rfl ?_
    refine g_aload_n rfl rfl ?_
    refine g_callVO [aO (some aP), aO (some aQ), aO (some aR)] [aO (some (c + 1))] rfl rfl rfl rfl (Nat.le_of_ble_eq_true rfl) (G0.cs.kd 6 (by omega) rfl) (p_det (by omega) G0.ci (show TB h c aP P (20) from ⟨_, _, _, fP, (wPx.up (by omega)), (wPy.up (by omega)), (wPw.up (by omega))⟩) (show TB h c aQ Q (20) from ⟨_, _, _, fQ, (wQx.up (by omega)), (wQy.up (by omega)), (wQw.up (by omega))⟩) (show TB h c aR R (20) from ⟨_, _, _, fR, (wRx.up (by omega)), (wRy.up (by omega)), (wRw.up (by omega))⟩) (by omega)) ?_
    rintro _ h2 ⟨p2, rfl, g2, wp2⟩
    have G2 := G0.trans g2
    refine g_callVI [aO (some p2)] [] rfl rfl rfl rfl (Nat.le_of_ble_eq_true rfl) (G2.cs.kd 1 (by omega) rfl) (s_sign (by omega) G2.ci wp2) ?_
    rintro _ hx3 ⟨ehx3, rfl⟩
    rw [ehx3]
    clear ehx3 hx3
    refine g_if_le rfl (fun c30 => ?_) (fun c30 => ?_)
    · skip
      refine g_iconst rfl ?_
      refine g_zret rfl (by omega) ?_
      refine ⟨G2.mono (by omega), ?_⟩
      first
        | rfl
        | (refine (if_pos ?_).symm; refine ⟨?_, ?_⟩ <;> assumption)
        | (refine (if_neg fun q => ?_).symm; obtain ⟨q0, q1⟩ := q; contradiction)
        | (refine (if_neg fun q => ?_).symm; obtain ⟨q0, q1⟩ := q; omega)
        | (split <;> first | (refine (if_pos ?_).symm; refine ⟨?_, ?_⟩ <;> assumption) | (refine (if_neg fun q => ?_).symm; obtain ⟨q0, q1⟩ := q; contradiction))
    · skip
      refine g_iconst rfl ?_
      refine g_goto rfl ?_
      refine g_zret rfl (by omega) ?_
      refine ⟨G2.mono (by omega), ?_⟩
      first
        | rfl
        | (refine (if_pos ?_).symm; refine ⟨?_, ?_⟩ <;> assumption)
        | (refine (if_neg fun q => ?_).symm; obtain ⟨q0, q1⟩ := q; contradiction)
        | (refine (if_neg fun q => ?_).symm; obtain ⟨q0, q1⟩ := q; omega)
        | (split <;> first | (refine (if_pos ?_).symm; refine ⟨?_, ?_⟩ <;> assumption) | (refine (if_neg fun q => ?_).symm; obtain ⟨q0, q1⟩ := q; contradiction))
set_option maxHeartbeats 4000000 in
theorem o_touches {w : aW} {d : Nat} (hd : 6 ≤ d) {h : aH} {c : Nat} (ci : CI h c) {aL : Nat} {L : T3} (tL : TB h c aL L (20)) {aR : Nat} {R : T4} (tR : QB h c aR R (20))  : WP w d 152 [aO (some (c + 10)), aO (some aL), aO (some aR)] h (RI (fun r h1 => Gr h h1 c 12 ∧ r = if ¬(L.1 = 0 ∧ L.2.1 = 0) ∧ p_depth_S L R = 0 then 1 else 0)) := by
  obtain ⟨d, rfl⟩ : ∃ d1, d = d1 + 1 := ⟨d - 1, by omega⟩
  refine WP.enter (cd := cd_X6_touches) rfl ?_
  have G0 := Gr.refl ci
  obtain ⟨Lx, Ly, Lw, fL, wLx, wLy, wLw⟩ := tL
  obtain ⟨Rk, Ra, Rb, Re, fR, wRk, wRa, wRb, wRe⟩ := tR
  have hls : largs 0 [aO (some (c + 10)), aO (some aL), aO (some aR)] = [(0, aO (some (c + 10))), (1, aO (some aL)), (2, aO (some aR))] := rfl
  rw [hls]
  clear hls
  refine g_aload_n rfl rfl ?_
  refine g_getR rfl (G0.cs.kd 10 (by omega) rfl) (G0.cs.rf 13 (by omega) rfl) ?_
  refine g_aload_n rfl rfl ?_
  refine g_callVI [aO (some aL)] [] rfl rfl rfl rfl (Nat.le_of_ble_eq_true rfl) (G0.cs.kd 6 (by omega) rfl) (p_hasAllFar (by omega) G0.ci (show TB h c aL L (20) from ⟨_, _, _, fL, (wLx.up (by omega)), (wLy.up (by omega)), (wLw.up (by omega))⟩)) ?_
  rintro _ hx1 ⟨ehx1, rfl⟩
  rw [ehx1]
  clear ehx1 hx1
  refine g_b_ne rfl (fun c8 => ?_) (fun c8 => ?_)
  · skip
    refine g_iconst rfl ?_
    refine g_zret rfl (by omega) ?_
    refine ⟨G0.mono (by omega), ?_⟩
    first
      | rfl
      | (refine (if_pos ?_).symm; refine ⟨?_, ?_⟩ <;> assumption)
      | (refine (if_neg fun q => ?_).symm; obtain ⟨q0, q1⟩ := q; contradiction)
      | (split <;> first | (refine (if_pos ?_).symm; refine ⟨?_, ?_⟩ <;> assumption) | (refine (if_neg fun q => ?_).symm; obtain ⟨q0, q1⟩ := q; contradiction))
  · skip
    refine g_aload_n rfl rfl ?_
    refine g_getR rfl (G0.cs.kd 10 (by omega) rfl) (G0.cs.rf 12 (by omega) rfl) ?_
    refine g_aload_n rfl rfl ?_
    refine g_getR rfl (G0.cs.kd 10 (by omega) rfl) (G0.cs.rf 13 (by omega) rfl) ?_
    refine g_aload_n rfl rfl ?_
    refine g_aload_n rfl rfl ?_
    refine g_callVO [aO (some aL), aO (some aR)] [aO (some (c + 1))] rfl rfl rfl rfl (Nat.le_of_ble_eq_true rfl) (G0.cs.kd 6 (by omega) rfl) (p_depth (by omega) G0.ci (show TB h c aL L (20) from ⟨_, _, _, fL, (wLx.up (by omega)), (wLy.up (by omega)), (wLw.up (by omega))⟩) (show QB h c aR R (20) from ⟨_, _, _, _, fR, (wRk.up (by omega)), (wRa.up (by omega)), (wRb.up (by omega)), (wRe.up (by omega))⟩) (by omega)) ?_
    rintro _ h2 ⟨p2, rfl, g2, wp2⟩
    have G2 := G0.trans g2
    refine g_callVI [aO (some p2)] [] rfl rfl rfl rfl (Nat.le_of_ble_eq_true rfl) (G2.cs.kd 1 (by omega) rfl) (s_isZero (by omega) G2.ci wp2) ?_
    rintro _ hx3 ⟨ehx3, rfl⟩
    rw [ehx3]
    clear ehx3 hx3
    refine g_b_eq rfl (fun c27 => ?_) (fun c27 => ?_)
    · skip
      refine g_iconst rfl ?_
      refine g_zret rfl (by omega) ?_
      refine ⟨G2.mono (by omega), ?_⟩
      first
        | rfl
        | (refine (if_pos ?_).symm; refine ⟨?_, ?_⟩ <;> assumption)
        | (refine (if_neg fun q => ?_).symm; obtain ⟨q0, q1⟩ := q; contradiction)
        | (split <;> first | (refine (if_pos ?_).symm; refine ⟨?_, ?_⟩ <;> assumption) | (refine (if_neg fun q => ?_).symm; obtain ⟨q0, q1⟩ := q; contradiction))
    · skip
      refine g_iconst rfl ?_
      refine g_goto rfl ?_
      refine g_zret rfl (by omega) ?_
      refine ⟨G2.mono (by omega), ?_⟩
      first
        | rfl
        | (refine (if_pos ?_).symm; refine ⟨?_, ?_⟩ <;> assumption)
        | (refine (if_neg fun q => ?_).symm; obtain ⟨q0, q1⟩ := q; contradiction)
        | (split <;> first | (refine (if_pos ?_).symm; refine ⟨?_, ?_⟩ <;> assumption) | (refine (if_neg fun q => ?_).symm; obtain ⟨q0, q1⟩ := q; contradiction))
set_option maxHeartbeats 4000000 in
theorem o_rtouch {w : aW} {d : Nat} (hd : 6 ≤ d) {h : aH} {c : Nat} (ci : CI h c) {aR : Nat} {R : T4} (tR : QB h c aR R (20)) {aU : Nat} {U : T4} (tU : QB h c aU U (20))  : WP w d 153 [aO (some (c + 10)), aO (some aR), aO (some aU)] h (RI (fun r h1 => Gr h h1 c 19 ∧ r = if ¬(U.1 * R.2.1 - R.1 * U.2.1 = 0 ∧ U.1 * R.2.2.1 - R.1 * U.2.2.1 = 0) ∧ p_depth_S (p_power_S R U) R = 0 then 1 else 0)) := by
  obtain ⟨d, rfl⟩ : ∃ d1, d = d1 + 1 := ⟨d - 1, by omega⟩
  refine WP.enter (cd := cd_X6_ringsTouch) rfl ?_
  have G0 := Gr.refl ci
  obtain ⟨Rk, Ra, Rb, Re, fR, wRk, wRa, wRb, wRe⟩ := tR
  obtain ⟨Uk, Ua, Ub, Ue, fU, wUk, wUa, wUb, wUe⟩ := tU
  have hls : largs 0 [aO (some (c + 10)), aO (some aR), aO (some aU)] = [(0, aO (some (c + 10))), (1, aO (some aR)), (2, aO (some aU))] := rfl
  rw [hls]
  clear hls
  refine g_aload_n rfl rfl ?_
  refine g_getR rfl (G0.cs.kd 10 (by omega) rfl) (G0.cs.rf 13 (by omega) rfl) ?_
  refine g_aload_n rfl rfl ?_
  refine g_aload_n rfl rfl ?_
  refine g_callVO [aO (some aR), aO (some aU)] [] rfl rfl rfl rfl (Nat.le_of_ble_eq_true rfl) (G0.cs.kd 6 (by omega) rfl) (p_power (by omega) G0.ci (show QB h c aR R (20) from ⟨_, _, _, _, fR, (wRk.up (by omega)), (wRa.up (by omega)), (wRb.up (by omega)), (wRe.up (by omega))⟩) (show QB h c aU U (20) from ⟨_, _, _, _, fU, (wUk.up (by omega)), (wUa.up (by omega)), (wUb.up (by omega)), (wUe.up (by omega))⟩)) ?_
  rintro r1 h1 ⟨g1, q1⟩
  have G1 := G0.trans g1
  cases eS1 : p_power_O R U with
  | none =>
    rw [eS1] at q1
    obtain rfl : r1 = none := q1
    have cn1 : U.1 * R.2.1 - R.1 * U.2.1 = 0 ∧ U.1 * R.2.2.1 - R.1 * U.2.2.1 = 0 := ifn (a := p_power_S R U) eS1
    refine g_astore_n (l1 := [(3, aO none), (0, aO (some (c + 10))), (1, aO (some aR)), (2, aO (some aU))]) rfl rfl ?_
    refine g_aload_n rfl rfl ?_
    refine g_ifnull_t rfl ?_
    refine g_iconst rfl ?_
    refine g_zret rfl (by omega) ?_
    refine ⟨G1.mono (by omega), ?_⟩
    first
      | rfl
      | (refine (if_pos ?_).symm; refine ⟨?_, ?_⟩ <;> assumption)
      | (refine (if_neg fun q => ?_).symm; obtain ⟨q0, q1⟩ := q; contradiction)
      | (split <;> first | (refine (if_pos ?_).symm; refine ⟨?_, ?_⟩ <;> assumption) | (refine (if_neg fun q => ?_).symm; obtain ⟨q0, q1⟩ := q; contradiction))
  | some P1 =>
    rw [eS1] at q1
    obtain ⟨cs1, ep1⟩ := ifs (c := U.1 * R.2.1 - R.1 * U.2.1 = 0 ∧ U.1 * R.2.2.1 - R.1 * U.2.2.1 = 0) (a := p_power_S R U) eS1
    subst ep1
    obtain ⟨p1, rfl, p1x, p1y, p1w, f1, wp1x, wp1y, wp1w⟩ := q1
    refine g_astore_n (l1 := [(3, aO (some p1)), (0, aO (some (c + 10))), (1, aO (some aR)), (2, aO (some aU))]) rfl rfl ?_
    refine g_aload_n rfl rfl ?_
    refine g_ifnull_f rfl ?_
    refine g_aload_n rfl rfl ?_
    refine g_getR rfl (G1.cs.kd 10 (by omega) rfl) (G1.cs.rf 12 (by omega) rfl) ?_
    refine g_aload_n rfl rfl ?_
    refine g_getR rfl (G1.cs.kd 10 (by omega) rfl) (G1.cs.rf 13 (by omega) rfl) ?_
    refine g_aload_n rfl rfl ?_
    refine g_aload_n rfl rfl ?_
    refine g_callVO [aO (some p1), aO (some aR)] [aO (some (c + 1))] rfl rfl rfl rfl (Nat.le_of_ble_eq_true rfl) (G1.cs.kd 6 (by omega) rfl) (p_depth (by omega) G1.ci (show TB h1 c p1 (p_power_S R U) (41) from ⟨_, _, _, f1, (wp1x.up (by omega)), (wp1y.up (by omega)), (wp1w.up (by omega))⟩) (show QB h1 c aR R (20) from ⟨_, _, _, _, (g1.rf fR), ((g1.wb wRk).up (by omega)), ((g1.wb wRa).up (by omega)), ((g1.wb wRb).up (by omega)), ((g1.wb wRe).up (by omega))⟩) (by omega)) ?_
    rintro _ h2 ⟨p2, rfl, g2, wp2⟩
    have G2 := G1.trans g2
    refine g_callVI [aO (some p2)] [] rfl rfl rfl rfl (Nat.le_of_ble_eq_true rfl) (G2.cs.kd 1 (by omega) rfl) (s_isZero (by omega) G2.ci wp2) ?_
    rintro _ hx3 ⟨ehx3, rfl⟩
    rw [ehx3]
    clear ehx3 hx3
    refine g_b_eq rfl (fun c30 => ?_) (fun c30 => ?_)
    · skip
      refine g_iconst rfl ?_
      refine g_zret rfl (by omega) ?_
      refine ⟨G2.mono (by omega), ?_⟩
      first
        | rfl
        | (refine (if_pos ?_).symm; refine ⟨?_, ?_⟩ <;> assumption)
        | (refine (if_neg fun q => ?_).symm; obtain ⟨q0, q1⟩ := q; contradiction)
        | (split <;> first | (refine (if_pos ?_).symm; refine ⟨?_, ?_⟩ <;> assumption) | (refine (if_neg fun q => ?_).symm; obtain ⟨q0, q1⟩ := q; contradiction))
    · skip
      refine g_iconst rfl ?_
      refine g_goto rfl ?_
      refine g_zret rfl (by omega) ?_
      refine ⟨G2.mono (by omega), ?_⟩
      first
        | rfl
        | (refine (if_pos ?_).symm; refine ⟨?_, ?_⟩ <;> assumption)
        | (refine (if_neg fun q => ?_).symm; obtain ⟨q0, q1⟩ := q; contradiction)
        | (split <;> first | (refine (if_pos ?_).symm; refine ⟨?_, ?_⟩ <;> assumption) | (refine (if_neg fun q => ?_).symm; obtain ⟨q0, q1⟩ := q; contradiction))
set_option maxHeartbeats 4000000 in
theorem o_rsq {w : aW} {d : Nat} (hd : 4 ≤ d) {h : aH} {c : Nat} (ci : CI h c) {aR : Nat} {R : T4} (tR : QB h c aR R (20)) {aU : Nat} {U : T4} (tU : QB h c aU U (20))  : WP w d 154 [aO (some (c + 10)), aO (some aR), aO (some aU)] h (RI (fun r h1 => Gr h h1 c 3 ∧ r = if R.2.1 * U.2.1 + R.2.2.1 * U.2.2.1 = 2 * (R.2.2.2 * U.1 + U.2.2.2 * R.1) then 1 else 0)) := by
  obtain ⟨d, rfl⟩ : ∃ d1, d = d1 + 1 := ⟨d - 1, by omega⟩
  refine WP.enter (cd := cd_X6_areRingsSquare) rfl ?_
  have G0 := Gr.refl ci
  obtain ⟨Rk, Ra, Rb, Re, fR, wRk, wRa, wRb, wRe⟩ := tR
  obtain ⟨Uk, Ua, Ub, Ue, fU, wUk, wUa, wUb, wUe⟩ := tU
  have hls : largs 0 [aO (some (c + 10)), aO (some aR), aO (some aU)] = [(0, aO (some (c + 10))), (1, aO (some aR)), (2, aO (some aU))] := rfl
  rw [hls]
  clear hls
  refine g_aload_n rfl rfl ?_
  refine g_getR rfl (G0.cs.kd 10 (by omega) rfl) (G0.cs.rf 12 (by omega) rfl) ?_
  refine g_aload_n rfl rfl ?_
  refine g_getR rfl (G0.cs.kd 10 (by omega) rfl) (G0.cs.rf 12 (by omega) rfl) ?_
  refine g_aload_n rfl rfl ?_
  refine g_getR rfl fR.1.2.2 fR.2.2.1 ?_
  refine g_aload_n rfl rfl ?_
  refine g_getR rfl fU.1.2.2 fU.2.2.1 ?_
  refine g_aload_n rfl rfl ?_
  refine g_getR rfl fR.1.2.2 fR.2.2.2.1 ?_
  refine g_aload_n rfl rfl ?_
  refine g_getR rfl fU.1.2.2 fU.2.2.2.1 ?_
  refine g_callVO [aO (some Ra), aO (some Ua), aO (some Rb), aO (some Ub)] [aO (some (c + 1))] rfl rfl rfl rfl (Nat.le_of_ble_eq_true rfl) (G0.cs.kd 1 (by omega) rfl) (s_added (by omega) G0.ci wRa wUa wRb wUb (41) (by omega) (by omega) (by omega)) ?_
  rintro _ h1 ⟨p1, rfl, g1, wp1⟩
  have G1 := G0.trans g1
  refine g_aload_n rfl rfl ?_
  refine g_getR rfl (G1.cs.kd 10 (by omega) rfl) (G1.cs.rf 12 (by omega) rfl) ?_
  refine g_aload_n rfl rfl ?_
  refine g_getR rfl (G1.cs.kd 10 (by omega) rfl) (G1.cs.rf 12 (by omega) rfl) ?_
  refine g_aload_n rfl rfl ?_
  refine g_getR rfl (g1.rf fR).1.2.2 (g1.rf fR).2.2.2.2 ?_
  refine g_aload_n rfl rfl ?_
  refine g_getR rfl (g1.rf fU).1.2.2 (g1.rf fU).2.1 ?_
  refine g_aload_n rfl rfl ?_
  refine g_getR rfl (g1.rf fU).1.2.2 (g1.rf fU).2.2.2.2 ?_
  refine g_aload_n rfl rfl ?_
  refine g_getR rfl (g1.rf fR).1.2.2 (g1.rf fR).2.1 ?_
  refine g_callVO [aO (some Re), aO (some Uk), aO (some Ue), aO (some Rk)] [aO (some (c + 1)), aO (some p1), aO (some (c + 1))] rfl rfl rfl rfl (Nat.le_of_ble_eq_true rfl) (G1.cs.kd 1 (by omega) rfl) (s_added (by omega) G1.ci (g1.wb wRe) (g1.wb wUk) (g1.wb wUe) (g1.wb wRk) (41) (by omega) (by omega) (by omega)) ?_
  rintro _ h2 ⟨p2, rfl, g2, wp2⟩
  have G2 := G1.trans g2
  refine g_callVO [aO (some p2)] [aO (some p1), aO (some (c + 1))] rfl rfl rfl rfl (Nat.le_of_ble_eq_true rfl) (G2.cs.kd 1 (by omega) rfl) (s_twice (by omega) G2.ci wp2 (by omega)) ?_
  rintro _ h3 ⟨p3, rfl, g3, wp3⟩
  have G3 := G2.trans g3
  refine g_callVI [aO (some p1), aO (some p3)] [] rfl rfl rfl rfl (Nat.le_of_ble_eq_true rfl) (G3.cs.kd 1 (by omega) rfl) (s_areEqual (by omega) G3.ci (g3.wb (g2.wb wp1)) wp3) ?_
  rintro _ hx4 ⟨ehx4, rfl⟩
  rw [ehx4]
  clear ehx4 hx4
  refine g_zret rfl (by omega) ?_
  refine ⟨G3.mono (by omega), ?_⟩
  first
    | rfl
    | (refine (if_pos ?_).symm; assumption)
    | (refine (if_neg fun q => ?_).symm; contradiction)
    | (split <;> first | (refine (if_pos ?_).symm; assumption) | (refine (if_neg fun q => ?_).symm; contradiction))
set_option maxHeartbeats 4000000 in
theorem o_pole {w : aW} {d : Nat} (hd : 6 ≤ d) {h : aH} {c : Nat} (ci : CI h c) {aL : Nat} {L : T3} (tL : TB h c aL L (20)) {aK : Nat} {K : T3} (tK : TB h c aK K (20)) {aR : Nat} {R : T4} (tR : QB h c aR R (20))  : WP w d 155 [aO (some (c + 10)), aO (some aL), aO (some aK), aO (some aR)] h (RI (fun r h1 => Gr h h1 c 19 ∧ r = if p_dot_S (p_pole_S L R) K = 0 then 1 else 0)) := by
  obtain ⟨d, rfl⟩ : ∃ d1, d = d1 + 1 := ⟨d - 1, by omega⟩
  refine WP.enter (cd := cd_X6_isPoleOn) rfl ?_
  have G0 := Gr.refl ci
  obtain ⟨Lx, Ly, Lw, fL, wLx, wLy, wLw⟩ := tL
  obtain ⟨Kx, Ky, Kw, fK, wKx, wKy, wKw⟩ := tK
  obtain ⟨Rk, Ra, Rb, Re, fR, wRk, wRa, wRb, wRe⟩ := tR
  have hls : largs 0 [aO (some (c + 10)), aO (some aL), aO (some aK), aO (some aR)] = [(0, aO (some (c + 10))), (1, aO (some aL)), (2, aO (some aK)), (3, aO (some aR))] := rfl
  rw [hls]
  clear hls
  refine g_aload_n rfl rfl ?_
  refine g_getR rfl (G0.cs.kd 10 (by omega) rfl) (G0.cs.rf 12 (by omega) rfl) ?_
  refine g_aload_n rfl rfl ?_
  refine g_getR rfl (G0.cs.kd 10 (by omega) rfl) (G0.cs.rf 13 (by omega) rfl) ?_
  refine g_aload_n rfl rfl ?_
  refine g_getR rfl (G0.cs.kd 10 (by omega) rfl) (G0.cs.rf 13 (by omega) rfl) ?_
  refine g_aload_n rfl rfl ?_
  refine g_aload_n rfl rfl ?_
  refine g_callVO [aO (some aL), aO (some aR)] [aO (some (c + 6)), aO (some (c + 1))] rfl rfl rfl rfl (Nat.le_of_ble_eq_true rfl) (G0.cs.kd 6 (by omega) rfl) (p_pole (by omega) G0.ci (show TB h c aL L (20) from ⟨_, _, _, fL, (wLx.up (by omega)), (wLy.up (by omega)), (wLw.up (by omega))⟩) (show QB h c aR R (20) from ⟨_, _, _, _, fR, (wRk.up (by omega)), (wRa.up (by omega)), (wRb.up (by omega)), (wRe.up (by omega))⟩)) ?_
  rintro _ h1 ⟨p1, rfl, g1, p1x, p1y, p1w, f1, wp1x, wp1y, wp1w⟩
  have G1 := G0.trans g1
  refine g_aload_n rfl rfl ?_
  refine g_callVO [aO (some p1), aO (some aK)] [aO (some (c + 1))] rfl rfl rfl rfl (Nat.le_of_ble_eq_true rfl) (G1.cs.kd 6 (by omega) rfl) (p_dot (by omega) G1.ci (show TB h1 c p1 (p_pole_S L R) (64) from ⟨_, _, _, f1, (wp1x.up (by omega)), (wp1y.up (by omega)), (wp1w.up (by omega))⟩) (show TB h1 c aK K (64) from ⟨_, _, _, (g1.tf fK), ((g1.wb wKx).up (by omega)), ((g1.wb wKy).up (by omega)), ((g1.wb wKw).up (by omega))⟩) (by omega)) ?_
  rintro _ h2 ⟨p2, rfl, g2, wp2⟩
  have G2 := G1.trans g2
  refine g_callVI [aO (some p2)] [] rfl rfl rfl rfl (Nat.le_of_ble_eq_true rfl) (G2.cs.kd 1 (by omega) rfl) (s_isZero (by omega) G2.ci wp2) ?_
  rintro _ hx3 ⟨ehx3, rfl⟩
  rw [ehx3]
  clear ehx3 hx3
  refine g_zret rfl (by omega) ?_
  refine ⟨G2.mono (by omega), ?_⟩
  first
    | rfl
    | (refine (if_pos ?_).symm; assumption)
    | (refine (if_neg fun q => ?_).symm; contradiction)
    | (split <;> first | (refine (if_pos ?_).symm; assumption) | (refine (if_neg fun q => ?_).symm; contradiction))
set_option maxHeartbeats 4000000 in
theorem o_asFar {w : aW} {d : Nat} (hd : 6 ≤ d) {h : aH} {c : Nat} (ci : CI h c) {S : aS} (xt : XT h c S) (ok : OkT S) (a : Int) (ha : 0 ≤ a ∧ a < sT S) (b : Int) (hb : 0 ≤ b ∧ b < sT S) (e : Int) (he : 0 ≤ e ∧ e < sT S) (f : Int) (hf : 0 ≤ f ∧ f < sT S)  : WP w d 149 [aO (some (c + 10)), aI a, aI b, aI e, aI f] h (RI (fun r h1 => Gr h h1 c 34 ∧ r = if ¬((tpT S a).2.2 = 0 ∨ (tpT S b).2.2 = 0) ∧ ¬((tpT S e).2.2 = 0 ∨ (tpT S f).2.2 = 0) ∧ (p_way_S (tpT S a) (tpT S b)).1 * (p_way_S (tpT S e) (tpT S f)).2.2 = (p_way_S (tpT S e) (tpT S f)).1 * (p_way_S (tpT S a) (tpT S b)).2.2 then 1 else 0)) := by
  obtain ⟨d, rfl⟩ : ∃ d1, d = d1 + 1 := ⟨d - 1, by omega⟩
  refine WP.enter (cd := cd_X6_areAsFar) rfl ?_
  have G0 := Gr.refl ci
  have hls : largs 0 [aO (some (c + 10)), aI a, aI b, aI e, aI f] = [(0, aO (some (c + 10))), (1, aI a), (2, aI b), (3, aI e), (4, aI f)] := rfl
  rw [hls]
  clear hls
  refine g_aload_n rfl rfl ?_
  refine g_getR rfl (G0.cs.kd 10 (by omega) rfl) (G0.cs.rf 13 (by omega) rfl) ?_
  refine g_aload_n rfl rfl ?_
  refine g_getR rfl (G0.cs.kd 10 (by omega) rfl) (G0.cs.rf 14 (by omega) rfl) ?_
  refine g_iload_n rfl rfl ?_
  refine g_callVO [aI a] [aO (some (c + 6))] rfl rfl rfl rfl (Nat.le_of_ble_eq_true rfl) (G0.cs.kd 7 (by omega) rfl) (t_triple (by omega) G0.ci xt ok a ha) ?_
  rintro _ h1 ⟨p1, rfl, g1, p1x, p1y, p1w, f1, wp1x, wp1y, wp1w⟩
  have G1 := G0.trans g1
  refine g_aload_n rfl rfl ?_
  refine g_getR rfl (G1.cs.kd 10 (by omega) rfl) (G1.cs.rf 14 (by omega) rfl) ?_
  refine g_iload_n rfl rfl ?_
  refine g_callVO [aI b] [aO (some p1), aO (some (c + 6))] rfl rfl rfl rfl (Nat.le_of_ble_eq_true rfl) (G1.cs.kd 7 (by omega) rfl) (t_triple (by omega) G1.ci (g1.xt G0.ci xt) ok b hb) ?_
  rintro _ h2 ⟨p2, rfl, g2, p2x, p2y, p2w, f2, wp2x, wp2y, wp2w⟩
  have G2 := G1.trans g2
  refine g_callVO [aO (some p1), aO (some p2)] [] rfl rfl rfl rfl (Nat.le_of_ble_eq_true rfl) (G2.cs.kd 6 (by omega) rfl) (p_way (by omega) G2.ci (show TB h2 c p1 (tpT S a) (20) from ⟨_, _, _, (g2.tf f1), ((g2.wb wp1x).up (by omega)), ((g2.wb wp1y).up (by omega)), ((g2.wb wp1w).up (by omega))⟩) (show TB h2 c p2 (tpT S b) (20) from ⟨_, _, _, f2, (wp2x.up (by omega)), (wp2y.up (by omega)), (wp2w.up (by omega))⟩)) ?_
  rintro r3 h3 ⟨g3, q3⟩
  have G3 := G2.trans g3
  cases eS3 : p_way_O (tpT S a) (tpT S b) with
  | none =>
    rw [eS3] at q3
    obtain rfl : r3 = none := q3
    have cn3 : (tpT S a).2.2 = 0 ∨ (tpT S b).2.2 = 0 := ifn (a := p_way_S (tpT S a) (tpT S b)) eS3
    refine g_astore (l1 := [(5, aO none), (0, aO (some (c + 10))), (1, aI a), (2, aI b), (3, aI e), (4, aI f)]) rfl rfl ?_
    refine g_aload_n rfl rfl ?_
    refine g_getR rfl (G3.cs.kd 10 (by omega) rfl) (G3.cs.rf 13 (by omega) rfl) ?_
    refine g_aload_n rfl rfl ?_
    refine g_getR rfl (G3.cs.kd 10 (by omega) rfl) (G3.cs.rf 14 (by omega) rfl) ?_
    refine g_iload_n rfl rfl ?_
    refine g_callVO [aI e] [aO (some (c + 6))] rfl rfl rfl rfl (Nat.le_of_ble_eq_true rfl) (G3.cs.kd 7 (by omega) rfl) (t_triple (by omega) G3.ci (g3.xt G2.ci (g2.xt G1.ci (g1.xt G0.ci xt))) ok e he) ?_
    rintro _ h4 ⟨p4, rfl, g4, p4x, p4y, p4w, f4, wp4x, wp4y, wp4w⟩
    have G4 := G3.trans g4
    refine g_aload_n rfl rfl ?_
    refine g_getR rfl (G4.cs.kd 10 (by omega) rfl) (G4.cs.rf 14 (by omega) rfl) ?_
    refine g_iload rfl rfl ?_
    refine g_callVO [aI f] [aO (some p4), aO (some (c + 6))] rfl rfl rfl rfl (Nat.le_of_ble_eq_true rfl) (G4.cs.kd 7 (by omega) rfl) (t_triple (by omega) G4.ci (g4.xt G3.ci (g3.xt G2.ci (g2.xt G1.ci (g1.xt G0.ci xt)))) ok f hf) ?_
    rintro _ h5 ⟨p5, rfl, g5, p5x, p5y, p5w, f5, wp5x, wp5y, wp5w⟩
    have G5 := G4.trans g5
    refine g_callVO [aO (some p4), aO (some p5)] [] rfl rfl rfl rfl (Nat.le_of_ble_eq_true rfl) (G5.cs.kd 6 (by omega) rfl) (p_way (by omega) G5.ci (show TB h5 c p4 (tpT S e) (20) from ⟨_, _, _, (g5.tf f4), ((g5.wb wp4x).up (by omega)), ((g5.wb wp4y).up (by omega)), ((g5.wb wp4w).up (by omega))⟩) (show TB h5 c p5 (tpT S f) (20) from ⟨_, _, _, f5, (wp5x.up (by omega)), (wp5y.up (by omega)), (wp5w.up (by omega))⟩)) ?_
    rintro r6 h6 ⟨g6, q6⟩
    have G6 := G5.trans g6
    cases eS6 : p_way_O (tpT S e) (tpT S f) with
    | none =>
      rw [eS6] at q6
      obtain rfl : r6 = none := q6
      have cn6 : (tpT S e).2.2 = 0 ∨ (tpT S f).2.2 = 0 := ifn (a := p_way_S (tpT S e) (tpT S f)) eS6
      refine g_astore (l1 := [(6, aO none), (5, aO none), (0, aO (some (c + 10))), (1, aI a), (2, aI b), (3, aI e), (4, aI f)]) rfl rfl ?_
      refine g_aload rfl rfl ?_
      refine g_ifnull_t rfl ?_
      refine g_iconst rfl ?_
      refine g_zret rfl (by omega) ?_
      refine ⟨G6.mono (by omega), ?_⟩
      first
        | rfl
        | (refine (if_pos ?_).symm; refine ⟨?_, ?_, ?_⟩ <;> assumption)
        | (refine (if_neg fun q => ?_).symm; obtain ⟨q0, q1, q2⟩ := q; contradiction)
        | (split <;> first | (refine (if_pos ?_).symm; refine ⟨?_, ?_, ?_⟩ <;> assumption) | (refine (if_neg fun q => ?_).symm; obtain ⟨q0, q1, q2⟩ := q; contradiction))
    | some P6 =>
      rw [eS6] at q6
      obtain ⟨cs6, ep6⟩ := ifs (c := (tpT S e).2.2 = 0 ∨ (tpT S f).2.2 = 0) (a := p_way_S (tpT S e) (tpT S f)) eS6
      subst ep6
      obtain ⟨p6, rfl, p6x, p6y, p6w, f6, wp6x, wp6y, wp6w⟩ := q6
      refine g_astore (l1 := [(6, aO (some p6)), (5, aO none), (0, aO (some (c + 10))), (1, aI a), (2, aI b), (3, aI e), (4, aI f)]) rfl rfl ?_
      refine g_aload rfl rfl ?_
      refine g_ifnull_t rfl ?_
      refine g_iconst rfl ?_
      refine g_zret rfl (by omega) ?_
      refine ⟨G6.mono (by omega), ?_⟩
      first
        | rfl
        | (refine (if_pos ?_).symm; refine ⟨?_, ?_, ?_⟩ <;> assumption)
        | (refine (if_neg fun q => ?_).symm; obtain ⟨q0, q1, q2⟩ := q; contradiction)
        | (split <;> first | (refine (if_pos ?_).symm; refine ⟨?_, ?_, ?_⟩ <;> assumption) | (refine (if_neg fun q => ?_).symm; obtain ⟨q0, q1, q2⟩ := q; contradiction))
  | some P3 =>
    rw [eS3] at q3
    obtain ⟨cs3, ep3⟩ := ifs (c := (tpT S a).2.2 = 0 ∨ (tpT S b).2.2 = 0) (a := p_way_S (tpT S a) (tpT S b)) eS3
    subst ep3
    obtain ⟨p3, rfl, p3x, p3y, p3w, f3, wp3x, wp3y, wp3w⟩ := q3
    refine g_astore (l1 := [(5, aO (some p3)), (0, aO (some (c + 10))), (1, aI a), (2, aI b), (3, aI e), (4, aI f)]) rfl rfl ?_
    refine g_aload_n rfl rfl ?_
    refine g_getR rfl (G3.cs.kd 10 (by omega) rfl) (G3.cs.rf 13 (by omega) rfl) ?_
    refine g_aload_n rfl rfl ?_
    refine g_getR rfl (G3.cs.kd 10 (by omega) rfl) (G3.cs.rf 14 (by omega) rfl) ?_
    refine g_iload_n rfl rfl ?_
    refine g_callVO [aI e] [aO (some (c + 6))] rfl rfl rfl rfl (Nat.le_of_ble_eq_true rfl) (G3.cs.kd 7 (by omega) rfl) (t_triple (by omega) G3.ci (g3.xt G2.ci (g2.xt G1.ci (g1.xt G0.ci xt))) ok e he) ?_
    rintro _ h7 ⟨p7, rfl, g7, p7x, p7y, p7w, f7, wp7x, wp7y, wp7w⟩
    have G7 := G3.trans g7
    refine g_aload_n rfl rfl ?_
    refine g_getR rfl (G7.cs.kd 10 (by omega) rfl) (G7.cs.rf 14 (by omega) rfl) ?_
    refine g_iload rfl rfl ?_
    refine g_callVO [aI f] [aO (some p7), aO (some (c + 6))] rfl rfl rfl rfl (Nat.le_of_ble_eq_true rfl) (G7.cs.kd 7 (by omega) rfl) (t_triple (by omega) G7.ci (g7.xt G3.ci (g3.xt G2.ci (g2.xt G1.ci (g1.xt G0.ci xt)))) ok f hf) ?_
    rintro _ h8 ⟨p8, rfl, g8, p8x, p8y, p8w, f8, wp8x, wp8y, wp8w⟩
    have G8 := G7.trans g8
    refine g_callVO [aO (some p7), aO (some p8)] [] rfl rfl rfl rfl (Nat.le_of_ble_eq_true rfl) (G8.cs.kd 6 (by omega) rfl) (p_way (by omega) G8.ci (show TB h8 c p7 (tpT S e) (20) from ⟨_, _, _, (g8.tf f7), ((g8.wb wp7x).up (by omega)), ((g8.wb wp7y).up (by omega)), ((g8.wb wp7w).up (by omega))⟩) (show TB h8 c p8 (tpT S f) (20) from ⟨_, _, _, f8, (wp8x.up (by omega)), (wp8y.up (by omega)), (wp8w.up (by omega))⟩)) ?_
    rintro r9 h9 ⟨g9, q9⟩
    have G9 := G8.trans g9
    cases eS9 : p_way_O (tpT S e) (tpT S f) with
    | none =>
      rw [eS9] at q9
      obtain rfl : r9 = none := q9
      have cn9 : (tpT S e).2.2 = 0 ∨ (tpT S f).2.2 = 0 := ifn (a := p_way_S (tpT S e) (tpT S f)) eS9
      refine g_astore (l1 := [(6, aO none), (5, aO (some p3)), (0, aO (some (c + 10))), (1, aI a), (2, aI b), (3, aI e), (4, aI f)]) rfl rfl ?_
      refine g_aload rfl rfl ?_
      refine g_ifnull_f rfl ?_
      refine g_aload rfl rfl ?_
      refine g_ifnonnull_f rfl ?_
      refine g_iconst rfl ?_
      refine g_zret rfl (by omega) ?_
      refine ⟨G9.mono (by omega), ?_⟩
      first
        | rfl
        | (refine (if_pos ?_).symm; refine ⟨?_, ?_, ?_⟩ <;> assumption)
        | (refine (if_neg fun q => ?_).symm; obtain ⟨q0, q1, q2⟩ := q; contradiction)
        | (split <;> first | (refine (if_pos ?_).symm; refine ⟨?_, ?_, ?_⟩ <;> assumption) | (refine (if_neg fun q => ?_).symm; obtain ⟨q0, q1, q2⟩ := q; contradiction))
    | some P9 =>
      rw [eS9] at q9
      obtain ⟨cs9, ep9⟩ := ifs (c := (tpT S e).2.2 = 0 ∨ (tpT S f).2.2 = 0) (a := p_way_S (tpT S e) (tpT S f)) eS9
      subst ep9
      obtain ⟨p9, rfl, p9x, p9y, p9w, f9, wp9x, wp9y, wp9w⟩ := q9
      refine g_astore (l1 := [(6, aO (some p9)), (5, aO (some p3)), (0, aO (some (c + 10))), (1, aI a), (2, aI b), (3, aI e), (4, aI f)]) rfl rfl ?_
      refine g_aload rfl rfl ?_
      refine g_ifnull_f rfl ?_
      refine g_aload rfl rfl ?_
      refine g_ifnonnull_t rfl ?_
      refine g_aload_n rfl rfl ?_
      refine g_getR rfl (G9.cs.kd 10 (by omega) rfl) (G9.cs.rf 12 (by omega) rfl) ?_
      refine g_aload_n rfl rfl ?_
      refine g_getR rfl (G9.cs.kd 10 (by omega) rfl) (G9.cs.rf 12 (by omega) rfl) ?_
      refine g_aload rfl rfl ?_
      refine g_getR rfl (g9.tf (g8.tf (g7.tf f3))).1.2.2 (g9.tf (g8.tf (g7.tf f3))).2.1 ?_
      refine g_aload rfl rfl ?_
      refine g_getR rfl f9.1.2.2 f9.2.2.2 ?_
      refine g_callVO [aO (some p3x), aO (some p9w)] [aO (some (c + 1))] rfl rfl rfl rfl (Nat.le_of_ble_eq_true rfl) (G9.cs.kd 1 (by omega) rfl) (s_times (by omega) G9.ci (g9.wb (g8.wb (g7.wb wp3x))) wp9w (by omega)) ?_
      rintro _ h10 ⟨p10, rfl, g10, wp10⟩
      have G10 := G9.trans g10
      refine g_aload_n rfl rfl ?_
      refine g_getR rfl (G10.cs.kd 10 (by omega) rfl) (G10.cs.rf 12 (by omega) rfl) ?_
      refine g_aload rfl rfl ?_
      refine g_getR rfl (g10.tf f9).1.2.2 (g10.tf f9).2.1 ?_
      refine g_aload rfl rfl ?_
      refine g_getR rfl (g10.tf (g9.tf (g8.tf (g7.tf f3)))).1.2.2 (g10.tf (g9.tf (g8.tf (g7.tf f3)))).2.2.2 ?_
      refine g_callVO [aO (some p9x), aO (some p3w)] [aO (some p10), aO (some (c + 1))] rfl rfl rfl rfl (Nat.le_of_ble_eq_true rfl) (G10.cs.kd 1 (by omega) rfl) (s_times (by omega) G10.ci (g10.wb wp9x) (g10.wb (g9.wb (g8.wb (g7.wb wp3w)))) (by omega)) ?_
      rintro _ h11 ⟨p11, rfl, g11, wp11⟩
      have G11 := G10.trans g11
      refine g_callVI [aO (some p10), aO (some p11)] [] rfl rfl rfl rfl (Nat.le_of_ble_eq_true rfl) (G11.cs.kd 1 (by omega) rfl) (s_areEqual (by omega) G11.ci (g11.wb wp10) wp11) ?_
      rintro _ hx12 ⟨ehx12, rfl⟩
      rw [ehx12]
      clear ehx12 hx12
      refine g_zret rfl (by omega) ?_
      refine ⟨G11.mono (by omega), ?_⟩
      first
        | rfl
        | (refine (if_pos ?_).symm; refine ⟨?_, ?_, ?_⟩ <;> assumption)
        | (refine (if_neg fun q => ?_).symm; obtain ⟨q0, q1, q2⟩ := q; contradiction)
        | (split <;> first | (refine (if_pos ?_).symm; refine ⟨?_, ?_, ?_⟩ <;> assumption) | (refine (if_neg fun q => ?_).symm; obtain ⟨q0, q1, q2⟩ := q; contradiction))
set_option maxHeartbeats 4000000 in
theorem o_oneRing {w : aW} {d : Nat} (hd : 7 ≤ d) {h : aH} {c : Nat} (ci : CI h c) {S : aS} (xt : XT h c S) (ok : OkT S) (a : Int) (ha : 0 ≤ a ∧ a < sT S) (b : Int) (hb : 0 ≤ b ∧ b < sT S) (e : Int) (he : 0 ≤ e ∧ e < sT S) (f : Int) (hf : 0 ≤ f ∧ f < sT S)  : WP w d 151 [aO (some (c + 10)), aI a, aI b, aI e, aI f] h (RI (fun r h1 => Gr h h1 c 130 ∧ r = if ¬((tpT S a).2.2 = 0 ∨ (tpT S b).2.2 = 0 ∨ (tpT S e).2.2 = 0 ∨ p_det_S (tpT S a) (tpT S b) (tpT S e) = 0) ∧ (¬((p_cross_S ((tpT S a)) ((tpT S b))).1 = 0 ∧ (p_cross_S ((tpT S a)) ((tpT S b))).2.1 = 0 ∧ (p_cross_S ((tpT S a)) ((tpT S b))).2.2 = 0) ∧ ¬((p_cross_S ((tpT S a)) ((tpT S e))).1 = 0 ∧ (p_cross_S ((tpT S a)) ((tpT S e))).2.1 = 0 ∧ (p_cross_S ((tpT S a)) ((tpT S e))).2.2 = 0) ∧ ¬((p_cross_S ((tpT S a)) ((tpT S f))).1 = 0 ∧ (p_cross_S ((tpT S a)) ((tpT S f))).2.1 = 0 ∧ (p_cross_S ((tpT S a)) ((tpT S f))).2.2 = 0) ∧ ¬((p_cross_S ((tpT S b)) ((tpT S e))).1 = 0 ∧ (p_cross_S ((tpT S b)) ((tpT S e))).2.1 = 0 ∧ (p_cross_S ((tpT S b)) ((tpT S e))).2.2 = 0) ∧ ¬((p_cross_S ((tpT S b)) ((tpT S f))).1 = 0 ∧ (p_cross_S ((tpT S b)) ((tpT S f))).2.1 = 0 ∧ (p_cross_S ((tpT S b)) ((tpT S f))).2.2 = 0) ∧ ¬((p_cross_S ((tpT S e)) ((tpT S f))).1 = 0 ∧ (p_cross_S ((tpT S e)) ((tpT S f))).2.1 = 0 ∧ (p_cross_S ((tpT S e)) ((tpT S f))).2.2 = 0)) ∧ ¬ (tpT S f).2.2 = 0 ∧ p_inEq_S (tpT S f) (p_thr_S (tpT S a) (tpT S b) (tpT S e)) = 0 then 1 else 0)) := by
  obtain ⟨d, rfl⟩ : ∃ d1, d = d1 + 1 := ⟨d - 1, by omega⟩
  refine WP.enter (cd := cd_X6_areOnOneRing) rfl ?_
  have G0 := Gr.refl ci
  have hls : largs 0 [aO (some (c + 10)), aI a, aI b, aI e, aI f] = [(0, aO (some (c + 10))), (1, aI a), (2, aI b), (3, aI e), (4, aI f)] := rfl
  rw [hls]
  clear hls
  refine g_aload_n rfl rfl ?_
  refine g_getR rfl (G0.cs.kd 10 (by omega) rfl) (G0.cs.rf 14 (by omega) rfl) ?_
  refine g_iload_n rfl rfl ?_
  refine g_callVO [aI a] [] rfl rfl rfl rfl (Nat.le_of_ble_eq_true rfl) (G0.cs.kd 7 (by omega) rfl) (t_triple (by omega) G0.ci xt ok a ha) ?_
  rintro _ h1 ⟨p1, rfl, g1, p1x, p1y, p1w, f1, wp1x, wp1y, wp1w⟩
  have G1 := G0.trans g1
  refine g_astore (l1 := [(5, aO (some p1)), (0, aO (some (c + 10))), (1, aI a), (2, aI b), (3, aI e), (4, aI f)]) rfl rfl ?_
  refine g_aload_n rfl rfl ?_
  refine g_getR rfl (G1.cs.kd 10 (by omega) rfl) (G1.cs.rf 14 (by omega) rfl) ?_
  refine g_iload_n rfl rfl ?_
  refine g_callVO [aI b] [] rfl rfl rfl rfl (Nat.le_of_ble_eq_true rfl) (G1.cs.kd 7 (by omega) rfl) (t_triple (by omega) G1.ci (g1.xt G0.ci xt) ok b hb) ?_
  rintro _ h2 ⟨p2, rfl, g2, p2x, p2y, p2w, f2, wp2x, wp2y, wp2w⟩
  have G2 := G1.trans g2
  refine g_astore (l1 := [(6, aO (some p2)), (5, aO (some p1)), (0, aO (some (c + 10))), (1, aI a), (2, aI b), (3, aI e), (4, aI f)]) rfl rfl ?_
  refine g_aload_n rfl rfl ?_
  refine g_getR rfl (G2.cs.kd 10 (by omega) rfl) (G2.cs.rf 14 (by omega) rfl) ?_
  refine g_iload_n rfl rfl ?_
  refine g_callVO [aI e] [] rfl rfl rfl rfl (Nat.le_of_ble_eq_true rfl) (G2.cs.kd 7 (by omega) rfl) (t_triple (by omega) G2.ci (g2.xt G1.ci (g1.xt G0.ci xt)) ok e he) ?_
  rintro _ h3 ⟨p3, rfl, g3, p3x, p3y, p3w, f3, wp3x, wp3y, wp3w⟩
  have G3 := G2.trans g3
  refine g_astore (l1 := [(7, aO (some p3)), (6, aO (some p2)), (5, aO (some p1)), (0, aO (some (c + 10))), (1, aI a), (2, aI b), (3, aI e), (4, aI f)]) rfl rfl ?_
  refine g_aload_n rfl rfl ?_
  refine g_getR rfl (G3.cs.kd 10 (by omega) rfl) (G3.cs.rf 14 (by omega) rfl) ?_
  refine g_iload rfl rfl ?_
  refine g_callVO [aI f] [] rfl rfl rfl rfl (Nat.le_of_ble_eq_true rfl) (G3.cs.kd 7 (by omega) rfl) (t_triple (by omega) G3.ci (g3.xt G2.ci (g2.xt G1.ci (g1.xt G0.ci xt))) ok f hf) ?_
  rintro _ h4 ⟨p4, rfl, g4, p4x, p4y, p4w, f4, wp4x, wp4y, wp4w⟩
  have G4 := G3.trans g4
  refine g_astore (l1 := [(8, aO (some p4)), (7, aO (some p3)), (6, aO (some p2)), (5, aO (some p1)), (0, aO (some (c + 10))), (1, aI a), (2, aI b), (3, aI e), (4, aI f)]) rfl rfl ?_
  refine g_aload_n rfl rfl ?_
  refine g_getR rfl (G4.cs.kd 10 (by omega) rfl) (G4.cs.rf 13 (by omega) rfl) ?_
  refine g_aload rfl rfl ?_
  refine g_aload rfl rfl ?_
  refine g_aload rfl rfl ?_
  refine g_callVO [aO (some p1), aO (some p2), aO (some p3)] [] rfl rfl rfl rfl (Nat.le_of_ble_eq_true rfl) (G4.cs.kd 6 (by omega) rfl) (p_thr (by omega) G4.ci (show TB h4 c p1 (tpT S a) (20) from ⟨_, _, _, (g4.tf (g3.tf (g2.tf f1))), ((g4.wb (g3.wb (g2.wb wp1x))).up (by omega)), ((g4.wb (g3.wb (g2.wb wp1y))).up (by omega)), ((g4.wb (g3.wb (g2.wb wp1w))).up (by omega))⟩) (show TB h4 c p2 (tpT S b) (20) from ⟨_, _, _, (g4.tf (g3.tf f2)), ((g4.wb (g3.wb wp2x)).up (by omega)), ((g4.wb (g3.wb wp2y)).up (by omega)), ((g4.wb (g3.wb wp2w)).up (by omega))⟩) (show TB h4 c p3 (tpT S e) (20) from ⟨_, _, _, (g4.tf f3), ((g4.wb wp3x).up (by omega)), ((g4.wb wp3y).up (by omega)), ((g4.wb wp3w).up (by omega))⟩) (by omega)) ?_
  rintro r5 h5 ⟨g5, q5⟩
  have G5 := G4.trans g5
  cases eS5 : p_thr_O (tpT S a) (tpT S b) (tpT S e) with
  | none =>
    rw [eS5] at q5
    obtain rfl : r5 = none := q5
    have cn5 : (tpT S a).2.2 = 0 ∨ (tpT S b).2.2 = 0 ∨ (tpT S e).2.2 = 0 ∨ p_det_S (tpT S a) (tpT S b) (tpT S e) = 0 := ifn (a := p_thr_S (tpT S a) (tpT S b) (tpT S e)) eS5
    refine g_astore (l1 := [(9, aO none), (8, aO (some p4)), (7, aO (some p3)), (6, aO (some p2)), (5, aO (some p1)), (0, aO (some (c + 10))), (1, aI a), (2, aI b), (3, aI e), (4, aI f)]) rfl rfl ?_
    refine g_aload rfl rfl ?_
    refine g_ifnull_t rfl ?_
    refine g_iconst rfl ?_
    refine g_zret rfl (by omega) ?_
    refine ⟨G5.mono (by omega), ?_⟩
    first
      | rfl
      | (refine (if_pos ?_).symm; refine ⟨?_, ?_, ?_⟩ <;> assumption)
      | (refine (if_neg fun q => ?_).symm; obtain ⟨q0, q1, q2⟩ := q; contradiction)
      | (split <;> first | (refine (if_pos ?_).symm; refine ⟨?_, ?_, ?_⟩ <;> assumption) | (refine (if_neg fun q => ?_).symm; obtain ⟨q0, q1, q2⟩ := q; contradiction))
  | some P5 =>
    rw [eS5] at q5
    obtain ⟨cs5, ep5⟩ := ifs (c := (tpT S a).2.2 = 0 ∨ (tpT S b).2.2 = 0 ∨ (tpT S e).2.2 = 0 ∨ p_det_S (tpT S a) (tpT S b) (tpT S e) = 0) (a := p_thr_S (tpT S a) (tpT S b) (tpT S e)) eS5
    subst ep5
    obtain ⟨p5, rfl, p5k, p5a, p5b, p5e, f5, wp5k, wp5a, wp5b, wp5e⟩ := q5
    refine g_astore (l1 := [(9, aO (some p5)), (8, aO (some p4)), (7, aO (some p3)), (6, aO (some p2)), (5, aO (some p1)), (0, aO (some (c + 10))), (1, aI a), (2, aI b), (3, aI e), (4, aI f)]) rfl rfl ?_
    refine g_aload rfl rfl ?_
    refine g_ifnull_f rfl ?_
    refine g_aload_n rfl rfl ?_
    refine g_aload rfl rfl ?_
    refine g_aload rfl rfl ?_
    refine g_aload rfl rfl ?_
    refine g_aload rfl rfl ?_
    refine g_callVI [aO (some p1), aO (some p2), aO (some p3), aO (some p4)] [] rfl rfl rfl rfl (Nat.le_of_ble_eq_true rfl) (G5.cs.kd 10 (by omega) rfl) (o_apart (by omega) G5.ci (show TB h5 c p1 (tpT S a) (20) from ⟨_, _, _, (g5.tf (g4.tf (g3.tf (g2.tf f1)))), ((g5.wb (g4.wb (g3.wb (g2.wb wp1x)))).up (by omega)), ((g5.wb (g4.wb (g3.wb (g2.wb wp1y)))).up (by omega)), ((g5.wb (g4.wb (g3.wb (g2.wb wp1w)))).up (by omega))⟩) (show TB h5 c p2 (tpT S b) (20) from ⟨_, _, _, (g5.tf (g4.tf (g3.tf f2))), ((g5.wb (g4.wb (g3.wb wp2x))).up (by omega)), ((g5.wb (g4.wb (g3.wb wp2y))).up (by omega)), ((g5.wb (g4.wb (g3.wb wp2w))).up (by omega))⟩) (show TB h5 c p3 (tpT S e) (20) from ⟨_, _, _, (g5.tf (g4.tf f3)), ((g5.wb (g4.wb wp3x)).up (by omega)), ((g5.wb (g4.wb wp3y)).up (by omega)), ((g5.wb (g4.wb wp3w)).up (by omega))⟩) (show TB h5 c p4 (tpT S f) (20) from ⟨_, _, _, (g5.tf f4), ((g5.wb wp4x).up (by omega)), ((g5.wb wp4y).up (by omega)), ((g5.wb wp4w).up (by omega))⟩) (by omega)) ?_
    rintro _ h6 ⟨g6, rfl⟩
    have G6 := G5.trans g6
    refine g_b_eq rfl (fun c73 => ?_) (fun c73 => ?_)
    · skip
      refine g_iconst rfl ?_
      refine g_zret rfl (by omega) ?_
      refine ⟨G6.mono (by omega), ?_⟩
      first
        | rfl
        | (refine (if_pos ?_).symm; refine ⟨?_, ?_, ?_⟩ <;> assumption)
        | (refine (if_neg fun q => ?_).symm; obtain ⟨q0, q1, q2⟩ := q; contradiction)
        | (split <;> first | (refine (if_pos ?_).symm; refine ⟨?_, ?_, ?_⟩ <;> assumption) | (refine (if_neg fun q => ?_).symm; obtain ⟨q0, q1, q2⟩ := q; contradiction))
    · skip
      refine g_aload_n rfl rfl ?_
      refine g_aload rfl rfl ?_
      refine g_aload rfl rfl ?_
      refine g_callVI [aO (some p4), aO (some p5)] [] rfl rfl rfl rfl (Nat.le_of_ble_eq_true rfl) (G6.cs.kd 10 (by omega) rfl) (o_onRing (by omega) G6.ci (show TB h6 c p4 (tpT S f) (20) from ⟨_, _, _, (g6.tf (g5.tf f4)), ((g6.wb (g5.wb wp4x)).up (by omega)), ((g6.wb (g5.wb wp4y)).up (by omega)), ((g6.wb (g5.wb wp4w)).up (by omega))⟩) (show QB h6 c p5 (p_thr_S (tpT S a) (tpT S b) (tpT S e)) (180) from ⟨_, _, _, _, (g6.rf f5), ((g6.wb wp5k).up (by omega)), ((g6.wb wp5a).up (by omega)), ((g6.wb wp5b).up (by omega)), ((g6.wb wp5e).up (by omega))⟩)) ?_
      rintro _ h7 ⟨g7, rfl⟩
      have G7 := G6.trans g7
      refine g_b_eq rfl (fun c84 => ?_) (fun c84 => ?_)
      · skip
        refine g_iconst rfl ?_
        refine g_zret rfl (by omega) ?_
        refine ⟨G7.mono (by omega), ?_⟩
        first
          | rfl
          | (refine (if_pos ?_).symm; refine ⟨?_, ?_, ?_⟩ <;> assumption)
          | (refine (if_neg fun q => ?_).symm; obtain ⟨q0, q1, q2⟩ := q; contradiction)
          | (split <;> first | (refine (if_pos ?_).symm; refine ⟨?_, ?_, ?_⟩ <;> assumption) | (refine (if_neg fun q => ?_).symm; obtain ⟨q0, q1, q2⟩ := q; contradiction))
      · skip
        refine g_iconst rfl ?_
        refine g_goto rfl ?_
        refine g_zret rfl (by omega) ?_
        refine ⟨G7.mono (by omega), ?_⟩
        first
          | rfl
          | (refine (if_pos ?_).symm; refine ⟨?_, ?_, ?_⟩ <;> assumption)
          | (refine (if_neg fun q => ?_).symm; obtain ⟨q0, q1, q2⟩ := q; contradiction)
          | (split <;> first | (refine (if_pos ?_).symm; refine ⟨?_, ?_, ?_⟩ <;> assumption) | (refine (if_neg fun q => ?_).symm; obtain ⟨q0, q1, q2⟩ := q; contradiction))
set_option maxHeartbeats 4000000 in
theorem o_harm {w : aW} {d : Nat} (hd : 7 ≤ d) {h : aH} {c : Nat} (ci : CI h c) {S : aS} (xt : XT h c S) (ok : OkT S) (a : Int) (ha : 0 ≤ a ∧ a < sT S) (b : Int) (hb : 0 ≤ b ∧ b < sT S) (e : Int) (he : 0 ≤ e ∧ e < sT S) (f : Int) (hf : 0 ≤ f ∧ f < sT S)  : WP w d 156 [aO (some (c + 10)), aI a, aI b, aI e, aI f] h (RI (fun r h1 => Gr h h1 c 100 ∧ r = if (¬((p_cross_S ((tpT S a)) ((tpT S b))).1 = 0 ∧ (p_cross_S ((tpT S a)) ((tpT S b))).2.1 = 0 ∧ (p_cross_S ((tpT S a)) ((tpT S b))).2.2 = 0) ∧ ¬((p_cross_S ((tpT S a)) ((tpT S e))).1 = 0 ∧ (p_cross_S ((tpT S a)) ((tpT S e))).2.1 = 0 ∧ (p_cross_S ((tpT S a)) ((tpT S e))).2.2 = 0) ∧ ¬((p_cross_S ((tpT S a)) ((tpT S f))).1 = 0 ∧ (p_cross_S ((tpT S a)) ((tpT S f))).2.1 = 0 ∧ (p_cross_S ((tpT S a)) ((tpT S f))).2.2 = 0) ∧ ¬((p_cross_S ((tpT S b)) ((tpT S e))).1 = 0 ∧ (p_cross_S ((tpT S b)) ((tpT S e))).2.1 = 0 ∧ (p_cross_S ((tpT S b)) ((tpT S e))).2.2 = 0) ∧ ¬((p_cross_S ((tpT S b)) ((tpT S f))).1 = 0 ∧ (p_cross_S ((tpT S b)) ((tpT S f))).2.1 = 0 ∧ (p_cross_S ((tpT S b)) ((tpT S f))).2.2 = 0) ∧ ¬((p_cross_S ((tpT S e)) ((tpT S f))).1 = 0 ∧ (p_cross_S ((tpT S e)) ((tpT S f))).2.1 = 0 ∧ (p_cross_S ((tpT S e)) ((tpT S f))).2.2 = 0)) ∧ p_dot_S (p_cross_S (tpT S a) (tpT S b)) (tpT S e) = 0 ∧ p_dot_S (p_cross_S (tpT S a) (tpT S b)) (tpT S f) = 0 ∧ p_bra_S (tpT S a) (tpT S e) (p_cross_S (tpT S a) (tpT S b)) * p_bra_S (tpT S b) (tpT S f) (p_cross_S (tpT S a) (tpT S b)) + p_bra_S (tpT S a) (tpT S f) (p_cross_S (tpT S a) (tpT S b)) * p_bra_S (tpT S b) (tpT S e) (p_cross_S (tpT S a) (tpT S b)) = 0 then 1 else 0)) := by
  obtain ⟨d, rfl⟩ : ∃ d1, d = d1 + 1 := ⟨d - 1, by omega⟩
  refine WP.enter (cd := cd_X6_areHarmonic) rfl ?_
  have G0 := Gr.refl ci
  have hls : largs 0 [aO (some (c + 10)), aI a, aI b, aI e, aI f] = [(0, aO (some (c + 10))), (1, aI a), (2, aI b), (3, aI e), (4, aI f)] := rfl
  rw [hls]
  clear hls
  refine g_aload_n rfl rfl ?_
  refine g_getR rfl (G0.cs.kd 10 (by omega) rfl) (G0.cs.rf 14 (by omega) rfl) ?_
  refine g_iload_n rfl rfl ?_
  refine g_callVO [aI a] [] rfl rfl rfl rfl (Nat.le_of_ble_eq_true rfl) (G0.cs.kd 7 (by omega) rfl) (t_triple (by omega) G0.ci xt ok a ha) ?_
  rintro _ h1 ⟨p1, rfl, g1, p1x, p1y, p1w, f1, wp1x, wp1y, wp1w⟩
  have G1 := G0.trans g1
  refine g_astore (l1 := [(5, aO (some p1)), (0, aO (some (c + 10))), (1, aI a), (2, aI b), (3, aI e), (4, aI f)]) rfl rfl ?_
  refine g_aload_n rfl rfl ?_
  refine g_getR rfl (G1.cs.kd 10 (by omega) rfl) (G1.cs.rf 14 (by omega) rfl) ?_
  refine g_iload_n rfl rfl ?_
  refine g_callVO [aI b] [] rfl rfl rfl rfl (Nat.le_of_ble_eq_true rfl) (G1.cs.kd 7 (by omega) rfl) (t_triple (by omega) G1.ci (g1.xt G0.ci xt) ok b hb) ?_
  rintro _ h2 ⟨p2, rfl, g2, p2x, p2y, p2w, f2, wp2x, wp2y, wp2w⟩
  have G2 := G1.trans g2
  refine g_astore (l1 := [(6, aO (some p2)), (5, aO (some p1)), (0, aO (some (c + 10))), (1, aI a), (2, aI b), (3, aI e), (4, aI f)]) rfl rfl ?_
  refine g_aload_n rfl rfl ?_
  refine g_getR rfl (G2.cs.kd 10 (by omega) rfl) (G2.cs.rf 14 (by omega) rfl) ?_
  refine g_iload_n rfl rfl ?_
  refine g_callVO [aI e] [] rfl rfl rfl rfl (Nat.le_of_ble_eq_true rfl) (G2.cs.kd 7 (by omega) rfl) (t_triple (by omega) G2.ci (g2.xt G1.ci (g1.xt G0.ci xt)) ok e he) ?_
  rintro _ h3 ⟨p3, rfl, g3, p3x, p3y, p3w, f3, wp3x, wp3y, wp3w⟩
  have G3 := G2.trans g3
  refine g_astore (l1 := [(7, aO (some p3)), (6, aO (some p2)), (5, aO (some p1)), (0, aO (some (c + 10))), (1, aI a), (2, aI b), (3, aI e), (4, aI f)]) rfl rfl ?_
  refine g_aload_n rfl rfl ?_
  refine g_getR rfl (G3.cs.kd 10 (by omega) rfl) (G3.cs.rf 14 (by omega) rfl) ?_
  refine g_iload rfl rfl ?_
  refine g_callVO [aI f] [] rfl rfl rfl rfl (Nat.le_of_ble_eq_true rfl) (G3.cs.kd 7 (by omega) rfl) (t_triple (by omega) G3.ci (g3.xt G2.ci (g2.xt G1.ci (g1.xt G0.ci xt))) ok f hf) ?_
  rintro _ h4 ⟨p4, rfl, g4, p4x, p4y, p4w, f4, wp4x, wp4y, wp4w⟩
  have G4 := G3.trans g4
  refine g_astore (l1 := [(8, aO (some p4)), (7, aO (some p3)), (6, aO (some p2)), (5, aO (some p1)), (0, aO (some (c + 10))), (1, aI a), (2, aI b), (3, aI e), (4, aI f)]) rfl rfl ?_
  refine g_aload_n rfl rfl ?_
  refine g_getR rfl (G4.cs.kd 10 (by omega) rfl) (G4.cs.rf 13 (by omega) rfl) ?_
  refine g_aload rfl rfl ?_
  refine g_aload rfl rfl ?_
  refine g_callVO [aO (some p1), aO (some p2)] [] rfl rfl rfl rfl (Nat.le_of_ble_eq_true rfl) (G4.cs.kd 6 (by omega) rfl) (p_cross (by omega) G4.ci (show TB h4 c p1 (tpT S a) (20) from ⟨_, _, _, (g4.tf (g3.tf (g2.tf f1))), ((g4.wb (g3.wb (g2.wb wp1x))).up (by omega)), ((g4.wb (g3.wb (g2.wb wp1y))).up (by omega)), ((g4.wb (g3.wb (g2.wb wp1w))).up (by omega))⟩) (show TB h4 c p2 (tpT S b) (20) from ⟨_, _, _, (g4.tf (g3.tf f2)), ((g4.wb (g3.wb wp2x)).up (by omega)), ((g4.wb (g3.wb wp2y)).up (by omega)), ((g4.wb (g3.wb wp2w)).up (by omega))⟩) (by omega)) ?_
  rintro _ h5 ⟨p5, rfl, g5, p5x, p5y, p5w, f5, wp5x, wp5y, wp5w⟩
  have G5 := G4.trans g5
  refine g_astore (l1 := [(9, aO (some p5)), (8, aO (some p4)), (7, aO (some p3)), (6, aO (some p2)), (5, aO (some p1)), (0, aO (some (c + 10))), (1, aI a), (2, aI b), (3, aI e), (4, aI f)]) rfl rfl ?_
  refine g_aload_n rfl rfl ?_
  refine g_aload rfl rfl ?_
  refine g_aload rfl rfl ?_
  refine g_aload rfl rfl ?_
  refine g_aload rfl rfl ?_
  refine g_callVI [aO (some p1), aO (some p2), aO (some p3), aO (some p4)] [] rfl rfl rfl rfl (Nat.le_of_ble_eq_true rfl) (G5.cs.kd 10 (by omega) rfl) (o_apart (by omega) G5.ci (show TB h5 c p1 (tpT S a) (20) from ⟨_, _, _, (g5.tf (g4.tf (g3.tf (g2.tf f1)))), ((g5.wb (g4.wb (g3.wb (g2.wb wp1x)))).up (by omega)), ((g5.wb (g4.wb (g3.wb (g2.wb wp1y)))).up (by omega)), ((g5.wb (g4.wb (g3.wb (g2.wb wp1w)))).up (by omega))⟩) (show TB h5 c p2 (tpT S b) (20) from ⟨_, _, _, (g5.tf (g4.tf (g3.tf f2))), ((g5.wb (g4.wb (g3.wb wp2x))).up (by omega)), ((g5.wb (g4.wb (g3.wb wp2y))).up (by omega)), ((g5.wb (g4.wb (g3.wb wp2w))).up (by omega))⟩) (show TB h5 c p3 (tpT S e) (20) from ⟨_, _, _, (g5.tf (g4.tf f3)), ((g5.wb (g4.wb wp3x)).up (by omega)), ((g5.wb (g4.wb wp3y)).up (by omega)), ((g5.wb (g4.wb wp3w)).up (by omega))⟩) (show TB h5 c p4 (tpT S f) (20) from ⟨_, _, _, (g5.tf f4), ((g5.wb wp4x).up (by omega)), ((g5.wb wp4y).up (by omega)), ((g5.wb wp4w).up (by omega))⟩) (by omega)) ?_
  rintro _ h6 ⟨g6, rfl⟩
  have G6 := G5.trans g6
  refine g_b_eq rfl (fun c66 => ?_) (fun c66 => ?_)
  · skip
    refine g_iconst rfl ?_
    refine g_zret rfl (by omega) ?_
    refine ⟨G6.mono (by omega), ?_⟩
    first
      | rfl
      | (refine (if_pos ?_).symm; refine ⟨?_, ?_, ?_, ?_⟩ <;> assumption)
      | (refine (if_neg fun q => ?_).symm; obtain ⟨q0, q1, q2, q3⟩ := q; contradiction)
      | (split <;> first | (refine (if_pos ?_).symm; refine ⟨?_, ?_, ?_, ?_⟩ <;> assumption) | (refine (if_neg fun q => ?_).symm; obtain ⟨q0, q1, q2, q3⟩ := q; contradiction))
  · skip
    refine g_aload_n rfl rfl ?_
    refine g_getR rfl (G6.cs.kd 10 (by omega) rfl) (G6.cs.rf 12 (by omega) rfl) ?_
    refine g_aload_n rfl rfl ?_
    refine g_getR rfl (G6.cs.kd 10 (by omega) rfl) (G6.cs.rf 13 (by omega) rfl) ?_
    refine g_aload rfl rfl ?_
    refine g_aload rfl rfl ?_
    refine g_callVO [aO (some p5), aO (some p3)] [aO (some (c + 1))] rfl rfl rfl rfl (Nat.le_of_ble_eq_true rfl) (G6.cs.kd 6 (by omega) rfl) (p_dot (by omega) G6.ci (show TB h6 c p5 (p_cross_S (tpT S a) (tpT S b)) (41) from ⟨_, _, _, (g6.tf f5), ((g6.wb wp5x).up (by omega)), ((g6.wb wp5y).up (by omega)), ((g6.wb wp5w).up (by omega))⟩) (show TB h6 c p3 (tpT S e) (41) from ⟨_, _, _, (g6.tf (g5.tf (g4.tf f3))), ((g6.wb (g5.wb (g4.wb wp3x))).up (by omega)), ((g6.wb (g5.wb (g4.wb wp3y))).up (by omega)), ((g6.wb (g5.wb (g4.wb wp3w))).up (by omega))⟩) (by omega)) ?_
    rintro _ h7 ⟨p7, rfl, g7, wp7⟩
    have G7 := G6.trans g7
    refine g_callVI [aO (some p7)] [] rfl rfl rfl rfl (Nat.le_of_ble_eq_true rfl) (G7.cs.kd 1 (by omega) rfl) (s_isZero (by omega) G7.ci wp7) ?_
    rintro _ hx8 ⟨ehx8, rfl⟩
    rw [ehx8]
    clear ehx8 hx8
    refine g_b_eq rfl (fun c87 => ?_) (fun c87 => ?_)
    · skip
      refine g_iconst rfl ?_
      refine g_zret rfl (by omega) ?_
      refine ⟨G7.mono (by omega), ?_⟩
      first
        | rfl
        | (refine (if_pos ?_).symm; refine ⟨?_, ?_, ?_, ?_⟩ <;> assumption)
        | (refine (if_neg fun q => ?_).symm; obtain ⟨q0, q1, q2, q3⟩ := q; contradiction)
        | (split <;> first | (refine (if_pos ?_).symm; refine ⟨?_, ?_, ?_, ?_⟩ <;> assumption) | (refine (if_neg fun q => ?_).symm; obtain ⟨q0, q1, q2, q3⟩ := q; contradiction))
    · skip
      refine g_aload_n rfl rfl ?_
      refine g_getR rfl (G7.cs.kd 10 (by omega) rfl) (G7.cs.rf 12 (by omega) rfl) ?_
      refine g_aload_n rfl rfl ?_
      refine g_getR rfl (G7.cs.kd 10 (by omega) rfl) (G7.cs.rf 13 (by omega) rfl) ?_
      refine g_aload rfl rfl ?_
      refine g_aload rfl rfl ?_
      refine g_callVO [aO (some p5), aO (some p4)] [aO (some (c + 1))] rfl rfl rfl rfl (Nat.le_of_ble_eq_true rfl) (G7.cs.kd 6 (by omega) rfl) (p_dot (by omega) G7.ci (show TB h7 c p5 (p_cross_S (tpT S a) (tpT S b)) (41) from ⟨_, _, _, (g7.tf (g6.tf f5)), ((g7.wb (g6.wb wp5x)).up (by omega)), ((g7.wb (g6.wb wp5y)).up (by omega)), ((g7.wb (g6.wb wp5w)).up (by omega))⟩) (show TB h7 c p4 (tpT S f) (41) from ⟨_, _, _, (g7.tf (g6.tf (g5.tf f4))), ((g7.wb (g6.wb (g5.wb wp4x))).up (by omega)), ((g7.wb (g6.wb (g5.wb wp4y))).up (by omega)), ((g7.wb (g6.wb (g5.wb wp4w))).up (by omega))⟩) (by omega)) ?_
      rintro _ h9 ⟨p9, rfl, g9, wp9⟩
      have G9 := G7.trans g9
      refine g_callVI [aO (some p9)] [] rfl rfl rfl rfl (Nat.le_of_ble_eq_true rfl) (G9.cs.kd 1 (by omega) rfl) (s_isZero (by omega) G9.ci wp9) ?_
      rintro _ hx10 ⟨ehx10, rfl⟩
      rw [ehx10]
      clear ehx10 hx10
      refine g_b_ne rfl (fun c108 => ?_) (fun c108 => ?_)
      · skip
        refine g_aload_n rfl rfl ?_
        refine g_getR rfl (G9.cs.kd 10 (by omega) rfl) (G9.cs.rf 12 (by omega) rfl) ?_
        refine g_aload_n rfl rfl ?_
        refine g_getR rfl (G9.cs.kd 10 (by omega) rfl) (G9.cs.rf 12 (by omega) rfl) ?_
        refine g_aload_n rfl rfl ?_
        refine g_getR rfl (G9.cs.kd 10 (by omega) rfl) (G9.cs.rf 13 (by omega) rfl) ?_
        refine g_aload rfl rfl ?_
        refine g_aload rfl rfl ?_
        refine g_aload rfl rfl ?_
        refine g_callVO [aO (some p1), aO (some p3), aO (some p5)] [aO (some (c + 1)), aO (some (c + 1))] rfl rfl rfl rfl (Nat.le_of_ble_eq_true rfl) (G9.cs.kd 6 (by omega) rfl) (p_bra (by omega) G9.ci (show TB h9 c p1 (tpT S a) (20) from ⟨_, _, _, (g9.tf (g7.tf (g6.tf (g5.tf (g4.tf (g3.tf (g2.tf f1))))))), ((g9.wb (g7.wb (g6.wb (g5.wb (g4.wb (g3.wb (g2.wb wp1x))))))).up (by omega)), ((g9.wb (g7.wb (g6.wb (g5.wb (g4.wb (g3.wb (g2.wb wp1y))))))).up (by omega)), ((g9.wb (g7.wb (g6.wb (g5.wb (g4.wb (g3.wb (g2.wb wp1w))))))).up (by omega))⟩) (show TB h9 c p3 (tpT S e) (20) from ⟨_, _, _, (g9.tf (g7.tf (g6.tf (g5.tf (g4.tf f3))))), ((g9.wb (g7.wb (g6.wb (g5.wb (g4.wb wp3x))))).up (by omega)), ((g9.wb (g7.wb (g6.wb (g5.wb (g4.wb wp3y))))).up (by omega)), ((g9.wb (g7.wb (g6.wb (g5.wb (g4.wb wp3w))))).up (by omega))⟩) (show TB h9 c p5 (p_cross_S (tpT S a) (tpT S b)) (41) from ⟨_, _, _, (g9.tf (g7.tf (g6.tf f5))), ((g9.wb (g7.wb (g6.wb wp5x))).up (by omega)), ((g9.wb (g7.wb (g6.wb wp5y))).up (by omega)), ((g9.wb (g7.wb (g6.wb wp5w))).up (by omega))⟩)) ?_
        rintro _ h11 ⟨p11, rfl, g11, wp11⟩
        have G11 := G9.trans g11
        refine g_aload_n rfl rfl ?_
        refine g_getR rfl (G11.cs.kd 10 (by omega) rfl) (G11.cs.rf 13 (by omega) rfl) ?_
        refine g_aload rfl rfl ?_
        refine g_aload rfl rfl ?_
        refine g_aload rfl rfl ?_
        refine g_callVO [aO (some p2), aO (some p4), aO (some p5)] [aO (some p11), aO (some (c + 1)), aO (some (c + 1))] rfl rfl rfl rfl (Nat.le_of_ble_eq_true rfl) (G11.cs.kd 6 (by omega) rfl) (p_bra (by omega) G11.ci (show TB h11 c p2 (tpT S b) (20) from ⟨_, _, _, (g11.tf (g9.tf (g7.tf (g6.tf (g5.tf (g4.tf (g3.tf f2))))))), ((g11.wb (g9.wb (g7.wb (g6.wb (g5.wb (g4.wb (g3.wb wp2x))))))).up (by omega)), ((g11.wb (g9.wb (g7.wb (g6.wb (g5.wb (g4.wb (g3.wb wp2y))))))).up (by omega)), ((g11.wb (g9.wb (g7.wb (g6.wb (g5.wb (g4.wb (g3.wb wp2w))))))).up (by omega))⟩) (show TB h11 c p4 (tpT S f) (20) from ⟨_, _, _, (g11.tf (g9.tf (g7.tf (g6.tf (g5.tf f4))))), ((g11.wb (g9.wb (g7.wb (g6.wb (g5.wb wp4x))))).up (by omega)), ((g11.wb (g9.wb (g7.wb (g6.wb (g5.wb wp4y))))).up (by omega)), ((g11.wb (g9.wb (g7.wb (g6.wb (g5.wb wp4w))))).up (by omega))⟩) (show TB h11 c p5 (p_cross_S (tpT S a) (tpT S b)) (41) from ⟨_, _, _, (g11.tf (g9.tf (g7.tf (g6.tf f5)))), ((g11.wb (g9.wb (g7.wb (g6.wb wp5x)))).up (by omega)), ((g11.wb (g9.wb (g7.wb (g6.wb wp5y)))).up (by omega)), ((g11.wb (g9.wb (g7.wb (g6.wb wp5w)))).up (by omega))⟩)) ?_
        rintro _ h12 ⟨p12, rfl, g12, wp12⟩
        have G12 := G11.trans g12
        refine g_aload_n rfl rfl ?_
        refine g_getR rfl (G12.cs.kd 10 (by omega) rfl) (G12.cs.rf 13 (by omega) rfl) ?_
        refine g_aload rfl rfl ?_
        refine g_aload rfl rfl ?_
        refine g_aload rfl rfl ?_
        refine g_callVO [aO (some p1), aO (some p4), aO (some p5)] [aO (some p12), aO (some p11), aO (some (c + 1)), aO (some (c + 1))] rfl rfl rfl rfl (Nat.le_of_ble_eq_true rfl) (G12.cs.kd 6 (by omega) rfl) (p_bra (by omega) G12.ci (show TB h12 c p1 (tpT S a) (20) from ⟨_, _, _, (g12.tf (g11.tf (g9.tf (g7.tf (g6.tf (g5.tf (g4.tf (g3.tf (g2.tf f1))))))))), ((g12.wb (g11.wb (g9.wb (g7.wb (g6.wb (g5.wb (g4.wb (g3.wb (g2.wb wp1x))))))))).up (by omega)), ((g12.wb (g11.wb (g9.wb (g7.wb (g6.wb (g5.wb (g4.wb (g3.wb (g2.wb wp1y))))))))).up (by omega)), ((g12.wb (g11.wb (g9.wb (g7.wb (g6.wb (g5.wb (g4.wb (g3.wb (g2.wb wp1w))))))))).up (by omega))⟩) (show TB h12 c p4 (tpT S f) (20) from ⟨_, _, _, (g12.tf (g11.tf (g9.tf (g7.tf (g6.tf (g5.tf f4)))))), ((g12.wb (g11.wb (g9.wb (g7.wb (g6.wb (g5.wb wp4x)))))).up (by omega)), ((g12.wb (g11.wb (g9.wb (g7.wb (g6.wb (g5.wb wp4y)))))).up (by omega)), ((g12.wb (g11.wb (g9.wb (g7.wb (g6.wb (g5.wb wp4w)))))).up (by omega))⟩) (show TB h12 c p5 (p_cross_S (tpT S a) (tpT S b)) (41) from ⟨_, _, _, (g12.tf (g11.tf (g9.tf (g7.tf (g6.tf f5))))), ((g12.wb (g11.wb (g9.wb (g7.wb (g6.wb wp5x))))).up (by omega)), ((g12.wb (g11.wb (g9.wb (g7.wb (g6.wb wp5y))))).up (by omega)), ((g12.wb (g11.wb (g9.wb (g7.wb (g6.wb wp5w))))).up (by omega))⟩)) ?_
        rintro _ h13 ⟨p13, rfl, g13, wp13⟩
        have G13 := G12.trans g13
        refine g_aload_n rfl rfl ?_
        refine g_getR rfl (G13.cs.kd 10 (by omega) rfl) (G13.cs.rf 13 (by omega) rfl) ?_
        refine g_aload rfl rfl ?_
        refine g_aload rfl rfl ?_
        refine g_aload rfl rfl ?_
        refine g_callVO [aO (some p2), aO (some p3), aO (some p5)] [aO (some p13), aO (some p12), aO (some p11), aO (some (c + 1)), aO (some (c + 1))] rfl rfl rfl rfl (Nat.le_of_ble_eq_true rfl) (G13.cs.kd 6 (by omega) rfl) (p_bra (by omega) G13.ci (show TB h13 c p2 (tpT S b) (20) from ⟨_, _, _, (g13.tf (g12.tf (g11.tf (g9.tf (g7.tf (g6.tf (g5.tf (g4.tf (g3.tf f2))))))))), ((g13.wb (g12.wb (g11.wb (g9.wb (g7.wb (g6.wb (g5.wb (g4.wb (g3.wb wp2x))))))))).up (by omega)), ((g13.wb (g12.wb (g11.wb (g9.wb (g7.wb (g6.wb (g5.wb (g4.wb (g3.wb wp2y))))))))).up (by omega)), ((g13.wb (g12.wb (g11.wb (g9.wb (g7.wb (g6.wb (g5.wb (g4.wb (g3.wb wp2w))))))))).up (by omega))⟩) (show TB h13 c p3 (tpT S e) (20) from ⟨_, _, _, (g13.tf (g12.tf (g11.tf (g9.tf (g7.tf (g6.tf (g5.tf (g4.tf f3)))))))), ((g13.wb (g12.wb (g11.wb (g9.wb (g7.wb (g6.wb (g5.wb (g4.wb wp3x)))))))).up (by omega)), ((g13.wb (g12.wb (g11.wb (g9.wb (g7.wb (g6.wb (g5.wb (g4.wb wp3y)))))))).up (by omega)), ((g13.wb (g12.wb (g11.wb (g9.wb (g7.wb (g6.wb (g5.wb (g4.wb wp3w)))))))).up (by omega))⟩) (show TB h13 c p5 (p_cross_S (tpT S a) (tpT S b)) (41) from ⟨_, _, _, (g13.tf (g12.tf (g11.tf (g9.tf (g7.tf (g6.tf f5)))))), ((g13.wb (g12.wb (g11.wb (g9.wb (g7.wb (g6.wb wp5x)))))).up (by omega)), ((g13.wb (g12.wb (g11.wb (g9.wb (g7.wb (g6.wb wp5y)))))).up (by omega)), ((g13.wb (g12.wb (g11.wb (g9.wb (g7.wb (g6.wb wp5w)))))).up (by omega))⟩)) ?_
        rintro _ h14 ⟨p14, rfl, g14, wp14⟩
        have G14 := G13.trans g14
        refine g_callVO [aO (some p11), aO (some p12), aO (some p13), aO (some p14)] [aO (some (c + 1))] rfl rfl rfl rfl (Nat.le_of_ble_eq_true rfl) (G14.cs.kd 1 (by omega) rfl) (s_added (by omega) G14.ci (g14.wb (g13.wb (g12.wb wp11))) (g14.wb (g13.wb wp12)) (g14.wb wp13) wp14 (83) (by omega) (by omega) (by omega)) ?_
        rintro _ h15 ⟨p15, rfl, g15, wp15⟩
        have G15 := G14.trans g15
        refine g_callVI [aO (some p15)] [] rfl rfl rfl rfl (Nat.le_of_ble_eq_true rfl) (G15.cs.kd 1 (by omega) rfl) (s_isZero (by omega) G15.ci wp15) ?_
        rintro _ hx16 ⟨ehx16, rfl⟩
        rw [ehx16]
        clear ehx16 hx16
        refine g_zret rfl (by omega) ?_
        refine ⟨G15.mono (by omega), ?_⟩
        first
          | rfl
          | (refine (if_pos ?_).symm; refine ⟨?_, ?_, ?_, ?_⟩ <;> assumption)
          | (refine (if_neg fun q => ?_).symm; obtain ⟨q0, q1, q2, q3⟩ := q; contradiction)
          | (split <;> first | (refine (if_pos ?_).symm; refine ⟨?_, ?_, ?_, ?_⟩ <;> assumption) | (refine (if_neg fun q => ?_).symm; obtain ⟨q0, q1, q2, q3⟩ := q; contradiction))
      · skip
        refine g_iconst rfl ?_
        refine g_zret rfl (by omega) ?_
        refine ⟨G9.mono (by omega), ?_⟩
        first
          | rfl
          | (refine (if_pos ?_).symm; refine ⟨?_, ?_, ?_, ?_⟩ <;> assumption)
          | (refine (if_neg fun q => ?_).symm; obtain ⟨q0, q1, q2, q3⟩ := q; contradiction)
          | (split <;> first | (refine (if_pos ?_).symm; refine ⟨?_, ?_, ?_, ?_⟩ <;> assumption) | (refine (if_neg fun q => ?_).symm; obtain ⟨q0, q1, q2, q3⟩ := q; contradiction))
