/-! the class's faces, on: measures, statements, a thing told: printed by wip/whole/dd.py -/
def keepF (S : aS) (U D : Int) : Int × aS := if (-1073741824 ≤ quo U ((Int.gcd U D : Nat) : Int) ∧ quo U ((Int.gcd U D : Nat) : Int) ≤ 1073741824) ∧ (-1073741824 ≤ quo D ((Int.gcd U D : Nat) : Int) ∧ quo D ((Int.gcd U D : Nat) : Int) ≤ 1073741824) then spF S (quo U ((Int.gcd U D : Nat) : Int)) (quo D ((Int.gcd U D : Nat) : Int)) else (-4, S)
def keepMQ (S : aS) (O : Option T3) : Int × aS := match O with
  | none => (-3, S)
  | some P => keepF S P.1 P.2.2
def KN (h h1 : aH) (c n : Nat) : Prop := ∃ h2 V, Gr h h2 c n ∧ h1 = hw h2 V ∧ ∀ a, a ≠ c + 3 → a ≠ c + 4 → a ≠ c + 5 → V a = hV h2 a
theorem KN.gr {h h0 h1 : aH} {c n m : Nat} (g : Gr h h0 c n) (k : KN h0 h1 c m) : KN h h1 c (n + m) := by
  obtain ⟨h2, V, g2, e, f⟩ := k
  exact ⟨h2, V, g.trans g2, e, f⟩
theorem KN.mono {h h1 : aH} {c n m : Nat} (k : KN h h1 c n) (hm : n ≤ m) : KN h h1 c m := by
  obtain ⟨h2, V, g2, e, f⟩ := k
  exact ⟨h2, V, g2.mono hm, e, f⟩
theorem KN.fx {h h0 h1 : aH} {c n : Nat} (k : KN h0 h1 c n) (e0 : h0 = hw h (vset (hV h) (c + 1) 1 0)) (hn : n ≤ 500) : FX h h1 c (nuT c) := by
  obtain ⟨h2, V, g, e1, f⟩ := k
  exact FX_of e0 g hn e1 (by unfold nuT; omega) (fun a ha => f a (fun q => ha (Or.inl q)) (fun q => ha (Or.inr (Or.inl q))) (fun q => ha (Or.inr (Or.inr q))))
set_option maxHeartbeats 4000000 in
theorem f_keepQ {w : aW} {d : Nat} (hd : 6 ≤ d) {k : Nat} {h : aH} {c : Nat} (ci : CI h c) {S : aS} (xt : XT h c S) (ok : OkT S) (xn : XN (hV h) c S) (okn : OkN S) {aU : Nat} {U : Int} (wU : WB h c aU U k) {aD : Nat} {D : Int} (wD : WB h c aD D k) (hk : k ≤ 382) : WP w d 236 [aO (some c), aO (some aU), aO (some aD)] h (RI (fun r h1 => KN h h1 c 30 ∧ r = (keepF S U D).1 ∧ XN (hV h1) c (keepF S U D).2)) := by
  obtain ⟨d, rfl⟩ : ∃ d1, d = d1 + 1 := ⟨d - 1, by omega⟩
  refine WP.enter (cd := cd_X11_keepQuotient) rfl ?_
  have G0 := Gr.refl ci
  have hls : largs 0 [aO (some c), aO (some aU), aO (some aD)] = [(0, aO (some c)), (1, aO (some aU)), (2, aO (some aD))] := rfl
  rw [hls]
  clear hls
  refine g_aload_n rfl rfl ?_
  refine g_getR rfl (G0.cs.kd 0 (by omega) rfl) (G0.cs.rf 1 (by omega) rfl) ?_
  refine g_aload_n rfl rfl ?_
  refine g_aload_n rfl rfl ?_
  refine g_callVO [aO (some aU), aO (some aD)] [] rfl rfl rfl rfl (Nat.le_of_ble_eq_true rfl) (G0.cs.kd 1 (by omega) rfl) (s_gcd (by omega) G0.ci wU wD (k) (by omega) (by omega) (by omega)) ?_
  rintro _ h1 ⟨p1, rfl, g1, wp1⟩
  have G1 := G0.trans g1
  refine g_astore_n (l1 := [(3, aO (some p1)), (0, aO (some c)), (1, aO (some aU)), (2, aO (some aD))]) rfl rfl ?_
  refine g_aload_n rfl rfl ?_
  refine g_getR rfl (G1.cs.kd 0 (by omega) rfl) (G1.cs.rf 1 (by omega) rfl) ?_
  refine g_aload_n rfl rfl ?_
  refine g_aload_n rfl rfl ?_
  refine g_callVO [aO (some aU), aO (some p1)] [] rfl rfl rfl rfl (Nat.le_of_ble_eq_true rfl) (G1.cs.kd 1 (by omega) rfl) (s_quo (by omega) G1.ci (g1.wb wU) wp1 (by omega) (by omega)) ?_
  rintro _ h2 ⟨p2, rfl, g2, wp2⟩
  have G2 := G1.trans g2
  refine g_astore (l1 := [(4, aO (some p2)), (3, aO (some p1)), (0, aO (some c)), (1, aO (some aU)), (2, aO (some aD))]) rfl rfl ?_
  refine g_aload_n rfl rfl ?_
  refine g_getR rfl (G2.cs.kd 0 (by omega) rfl) (G2.cs.rf 1 (by omega) rfl) ?_
  refine g_aload_n rfl rfl ?_
  refine g_aload_n rfl rfl ?_
  refine g_callVO [aO (some aD), aO (some p1)] [] rfl rfl rfl rfl (Nat.le_of_ble_eq_true rfl) (G2.cs.kd 1 (by omega) rfl) (s_quo (by omega) G2.ci (g2.wb (g1.wb wD)) (g2.wb wp1) (by omega) (by omega)) ?_
  rintro _ h3 ⟨p3, rfl, g3, wp3⟩
  have G3 := G2.trans g3
  refine g_astore (l1 := [(5, aO (some p3)), (4, aO (some p2)), (3, aO (some p1)), (0, aO (some c)), (1, aO (some aU)), (2, aO (some aD))]) rfl rfl ?_
  refine g_aload_n rfl rfl ?_
  refine g_getR rfl (G3.cs.kd 0 (by omega) rfl) (G3.cs.rf 1 (by omega) rfl) ?_
  refine g_aload rfl rfl ?_
  refine g_ldc2 rfl ?_
  refine g_callVI [aO (some p2), aJ 1073741824] [] rfl rfl rfl rfl (Nat.le_of_ble_eq_true rfl) (G3.cs.kd 1 (by omega) rfl) (s_isWithin (by omega) G3.ci (g3.wb wp2) (by omega) 1073741824 (by omega)) ?_
  rintro _ h4 ⟨g4, rfl⟩
  have G4 := G3.trans g4
  refine g_b_eq rfl (fun c44 => ?_) (fun c44 => ?_)
  · skip
    refine g_bipush rfl ?_
    refine g_iret rfl ?_
    unfold keepF
    first
      | rw [if_neg (fun q => c44 q.1)]
      | rw [if_neg (fun q => c59 q.2)]
    exact ⟨⟨h4, hV h4, G4.mono (by omega), rfl, fun _ _ _ _ => rfl⟩, rfl, (g4.xn G3.ci (g3.xn G2.ci (g2.xn G1.ci (g1.xn G0.ci xn))))⟩
  · skip
    refine g_aload_n rfl rfl ?_
    refine g_getR rfl (G4.cs.kd 0 (by omega) rfl) (G4.cs.rf 1 (by omega) rfl) ?_
    refine g_aload rfl rfl ?_
    refine g_ldc2 rfl ?_
    refine g_callVI [aO (some p3), aJ 1073741824] [] rfl rfl rfl rfl (Nat.le_of_ble_eq_true rfl) (G4.cs.kd 1 (by omega) rfl) (s_isWithin (by omega) G4.ci (g4.wb wp3) (by omega) 1073741824 (by omega)) ?_
    rintro _ h5 ⟨g5, rfl⟩
    have G5 := G4.trans g5
    refine g_b_ne rfl (fun c59 => ?_) (fun c59 => ?_)
    · skip
      refine g_aload_n rfl rfl ?_
      refine g_getR rfl (G5.cs.kd 0 (by omega) rfl) (G5.cs.rf 4 (by omega) rfl) ?_
      refine g_aload_n rfl rfl ?_
      refine g_getR rfl (G5.cs.kd 0 (by omega) rfl) (G5.cs.rf 1 (by omega) rfl) ?_
      refine g_aload rfl rfl ?_
      refine g_callVJ [aO (some p2)] [aO (some (c + 3))] rfl rfl rfl rfl (Nat.le_of_ble_eq_true rfl) (G5.cs.kd 1 (by omega) rfl) (s_longOf (by omega) G5.ci (g5.wb (g4.wb (g3.wb wp2))) (by unfold r64; omega)) ?_
      rintro _ hx6 ⟨ehx6, rfl⟩
      rw [ehx6]
      clear ehx6 hx6
      refine g_aload_n rfl rfl ?_
      refine g_getR rfl (G5.cs.kd 0 (by omega) rfl) (G5.cs.rf 1 (by omega) rfl) ?_
      refine g_aload rfl rfl ?_
      refine g_callVJ [aO (some p3)] [aJ (quo U (((Int.gcd U D : Nat) : Int))), aO (some (c + 3))] rfl rfl rfl rfl (Nat.le_of_ble_eq_true rfl) (G5.cs.kd 1 (by omega) rfl) (s_longOf (by omega) G5.ci (g5.wb (g4.wb wp3)) (by unfold r64; omega)) ?_
      rintro _ hx7 ⟨ehx7, rfl⟩
      rw [ehx7]
      clear ehx7 hx7
      refine g_callVI [aJ (quo U (((Int.gcd U D : Nat) : Int))), aJ (quo D (((Int.gcd U D : Nat) : Int)))] [] rfl rfl rfl rfl (Nat.le_of_ble_eq_true rfl) (G5.cs.kd 3 (by omega) rfl) (x_keepS (by omega) G5.cs (hV h5) (g5.xn G4.ci (g4.xn G3.ci (g3.xn G2.ci (g2.xn G1.ci (g1.xn G0.ci xn))))) okn (quo U (((Int.gcd U D : Nat) : Int))) (quo D (((Int.gcd U D : Nat) : Int))) (by omega) (by omega)) ?_
      rintro r9 _ ⟨V9, rfl, xn9, fn9, er9⟩
      refine g_iret rfl ?_
      unfold keepF
      rw [if_pos ⟨c44, c59⟩]
      exact ⟨⟨h5, V9, G5.mono (by omega), rfl, fn9⟩, er9, xn9⟩
    · skip
      refine g_bipush rfl ?_
      refine g_iret rfl ?_
      unfold keepF
      first
        | rw [if_neg (fun q => c44 q.1)]
        | rw [if_neg (fun q => c59 q.2)]
      exact ⟨⟨h5, hV h5, G5.mono (by omega), rfl, fun _ _ _ _ => rfl⟩, rfl, (g5.xn G4.ci (g4.xn G3.ci (g3.xn G2.ci (g2.xn G1.ci (g1.xn G0.ci xn)))))⟩
set_option maxHeartbeats 4000000 in
theorem x_meas0 {w : aW} {d : Nat} (hd : 9 ≤ d) {h : aH} {c : Nat} (ci : CI h c) {S : aS} (xt : XT h c S) (ok : OkT S) (xn : XN (hV h) c S) (okn : OkN S) (tx : ∀ i < 12, hT h (w i) = (8, i)) (a : Int) (b : Int) (e : Int) : WP w d 208 [aO (some c), aI 0, aI a, aI b, aI e] h (RI (fun r h1 => FX h h1 c (nuT c) ∧ r = (if isAS S 112 a ∧ isAS S 116 b ∧ isAS S 116 e then keepMQ S (if (tpT S a).2.2 = 0 then none else some (tpT S a)) else (-1, S)).1 ∧ XN (hV h1) c (if isAS S 112 a ∧ isAS S 116 b ∧ isAS S 116 e then keepMQ S (if (tpT S a).2.2 = 0 then none else some (tpT S a)) else (-1, S)).2)) := by
  obtain ⟨d, rfl⟩ : ∃ d1, d = d1 + 1 := ⟨d - 1, by omega⟩
  refine WP.enter (cd := cd_X11_measure) rfl ?_
  have G0 := Gr.refl ci
  have hls : largs 0 [aO (some c), aI 0, aI a, aI b, aI e] = [(0, aO (some c)), (1, aI 0), (2, aI a), (3, aI b), (4, aI e)] := rfl
  rw [hls]
  clear hls
  refine g_aload_n rfl rfl ?_
  refine g_ldcT rfl (by decide) ?_
  refine g_iload_n rfl rfl ?_
  refine g_callSI [aO (some (w 5)), aI 0] [aO (some c)] rfl rfl rfl rfl (Nat.le_of_ble_eq_true rfl) (x_sortAt (by omega) (tx 5 (by omega)) (by omega) 0) ?_
  rintro _ hq1 ⟨ehq1, rfl⟩
  rw [ehq1]
  clear ehq1 hq1
  refine g_top (v2 := aI 112) (congrArg aI (show chAt 5 0 = 112 by decide +kernel)) ?_
  refine g_iload_n rfl rfl ?_
  refine g_callVI [aI 112, aI a] [] rfl rfl rfl rfl (Nat.le_of_ble_eq_true rfl) (G0.cs.kd 0 (by omega) rfl) (x_isA (by omega) ci xt ok xn okn 112 a) ?_
  rintro _ hq2 ⟨ehq2, rfl⟩
  rw [ehq2]
  clear ehq2 hq2
  refine g_b_eq rfl (fun c11 => ?_) (fun c11 => ?_)
  · skip
    refine g_iconst rfl ?_
    refine g_iret rfl ?_
    first
      | (rw [if_neg (fun q => c11 q.1)]; exact ⟨FX.refl ci _, rfl, xn⟩)
      | (rw [if_neg (fun q => c25 q.2.1)]; exact ⟨FX.refl ci _, rfl, xn⟩)
      | (rw [if_neg (fun q => c40 q.2.2)]; exact ⟨FX.refl ci _, rfl, xn⟩)
  · skip
    refine g_aload_n rfl rfl ?_
    refine g_ldcT rfl (by decide) ?_
    refine g_iload_n rfl rfl ?_
    refine g_callSI [aO (some (w 6)), aI 0] [aO (some c)] rfl rfl rfl rfl (Nat.le_of_ble_eq_true rfl) (x_sortAt (by omega) (tx 6 (by omega)) (by omega) 0) ?_
    rintro _ hq3 ⟨ehq3, rfl⟩
    rw [ehq3]
    clear ehq3 hq3
    refine g_top (v2 := aI 116) (congrArg aI (show chAt 6 0 = 116 by decide +kernel)) ?_
    refine g_iload_n rfl rfl ?_
    refine g_callVI [aI 116, aI b] [] rfl rfl rfl rfl (Nat.le_of_ble_eq_true rfl) (G0.cs.kd 0 (by omega) rfl) (x_isA (by omega) ci xt ok xn okn 116 b) ?_
    rintro _ hq4 ⟨ehq4, rfl⟩
    rw [ehq4]
    clear ehq4 hq4
    refine g_b_eq rfl (fun c25 => ?_) (fun c25 => ?_)
    · skip
      refine g_iconst rfl ?_
      refine g_iret rfl ?_
      first
        | (rw [if_neg (fun q => c11 q.1)]; exact ⟨FX.refl ci _, rfl, xn⟩)
        | (rw [if_neg (fun q => c25 q.2.1)]; exact ⟨FX.refl ci _, rfl, xn⟩)
        | (rw [if_neg (fun q => c40 q.2.2)]; exact ⟨FX.refl ci _, rfl, xn⟩)
    · skip
      refine g_aload_n rfl rfl ?_
      refine g_ldcT rfl (by decide) ?_
      refine g_iload_n rfl rfl ?_
      refine g_callSI [aO (some (w 7)), aI 0] [aO (some c)] rfl rfl rfl rfl (Nat.le_of_ble_eq_true rfl) (x_sortAt (by omega) (tx 7 (by omega)) (by omega) 0) ?_
      rintro _ hq5 ⟨ehq5, rfl⟩
      rw [ehq5]
      clear ehq5 hq5
      refine g_top (v2 := aI 116) (congrArg aI (show chAt 7 0 = 116 by decide +kernel)) ?_
      refine g_iload rfl rfl ?_
      refine g_callVI [aI 116, aI e] [] rfl rfl rfl rfl (Nat.le_of_ble_eq_true rfl) (G0.cs.kd 0 (by omega) rfl) (x_isA (by omega) ci xt ok xn okn 116 e) ?_
      rintro _ hq6 ⟨ehq6, rfl⟩
      rw [ehq6]
      clear ehq6 hq6
      refine g_b_ne rfl (fun c40 => ?_) (fun c40 => ?_)
      · skip
        refine g_aload_n rfl rfl ?_
        refine g_getR rfl (G0.cs.kd 0 (by omega) rfl) (G0.cs.rf 1 (by omega) rfl) ?_
        have u11 := c11
        unfold isAS at u11
        have u25 := c25
        unfold isAS at u25
        have u40 := c40
        unfold isAS at u40
        refine g_callVN [] [] rfl rfl rfl rfl (Nat.le_of_ble_eq_true rfl) (G0.cs.kd 1 (by omega) rfl) (x_reset (by omega) ci) ?_
        rintro _ rfl
        obtain ⟨h0, eh0⟩ : ∃ h0, h0 = hw h (vset (hV h) (c + 1) 1 0) := ⟨_, rfl⟩
        rw [← eh0]
        have ci0 := ci.reset
        have xt0 := xt.reset
        have xn0 := xn.reset
        rw [← eh0] at ci0 xt0 xn0
        have ht : hV h0 (c + 1) 1 ≤ 10 := by rw [eh0]; show vset _ _ _ _ _ _ ≤ _; rw [vset_eq]; omega
        clear ci xt xn
        have ci := ci0
        have xt := xt0
        have xn := xn0
        clear ci0 xt0 xn0
        have G0 := Gr.refl ci
        refine g_iload_n rfl rfl ?_
        refine g_iconst rfl ?_
        refine g_icmp_eq_f rfl (by omega) ?_
        refine g_iload_n rfl rfl ?_
        refine g_iconst rfl ?_
        refine g_icmp_ne_t rfl (by omega) ?_
        refine g_aload_n rfl rfl ?_
        refine g_iload_n rfl rfl ?_
        refine g_iload_n rfl rfl ?_
        refine g_iload_n rfl rfl ?_
        refine g_iload rfl rfl ?_
        refine g_callVO [aI 0, aI a, aI b, aI e] [] rfl rfl rfl rfl (Nat.le_of_ble_eq_true rfl) (G0.cs.kd 0 (by omega) rfl) (f_ms0 (by omega) G0.ci xt ok xn okn a (by omega) b e) ?_
        rintro r7 h7 ⟨g7, q7⟩
        have G7 := G0.trans g7
        cases eS7 : if (tpT S a).2.2 = 0 then none else some (tpT S a) with
        | none =>
          rw [eS7] at q7
          obtain rfl : r7 = none := q7
          refine g_astore (l1 := [(5, aO none), (0, aO (some c)), (1, aI 0), (2, aI a), (3, aI b), (4, aI e)]) rfl rfl ?_
          refine g_aload rfl rfl ?_
          refine g_ifnonnull_f rfl ?_
          refine g_bipush rfl ?_
          refine g_iret rfl ?_
          rw [if_pos ⟨c11, c25, c40⟩]
          exact ⟨G7.fx eh0 (by omega) (by unfold nuT; omega), rfl, (g7.xn G0.ci xn)⟩
        | some P7 =>
          rw [eS7] at q7
          obtain ⟨p7, rfl, p7x, p7y, p7w, f7, wp7x, wp7y, wp7w⟩ := q7
          refine g_astore (l1 := [(5, aO (some p7)), (0, aO (some c)), (1, aI 0), (2, aI a), (3, aI b), (4, aI e)]) rfl rfl ?_
          refine g_aload rfl rfl ?_
          refine g_ifnonnull_t rfl ?_
          refine g_aload_n rfl rfl ?_
          refine g_aload rfl rfl ?_
          refine g_getR rfl f7.1.2.2 f7.2.1 ?_
          refine g_aload rfl rfl ?_
          refine g_getR rfl f7.1.2.2 f7.2.2.2 ?_
          refine g_callVI [aO (some p7x), aO (some p7w)] [] rfl rfl rfl rfl (Nat.le_of_ble_eq_true rfl) (G7.cs.kd 0 (by omega) rfl) (f_keepQ (k := 20) (by omega) G7.ci (g7.xt G0.ci xt) ok (g7.xn G0.ci xn) okn ((wp7x.up (by omega))) ((wp7w.up (by omega))) (by omega)) ?_
          rintro r9 h9 ⟨kn9, er9, xn9⟩
          refine g_iret rfl ?_
          rw [if_pos ⟨c11, c25, c40⟩]
          exact ⟨(kn9.gr G7).fx eh0 (by omega), er9, xn9⟩
      · skip
        refine g_iconst rfl ?_
        refine g_iret rfl ?_
        first
          | (rw [if_neg (fun q => c11 q.1)]; exact ⟨FX.refl ci _, rfl, xn⟩)
          | (rw [if_neg (fun q => c25 q.2.1)]; exact ⟨FX.refl ci _, rfl, xn⟩)
          | (rw [if_neg (fun q => c40 q.2.2)]; exact ⟨FX.refl ci _, rfl, xn⟩)
set_option maxHeartbeats 4000000 in
theorem x_meas1 {w : aW} {d : Nat} (hd : 9 ≤ d) {h : aH} {c : Nat} (ci : CI h c) {S : aS} (xt : XT h c S) (ok : OkT S) (xn : XN (hV h) c S) (okn : OkN S) (tx : ∀ i < 12, hT h (w i) = (8, i)) (a : Int) (b : Int) (e : Int) : WP w d 208 [aO (some c), aI 1, aI a, aI b, aI e] h (RI (fun r h1 => FX h h1 c (nuT c) ∧ r = (if isAS S 112 a ∧ isAS S 116 b ∧ isAS S 116 e then keepMQ S (if (tpT S a).2.2 = 0 then none else some ((tpT S a).2.1, (tpT S a).2.1, (tpT S a).2.2)) else (-1, S)).1 ∧ XN (hV h1) c (if isAS S 112 a ∧ isAS S 116 b ∧ isAS S 116 e then keepMQ S (if (tpT S a).2.2 = 0 then none else some ((tpT S a).2.1, (tpT S a).2.1, (tpT S a).2.2)) else (-1, S)).2)) := by
  obtain ⟨d, rfl⟩ : ∃ d1, d = d1 + 1 := ⟨d - 1, by omega⟩
  refine WP.enter (cd := cd_X11_measure) rfl ?_
  have G0 := Gr.refl ci
  have hls : largs 0 [aO (some c), aI 1, aI a, aI b, aI e] = [(0, aO (some c)), (1, aI 1), (2, aI a), (3, aI b), (4, aI e)] := rfl
  rw [hls]
  clear hls
  refine g_aload_n rfl rfl ?_
  refine g_ldcT rfl (by decide) ?_
  refine g_iload_n rfl rfl ?_
  refine g_callSI [aO (some (w 5)), aI 1] [aO (some c)] rfl rfl rfl rfl (Nat.le_of_ble_eq_true rfl) (x_sortAt (by omega) (tx 5 (by omega)) (by omega) 1) ?_
  rintro _ hq1 ⟨ehq1, rfl⟩
  rw [ehq1]
  clear ehq1 hq1
  refine g_top (v2 := aI 112) (congrArg aI (show chAt 5 1 = 112 by decide +kernel)) ?_
  refine g_iload_n rfl rfl ?_
  refine g_callVI [aI 112, aI a] [] rfl rfl rfl rfl (Nat.le_of_ble_eq_true rfl) (G0.cs.kd 0 (by omega) rfl) (x_isA (by omega) ci xt ok xn okn 112 a) ?_
  rintro _ hq2 ⟨ehq2, rfl⟩
  rw [ehq2]
  clear ehq2 hq2
  refine g_b_eq rfl (fun c11 => ?_) (fun c11 => ?_)
  · skip
    refine g_iconst rfl ?_
    refine g_iret rfl ?_
    first
      | (rw [if_neg (fun q => c11 q.1)]; exact ⟨FX.refl ci _, rfl, xn⟩)
      | (rw [if_neg (fun q => c25 q.2.1)]; exact ⟨FX.refl ci _, rfl, xn⟩)
      | (rw [if_neg (fun q => c40 q.2.2)]; exact ⟨FX.refl ci _, rfl, xn⟩)
  · skip
    refine g_aload_n rfl rfl ?_
    refine g_ldcT rfl (by decide) ?_
    refine g_iload_n rfl rfl ?_
    refine g_callSI [aO (some (w 6)), aI 1] [aO (some c)] rfl rfl rfl rfl (Nat.le_of_ble_eq_true rfl) (x_sortAt (by omega) (tx 6 (by omega)) (by omega) 1) ?_
    rintro _ hq3 ⟨ehq3, rfl⟩
    rw [ehq3]
    clear ehq3 hq3
    refine g_top (v2 := aI 116) (congrArg aI (show chAt 6 1 = 116 by decide +kernel)) ?_
    refine g_iload_n rfl rfl ?_
    refine g_callVI [aI 116, aI b] [] rfl rfl rfl rfl (Nat.le_of_ble_eq_true rfl) (G0.cs.kd 0 (by omega) rfl) (x_isA (by omega) ci xt ok xn okn 116 b) ?_
    rintro _ hq4 ⟨ehq4, rfl⟩
    rw [ehq4]
    clear ehq4 hq4
    refine g_b_eq rfl (fun c25 => ?_) (fun c25 => ?_)
    · skip
      refine g_iconst rfl ?_
      refine g_iret rfl ?_
      first
        | (rw [if_neg (fun q => c11 q.1)]; exact ⟨FX.refl ci _, rfl, xn⟩)
        | (rw [if_neg (fun q => c25 q.2.1)]; exact ⟨FX.refl ci _, rfl, xn⟩)
        | (rw [if_neg (fun q => c40 q.2.2)]; exact ⟨FX.refl ci _, rfl, xn⟩)
    · skip
      refine g_aload_n rfl rfl ?_
      refine g_ldcT rfl (by decide) ?_
      refine g_iload_n rfl rfl ?_
      refine g_callSI [aO (some (w 7)), aI 1] [aO (some c)] rfl rfl rfl rfl (Nat.le_of_ble_eq_true rfl) (x_sortAt (by omega) (tx 7 (by omega)) (by omega) 1) ?_
      rintro _ hq5 ⟨ehq5, rfl⟩
      rw [ehq5]
      clear ehq5 hq5
      refine g_top (v2 := aI 116) (congrArg aI (show chAt 7 1 = 116 by decide +kernel)) ?_
      refine g_iload rfl rfl ?_
      refine g_callVI [aI 116, aI e] [] rfl rfl rfl rfl (Nat.le_of_ble_eq_true rfl) (G0.cs.kd 0 (by omega) rfl) (x_isA (by omega) ci xt ok xn okn 116 e) ?_
      rintro _ hq6 ⟨ehq6, rfl⟩
      rw [ehq6]
      clear ehq6 hq6
      refine g_b_ne rfl (fun c40 => ?_) (fun c40 => ?_)
      · skip
        refine g_aload_n rfl rfl ?_
        refine g_getR rfl (G0.cs.kd 0 (by omega) rfl) (G0.cs.rf 1 (by omega) rfl) ?_
        have u11 := c11
        unfold isAS at u11
        have u25 := c25
        unfold isAS at u25
        have u40 := c40
        unfold isAS at u40
        refine g_callVN [] [] rfl rfl rfl rfl (Nat.le_of_ble_eq_true rfl) (G0.cs.kd 1 (by omega) rfl) (x_reset (by omega) ci) ?_
        rintro _ rfl
        obtain ⟨h0, eh0⟩ : ∃ h0, h0 = hw h (vset (hV h) (c + 1) 1 0) := ⟨_, rfl⟩
        rw [← eh0]
        have ci0 := ci.reset
        have xt0 := xt.reset
        have xn0 := xn.reset
        rw [← eh0] at ci0 xt0 xn0
        have ht : hV h0 (c + 1) 1 ≤ 10 := by rw [eh0]; show vset _ _ _ _ _ _ ≤ _; rw [vset_eq]; omega
        clear ci xt xn
        have ci := ci0
        have xt := xt0
        have xn := xn0
        clear ci0 xt0 xn0
        have G0 := Gr.refl ci
        refine g_iload_n rfl rfl ?_
        refine g_iconst rfl ?_
        refine g_icmp_eq_f rfl (by omega) ?_
        refine g_iload_n rfl rfl ?_
        refine g_iconst rfl ?_
        refine g_icmp_ne_t rfl (by omega) ?_
        refine g_aload_n rfl rfl ?_
        refine g_iload_n rfl rfl ?_
        refine g_iload_n rfl rfl ?_
        refine g_iload_n rfl rfl ?_
        refine g_iload rfl rfl ?_
        refine g_callVO [aI 1, aI a, aI b, aI e] [] rfl rfl rfl rfl (Nat.le_of_ble_eq_true rfl) (G0.cs.kd 0 (by omega) rfl) (f_ms1 (by omega) G0.ci xt ok xn okn a (by omega) b e) ?_
        rintro r7 h7 ⟨g7, q7⟩
        have G7 := G0.trans g7
        cases eS7 : if (tpT S a).2.2 = 0 then none else some ((tpT S a).2.1, (tpT S a).2.1, (tpT S a).2.2) with
        | none =>
          rw [eS7] at q7
          obtain rfl : r7 = none := q7
          refine g_astore (l1 := [(5, aO none), (0, aO (some c)), (1, aI 1), (2, aI a), (3, aI b), (4, aI e)]) rfl rfl ?_
          refine g_aload rfl rfl ?_
          refine g_ifnonnull_f rfl ?_
          refine g_bipush rfl ?_
          refine g_iret rfl ?_
          rw [if_pos ⟨c11, c25, c40⟩]
          exact ⟨G7.fx eh0 (by omega) (by unfold nuT; omega), rfl, (g7.xn G0.ci xn)⟩
        | some P7 =>
          rw [eS7] at q7
          obtain ⟨p7, rfl, p7x, p7y, p7w, f7, wp7x, wp7y, wp7w⟩ := q7
          refine g_astore (l1 := [(5, aO (some p7)), (0, aO (some c)), (1, aI 1), (2, aI a), (3, aI b), (4, aI e)]) rfl rfl ?_
          refine g_aload rfl rfl ?_
          refine g_ifnonnull_t rfl ?_
          refine g_aload_n rfl rfl ?_
          refine g_aload rfl rfl ?_
          refine g_getR rfl f7.1.2.2 f7.2.1 ?_
          refine g_aload rfl rfl ?_
          refine g_getR rfl f7.1.2.2 f7.2.2.2 ?_
          refine g_callVI [aO (some p7x), aO (some p7w)] [] rfl rfl rfl rfl (Nat.le_of_ble_eq_true rfl) (G7.cs.kd 0 (by omega) rfl) (f_keepQ (k := 20) (by omega) G7.ci (g7.xt G0.ci xt) ok (g7.xn G0.ci xn) okn ((wp7x.up (by omega))) ((wp7w.up (by omega))) (by omega)) ?_
          rintro r9 h9 ⟨kn9, er9, xn9⟩
          refine g_iret rfl ?_
          rw [if_pos ⟨c11, c25, c40⟩]
          exact ⟨(kn9.gr G7).fx eh0 (by omega), er9, xn9⟩
      · skip
        refine g_iconst rfl ?_
        refine g_iret rfl ?_
        first
          | (rw [if_neg (fun q => c11 q.1)]; exact ⟨FX.refl ci _, rfl, xn⟩)
          | (rw [if_neg (fun q => c25 q.2.1)]; exact ⟨FX.refl ci _, rfl, xn⟩)
          | (rw [if_neg (fun q => c40 q.2.2)]; exact ⟨FX.refl ci _, rfl, xn⟩)
set_option maxHeartbeats 4000000 in
theorem x_meas2 {w : aW} {d : Nat} (hd : 9 ≤ d) {h : aH} {c : Nat} (ci : CI h c) {S : aS} (xt : XT h c S) (ok : OkT S) (xn : XN (hV h) c S) (okn : OkN S) (tx : ∀ i < 12, hT h (w i) = (8, i)) (a : Int) (b : Int) (e : Int) : WP w d 208 [aO (some c), aI 2, aI a, aI b, aI e] h (RI (fun r h1 => FX h h1 c (nuT c) ∧ r = (if isAS S 112 a ∧ isAS S 112 b ∧ isAS S 116 e then keepMQ S (p_way_O (tpT S a) (tpT S b)) else (-1, S)).1 ∧ XN (hV h1) c (if isAS S 112 a ∧ isAS S 112 b ∧ isAS S 116 e then keepMQ S (p_way_O (tpT S a) (tpT S b)) else (-1, S)).2)) := by
  obtain ⟨d, rfl⟩ : ∃ d1, d = d1 + 1 := ⟨d - 1, by omega⟩
  refine WP.enter (cd := cd_X11_measure) rfl ?_
  have G0 := Gr.refl ci
  have hls : largs 0 [aO (some c), aI 2, aI a, aI b, aI e] = [(0, aO (some c)), (1, aI 2), (2, aI a), (3, aI b), (4, aI e)] := rfl
  rw [hls]
  clear hls
  refine g_aload_n rfl rfl ?_
  refine g_ldcT rfl (by decide) ?_
  refine g_iload_n rfl rfl ?_
  refine g_callSI [aO (some (w 5)), aI 2] [aO (some c)] rfl rfl rfl rfl (Nat.le_of_ble_eq_true rfl) (x_sortAt (by omega) (tx 5 (by omega)) (by omega) 2) ?_
  rintro _ hq1 ⟨ehq1, rfl⟩
  rw [ehq1]
  clear ehq1 hq1
  refine g_top (v2 := aI 112) (congrArg aI (show chAt 5 2 = 112 by decide +kernel)) ?_
  refine g_iload_n rfl rfl ?_
  refine g_callVI [aI 112, aI a] [] rfl rfl rfl rfl (Nat.le_of_ble_eq_true rfl) (G0.cs.kd 0 (by omega) rfl) (x_isA (by omega) ci xt ok xn okn 112 a) ?_
  rintro _ hq2 ⟨ehq2, rfl⟩
  rw [ehq2]
  clear ehq2 hq2
  refine g_b_eq rfl (fun c11 => ?_) (fun c11 => ?_)
  · skip
    refine g_iconst rfl ?_
    refine g_iret rfl ?_
    first
      | (rw [if_neg (fun q => c11 q.1)]; exact ⟨FX.refl ci _, rfl, xn⟩)
      | (rw [if_neg (fun q => c25 q.2.1)]; exact ⟨FX.refl ci _, rfl, xn⟩)
      | (rw [if_neg (fun q => c40 q.2.2)]; exact ⟨FX.refl ci _, rfl, xn⟩)
  · skip
    refine g_aload_n rfl rfl ?_
    refine g_ldcT rfl (by decide) ?_
    refine g_iload_n rfl rfl ?_
    refine g_callSI [aO (some (w 6)), aI 2] [aO (some c)] rfl rfl rfl rfl (Nat.le_of_ble_eq_true rfl) (x_sortAt (by omega) (tx 6 (by omega)) (by omega) 2) ?_
    rintro _ hq3 ⟨ehq3, rfl⟩
    rw [ehq3]
    clear ehq3 hq3
    refine g_top (v2 := aI 112) (congrArg aI (show chAt 6 2 = 112 by decide +kernel)) ?_
    refine g_iload_n rfl rfl ?_
    refine g_callVI [aI 112, aI b] [] rfl rfl rfl rfl (Nat.le_of_ble_eq_true rfl) (G0.cs.kd 0 (by omega) rfl) (x_isA (by omega) ci xt ok xn okn 112 b) ?_
    rintro _ hq4 ⟨ehq4, rfl⟩
    rw [ehq4]
    clear ehq4 hq4
    refine g_b_eq rfl (fun c25 => ?_) (fun c25 => ?_)
    · skip
      refine g_iconst rfl ?_
      refine g_iret rfl ?_
      first
        | (rw [if_neg (fun q => c11 q.1)]; exact ⟨FX.refl ci _, rfl, xn⟩)
        | (rw [if_neg (fun q => c25 q.2.1)]; exact ⟨FX.refl ci _, rfl, xn⟩)
        | (rw [if_neg (fun q => c40 q.2.2)]; exact ⟨FX.refl ci _, rfl, xn⟩)
    · skip
      refine g_aload_n rfl rfl ?_
      refine g_ldcT rfl (by decide) ?_
      refine g_iload_n rfl rfl ?_
      refine g_callSI [aO (some (w 7)), aI 2] [aO (some c)] rfl rfl rfl rfl (Nat.le_of_ble_eq_true rfl) (x_sortAt (by omega) (tx 7 (by omega)) (by omega) 2) ?_
      rintro _ hq5 ⟨ehq5, rfl⟩
      rw [ehq5]
      clear ehq5 hq5
      refine g_top (v2 := aI 116) (congrArg aI (show chAt 7 2 = 116 by decide +kernel)) ?_
      refine g_iload rfl rfl ?_
      refine g_callVI [aI 116, aI e] [] rfl rfl rfl rfl (Nat.le_of_ble_eq_true rfl) (G0.cs.kd 0 (by omega) rfl) (x_isA (by omega) ci xt ok xn okn 116 e) ?_
      rintro _ hq6 ⟨ehq6, rfl⟩
      rw [ehq6]
      clear ehq6 hq6
      refine g_b_ne rfl (fun c40 => ?_) (fun c40 => ?_)
      · skip
        refine g_aload_n rfl rfl ?_
        refine g_getR rfl (G0.cs.kd 0 (by omega) rfl) (G0.cs.rf 1 (by omega) rfl) ?_
        have u11 := c11
        unfold isAS at u11
        have u25 := c25
        unfold isAS at u25
        have u40 := c40
        unfold isAS at u40
        refine g_callVN [] [] rfl rfl rfl rfl (Nat.le_of_ble_eq_true rfl) (G0.cs.kd 1 (by omega) rfl) (x_reset (by omega) ci) ?_
        rintro _ rfl
        obtain ⟨h0, eh0⟩ : ∃ h0, h0 = hw h (vset (hV h) (c + 1) 1 0) := ⟨_, rfl⟩
        rw [← eh0]
        have ci0 := ci.reset
        have xt0 := xt.reset
        have xn0 := xn.reset
        rw [← eh0] at ci0 xt0 xn0
        have ht : hV h0 (c + 1) 1 ≤ 10 := by rw [eh0]; show vset _ _ _ _ _ _ ≤ _; rw [vset_eq]; omega
        clear ci xt xn
        have ci := ci0
        have xt := xt0
        have xn := xn0
        clear ci0 xt0 xn0
        have G0 := Gr.refl ci
        refine g_iload_n rfl rfl ?_
        refine g_iconst rfl ?_
        refine g_icmp_eq_f rfl (by omega) ?_
        refine g_iload_n rfl rfl ?_
        refine g_iconst rfl ?_
        refine g_icmp_ne_t rfl (by omega) ?_
        refine g_aload_n rfl rfl ?_
        refine g_iload_n rfl rfl ?_
        refine g_iload_n rfl rfl ?_
        refine g_iload_n rfl rfl ?_
        refine g_iload rfl rfl ?_
        refine g_callVO [aI 2, aI a, aI b, aI e] [] rfl rfl rfl rfl (Nat.le_of_ble_eq_true rfl) (G0.cs.kd 0 (by omega) rfl) (f_ms2 (by omega) G0.ci xt ok xn okn a (by omega) b (by omega) e) ?_
        rintro r7 h7 ⟨g7, q7⟩
        have G7 := G0.trans g7
        cases eS7 : p_way_O (tpT S a) (tpT S b) with
        | none =>
          rw [eS7] at q7
          obtain rfl : r7 = none := q7
          refine g_astore (l1 := [(5, aO none), (0, aO (some c)), (1, aI 2), (2, aI a), (3, aI b), (4, aI e)]) rfl rfl ?_
          refine g_aload rfl rfl ?_
          refine g_ifnonnull_f rfl ?_
          refine g_bipush rfl ?_
          refine g_iret rfl ?_
          rw [if_pos ⟨c11, c25, c40⟩]
          exact ⟨G7.fx eh0 (by omega) (by unfold nuT; omega), rfl, (g7.xn G0.ci xn)⟩
        | some P7 =>
          rw [eS7] at q7
          obtain ⟨p7, rfl, p7x, p7y, p7w, f7, wp7x, wp7y, wp7w⟩ := q7
          refine g_astore (l1 := [(5, aO (some p7)), (0, aO (some c)), (1, aI 2), (2, aI a), (3, aI b), (4, aI e)]) rfl rfl ?_
          refine g_aload rfl rfl ?_
          refine g_ifnonnull_t rfl ?_
          refine g_aload_n rfl rfl ?_
          refine g_aload rfl rfl ?_
          refine g_getR rfl f7.1.2.2 f7.2.1 ?_
          refine g_aload rfl rfl ?_
          refine g_getR rfl f7.1.2.2 f7.2.2.2 ?_
          refine g_callVI [aO (some p7x), aO (some p7w)] [] rfl rfl rfl rfl (Nat.le_of_ble_eq_true rfl) (G7.cs.kd 0 (by omega) rfl) (f_keepQ (k := 83) (by omega) G7.ci (g7.xt G0.ci xt) ok (g7.xn G0.ci xn) okn ((wp7x.up (by omega))) ((wp7w.up (by omega))) (by omega)) ?_
          rintro r9 h9 ⟨kn9, er9, xn9⟩
          refine g_iret rfl ?_
          rw [if_pos ⟨c11, c25, c40⟩]
          exact ⟨(kn9.gr G7).fx eh0 (by omega), er9, xn9⟩
      · skip
        refine g_iconst rfl ?_
        refine g_iret rfl ?_
        first
          | (rw [if_neg (fun q => c11 q.1)]; exact ⟨FX.refl ci _, rfl, xn⟩)
          | (rw [if_neg (fun q => c25 q.2.1)]; exact ⟨FX.refl ci _, rfl, xn⟩)
          | (rw [if_neg (fun q => c40 q.2.2)]; exact ⟨FX.refl ci _, rfl, xn⟩)
set_option maxHeartbeats 4000000 in
theorem x_meas3 {w : aW} {d : Nat} (hd : 9 ≤ d) {h : aH} {c : Nat} (ci : CI h c) {S : aS} (xt : XT h c S) (ok : OkT S) (xn : XN (hV h) c S) (okn : OkN S) (tx : ∀ i < 12, hT h (w i) = (8, i)) (a : Int) (b : Int) (e : Int) : WP w d 208 [aO (some c), aI 3, aI a, aI b, aI e] h (RI (fun r h1 => FX h h1 c (nuT c) ∧ r = (if isAS S 112 a ∧ isAS S 99 b ∧ isAS S 116 e then keepMQ S (if (tpT S a).2.2 = 0 then none else some (p_pow_S (tpT S a) (tpR S b))) else (-1, S)).1 ∧ XN (hV h1) c (if isAS S 112 a ∧ isAS S 99 b ∧ isAS S 116 e then keepMQ S (if (tpT S a).2.2 = 0 then none else some (p_pow_S (tpT S a) (tpR S b))) else (-1, S)).2)) := by
  obtain ⟨d, rfl⟩ : ∃ d1, d = d1 + 1 := ⟨d - 1, by omega⟩
  refine WP.enter (cd := cd_X11_measure) rfl ?_
  have G0 := Gr.refl ci
  have hls : largs 0 [aO (some c), aI 3, aI a, aI b, aI e] = [(0, aO (some c)), (1, aI 3), (2, aI a), (3, aI b), (4, aI e)] := rfl
  rw [hls]
  clear hls
  refine g_aload_n rfl rfl ?_
  refine g_ldcT rfl (by decide) ?_
  refine g_iload_n rfl rfl ?_
  refine g_callSI [aO (some (w 5)), aI 3] [aO (some c)] rfl rfl rfl rfl (Nat.le_of_ble_eq_true rfl) (x_sortAt (by omega) (tx 5 (by omega)) (by omega) 3) ?_
  rintro _ hq1 ⟨ehq1, rfl⟩
  rw [ehq1]
  clear ehq1 hq1
  refine g_top (v2 := aI 112) (congrArg aI (show chAt 5 3 = 112 by decide +kernel)) ?_
  refine g_iload_n rfl rfl ?_
  refine g_callVI [aI 112, aI a] [] rfl rfl rfl rfl (Nat.le_of_ble_eq_true rfl) (G0.cs.kd 0 (by omega) rfl) (x_isA (by omega) ci xt ok xn okn 112 a) ?_
  rintro _ hq2 ⟨ehq2, rfl⟩
  rw [ehq2]
  clear ehq2 hq2
  refine g_b_eq rfl (fun c11 => ?_) (fun c11 => ?_)
  · skip
    refine g_iconst rfl ?_
    refine g_iret rfl ?_
    first
      | (rw [if_neg (fun q => c11 q.1)]; exact ⟨FX.refl ci _, rfl, xn⟩)
      | (rw [if_neg (fun q => c25 q.2.1)]; exact ⟨FX.refl ci _, rfl, xn⟩)
      | (rw [if_neg (fun q => c40 q.2.2)]; exact ⟨FX.refl ci _, rfl, xn⟩)
  · skip
    refine g_aload_n rfl rfl ?_
    refine g_ldcT rfl (by decide) ?_
    refine g_iload_n rfl rfl ?_
    refine g_callSI [aO (some (w 6)), aI 3] [aO (some c)] rfl rfl rfl rfl (Nat.le_of_ble_eq_true rfl) (x_sortAt (by omega) (tx 6 (by omega)) (by omega) 3) ?_
    rintro _ hq3 ⟨ehq3, rfl⟩
    rw [ehq3]
    clear ehq3 hq3
    refine g_top (v2 := aI 99) (congrArg aI (show chAt 6 3 = 99 by decide +kernel)) ?_
    refine g_iload_n rfl rfl ?_
    refine g_callVI [aI 99, aI b] [] rfl rfl rfl rfl (Nat.le_of_ble_eq_true rfl) (G0.cs.kd 0 (by omega) rfl) (x_isA (by omega) ci xt ok xn okn 99 b) ?_
    rintro _ hq4 ⟨ehq4, rfl⟩
    rw [ehq4]
    clear ehq4 hq4
    refine g_b_eq rfl (fun c25 => ?_) (fun c25 => ?_)
    · skip
      refine g_iconst rfl ?_
      refine g_iret rfl ?_
      first
        | (rw [if_neg (fun q => c11 q.1)]; exact ⟨FX.refl ci _, rfl, xn⟩)
        | (rw [if_neg (fun q => c25 q.2.1)]; exact ⟨FX.refl ci _, rfl, xn⟩)
        | (rw [if_neg (fun q => c40 q.2.2)]; exact ⟨FX.refl ci _, rfl, xn⟩)
    · skip
      refine g_aload_n rfl rfl ?_
      refine g_ldcT rfl (by decide) ?_
      refine g_iload_n rfl rfl ?_
      refine g_callSI [aO (some (w 7)), aI 3] [aO (some c)] rfl rfl rfl rfl (Nat.le_of_ble_eq_true rfl) (x_sortAt (by omega) (tx 7 (by omega)) (by omega) 3) ?_
      rintro _ hq5 ⟨ehq5, rfl⟩
      rw [ehq5]
      clear ehq5 hq5
      refine g_top (v2 := aI 116) (congrArg aI (show chAt 7 3 = 116 by decide +kernel)) ?_
      refine g_iload rfl rfl ?_
      refine g_callVI [aI 116, aI e] [] rfl rfl rfl rfl (Nat.le_of_ble_eq_true rfl) (G0.cs.kd 0 (by omega) rfl) (x_isA (by omega) ci xt ok xn okn 116 e) ?_
      rintro _ hq6 ⟨ehq6, rfl⟩
      rw [ehq6]
      clear ehq6 hq6
      refine g_b_ne rfl (fun c40 => ?_) (fun c40 => ?_)
      · skip
        refine g_aload_n rfl rfl ?_
        refine g_getR rfl (G0.cs.kd 0 (by omega) rfl) (G0.cs.rf 1 (by omega) rfl) ?_
        have u11 := c11
        unfold isAS at u11
        have u25 := c25
        unfold isAS at u25
        have u40 := c40
        unfold isAS at u40
        refine g_callVN [] [] rfl rfl rfl rfl (Nat.le_of_ble_eq_true rfl) (G0.cs.kd 1 (by omega) rfl) (x_reset (by omega) ci) ?_
        rintro _ rfl
        obtain ⟨h0, eh0⟩ : ∃ h0, h0 = hw h (vset (hV h) (c + 1) 1 0) := ⟨_, rfl⟩
        rw [← eh0]
        have ci0 := ci.reset
        have xt0 := xt.reset
        have xn0 := xn.reset
        rw [← eh0] at ci0 xt0 xn0
        have ht : hV h0 (c + 1) 1 ≤ 10 := by rw [eh0]; show vset _ _ _ _ _ _ ≤ _; rw [vset_eq]; omega
        clear ci xt xn
        have ci := ci0
        have xt := xt0
        have xn := xn0
        clear ci0 xt0 xn0
        have G0 := Gr.refl ci
        refine g_iload_n rfl rfl ?_
        refine g_iconst rfl ?_
        refine g_icmp_eq_t rfl (by omega) ?_
        refine g_aload_n rfl rfl ?_
        refine g_iload_n rfl rfl ?_
        refine g_iload_n rfl rfl ?_
        refine g_iload_n rfl rfl ?_
        refine g_callVO [aI 3, aI a, aI b] [] rfl rfl rfl rfl (Nat.le_of_ble_eq_true rfl) (G0.cs.kd 0 (by omega) rfl) (f_mr3 (by omega) G0.ci xt ok xn okn a (by omega) b (by omega)) ?_
        rintro r7 h7 ⟨g7, q7⟩
        have G7 := G0.trans g7
        cases eS7 : if (tpT S a).2.2 = 0 then none else some (p_pow_S (tpT S a) (tpR S b)) with
        | none =>
          rw [eS7] at q7
          obtain rfl : r7 = none := q7
          refine g_goto rfl ?_
          refine g_astore (l1 := [(5, aO none), (0, aO (some c)), (1, aI 3), (2, aI a), (3, aI b), (4, aI e)]) rfl rfl ?_
          refine g_aload rfl rfl ?_
          refine g_ifnonnull_f rfl ?_
          refine g_bipush rfl ?_
          refine g_iret rfl ?_
          rw [if_pos ⟨c11, c25, c40⟩]
          exact ⟨G7.fx eh0 (by omega) (by unfold nuT; omega), rfl, (g7.xn G0.ci xn)⟩
        | some P7 =>
          rw [eS7] at q7
          obtain ⟨p7, rfl, p7x, p7y, p7w, f7, wp7x, wp7y, wp7w⟩ := q7
          refine g_goto rfl ?_
          refine g_astore (l1 := [(5, aO (some p7)), (0, aO (some c)), (1, aI 3), (2, aI a), (3, aI b), (4, aI e)]) rfl rfl ?_
          refine g_aload rfl rfl ?_
          refine g_ifnonnull_t rfl ?_
          refine g_aload_n rfl rfl ?_
          refine g_aload rfl rfl ?_
          refine g_getR rfl f7.1.2.2 f7.2.1 ?_
          refine g_aload rfl rfl ?_
          refine g_getR rfl f7.1.2.2 f7.2.2.2 ?_
          refine g_callVI [aO (some p7x), aO (some p7w)] [] rfl rfl rfl rfl (Nat.le_of_ble_eq_true rfl) (G7.cs.kd 0 (by omega) rfl) (f_keepQ (k := 223) (by omega) G7.ci (g7.xt G0.ci xt) ok (g7.xn G0.ci xn) okn ((wp7x.up (by omega))) ((wp7w.up (by omega))) (by omega)) ?_
          rintro r9 h9 ⟨kn9, er9, xn9⟩
          refine g_iret rfl ?_
          rw [if_pos ⟨c11, c25, c40⟩]
          exact ⟨(kn9.gr G7).fx eh0 (by omega), er9, xn9⟩
      · skip
        refine g_iconst rfl ?_
        refine g_iret rfl ?_
        first
          | (rw [if_neg (fun q => c11 q.1)]; exact ⟨FX.refl ci _, rfl, xn⟩)
          | (rw [if_neg (fun q => c25 q.2.1)]; exact ⟨FX.refl ci _, rfl, xn⟩)
          | (rw [if_neg (fun q => c40 q.2.2)]; exact ⟨FX.refl ci _, rfl, xn⟩)
set_option maxHeartbeats 4000000 in
theorem x_meas4 {w : aW} {d : Nat} (hd : 9 ≤ d) {h : aH} {c : Nat} (ci : CI h c) {S : aS} (xt : XT h c S) (ok : OkT S) (xn : XN (hV h) c S) (okn : OkN S) (tx : ∀ i < 12, hT h (w i) = (8, i)) (a : Int) (b : Int) (e : Int) : WP w d 208 [aO (some c), aI 4, aI a, aI b, aI e] h (RI (fun r h1 => FX h h1 c (nuT c) ∧ r = (if isAS S 99 a ∧ isAS S 116 b ∧ isAS S 116 e then keepMQ S (some (p_rad_S (tpR S a))) else (-1, S)).1 ∧ XN (hV h1) c (if isAS S 99 a ∧ isAS S 116 b ∧ isAS S 116 e then keepMQ S (some (p_rad_S (tpR S a))) else (-1, S)).2)) := by
  obtain ⟨d, rfl⟩ : ∃ d1, d = d1 + 1 := ⟨d - 1, by omega⟩
  refine WP.enter (cd := cd_X11_measure) rfl ?_
  have G0 := Gr.refl ci
  have hls : largs 0 [aO (some c), aI 4, aI a, aI b, aI e] = [(0, aO (some c)), (1, aI 4), (2, aI a), (3, aI b), (4, aI e)] := rfl
  rw [hls]
  clear hls
  refine g_aload_n rfl rfl ?_
  refine g_ldcT rfl (by decide) ?_
  refine g_iload_n rfl rfl ?_
  refine g_callSI [aO (some (w 5)), aI 4] [aO (some c)] rfl rfl rfl rfl (Nat.le_of_ble_eq_true rfl) (x_sortAt (by omega) (tx 5 (by omega)) (by omega) 4) ?_
  rintro _ hq1 ⟨ehq1, rfl⟩
  rw [ehq1]
  clear ehq1 hq1
  refine g_top (v2 := aI 99) (congrArg aI (show chAt 5 4 = 99 by decide +kernel)) ?_
  refine g_iload_n rfl rfl ?_
  refine g_callVI [aI 99, aI a] [] rfl rfl rfl rfl (Nat.le_of_ble_eq_true rfl) (G0.cs.kd 0 (by omega) rfl) (x_isA (by omega) ci xt ok xn okn 99 a) ?_
  rintro _ hq2 ⟨ehq2, rfl⟩
  rw [ehq2]
  clear ehq2 hq2
  refine g_b_eq rfl (fun c11 => ?_) (fun c11 => ?_)
  · skip
    refine g_iconst rfl ?_
    refine g_iret rfl ?_
    first
      | (rw [if_neg (fun q => c11 q.1)]; exact ⟨FX.refl ci _, rfl, xn⟩)
      | (rw [if_neg (fun q => c25 q.2.1)]; exact ⟨FX.refl ci _, rfl, xn⟩)
      | (rw [if_neg (fun q => c40 q.2.2)]; exact ⟨FX.refl ci _, rfl, xn⟩)
  · skip
    refine g_aload_n rfl rfl ?_
    refine g_ldcT rfl (by decide) ?_
    refine g_iload_n rfl rfl ?_
    refine g_callSI [aO (some (w 6)), aI 4] [aO (some c)] rfl rfl rfl rfl (Nat.le_of_ble_eq_true rfl) (x_sortAt (by omega) (tx 6 (by omega)) (by omega) 4) ?_
    rintro _ hq3 ⟨ehq3, rfl⟩
    rw [ehq3]
    clear ehq3 hq3
    refine g_top (v2 := aI 116) (congrArg aI (show chAt 6 4 = 116 by decide +kernel)) ?_
    refine g_iload_n rfl rfl ?_
    refine g_callVI [aI 116, aI b] [] rfl rfl rfl rfl (Nat.le_of_ble_eq_true rfl) (G0.cs.kd 0 (by omega) rfl) (x_isA (by omega) ci xt ok xn okn 116 b) ?_
    rintro _ hq4 ⟨ehq4, rfl⟩
    rw [ehq4]
    clear ehq4 hq4
    refine g_b_eq rfl (fun c25 => ?_) (fun c25 => ?_)
    · skip
      refine g_iconst rfl ?_
      refine g_iret rfl ?_
      first
        | (rw [if_neg (fun q => c11 q.1)]; exact ⟨FX.refl ci _, rfl, xn⟩)
        | (rw [if_neg (fun q => c25 q.2.1)]; exact ⟨FX.refl ci _, rfl, xn⟩)
        | (rw [if_neg (fun q => c40 q.2.2)]; exact ⟨FX.refl ci _, rfl, xn⟩)
    · skip
      refine g_aload_n rfl rfl ?_
      refine g_ldcT rfl (by decide) ?_
      refine g_iload_n rfl rfl ?_
      refine g_callSI [aO (some (w 7)), aI 4] [aO (some c)] rfl rfl rfl rfl (Nat.le_of_ble_eq_true rfl) (x_sortAt (by omega) (tx 7 (by omega)) (by omega) 4) ?_
      rintro _ hq5 ⟨ehq5, rfl⟩
      rw [ehq5]
      clear ehq5 hq5
      refine g_top (v2 := aI 116) (congrArg aI (show chAt 7 4 = 116 by decide +kernel)) ?_
      refine g_iload rfl rfl ?_
      refine g_callVI [aI 116, aI e] [] rfl rfl rfl rfl (Nat.le_of_ble_eq_true rfl) (G0.cs.kd 0 (by omega) rfl) (x_isA (by omega) ci xt ok xn okn 116 e) ?_
      rintro _ hq6 ⟨ehq6, rfl⟩
      rw [ehq6]
      clear ehq6 hq6
      refine g_b_ne rfl (fun c40 => ?_) (fun c40 => ?_)
      · skip
        refine g_aload_n rfl rfl ?_
        refine g_getR rfl (G0.cs.kd 0 (by omega) rfl) (G0.cs.rf 1 (by omega) rfl) ?_
        have u11 := c11
        unfold isAS at u11
        have u25 := c25
        unfold isAS at u25
        have u40 := c40
        unfold isAS at u40
        refine g_callVN [] [] rfl rfl rfl rfl (Nat.le_of_ble_eq_true rfl) (G0.cs.kd 1 (by omega) rfl) (x_reset (by omega) ci) ?_
        rintro _ rfl
        obtain ⟨h0, eh0⟩ : ∃ h0, h0 = hw h (vset (hV h) (c + 1) 1 0) := ⟨_, rfl⟩
        rw [← eh0]
        have ci0 := ci.reset
        have xt0 := xt.reset
        have xn0 := xn.reset
        rw [← eh0] at ci0 xt0 xn0
        have ht : hV h0 (c + 1) 1 ≤ 10 := by rw [eh0]; show vset _ _ _ _ _ _ ≤ _; rw [vset_eq]; omega
        clear ci xt xn
        have ci := ci0
        have xt := xt0
        have xn := xn0
        clear ci0 xt0 xn0
        have G0 := Gr.refl ci
        refine g_iload_n rfl rfl ?_
        refine g_iconst rfl ?_
        refine g_icmp_eq_f rfl (by omega) ?_
        refine g_iload_n rfl rfl ?_
        refine g_iconst rfl ?_
        refine g_icmp_ne_f rfl (by omega) ?_
        refine g_aload_n rfl rfl ?_
        refine g_iload_n rfl rfl ?_
        refine g_iload_n rfl rfl ?_
        refine g_iload_n rfl rfl ?_
        refine g_callVO [aI 4, aI a, aI b] [] rfl rfl rfl rfl (Nat.le_of_ble_eq_true rfl) (G0.cs.kd 0 (by omega) rfl) (f_mr4 (by omega) G0.ci xt ok xn okn a (by omega) b) ?_
        rintro r7 h7 ⟨g7, q7⟩
        have G7 := G0.trans g7
        cases eS7 : some (p_rad_S (tpR S a)) with
        | none =>
          rw [eS7] at q7
          obtain rfl : r7 = none := q7
          refine g_goto rfl ?_
          refine g_astore (l1 := [(5, aO none), (0, aO (some c)), (1, aI 4), (2, aI a), (3, aI b), (4, aI e)]) rfl rfl ?_
          refine g_aload rfl rfl ?_
          refine g_ifnonnull_f rfl ?_
          refine g_bipush rfl ?_
          refine g_iret rfl ?_
          rw [if_pos ⟨c11, c25, c40⟩]
          exact ⟨G7.fx eh0 (by omega) (by unfold nuT; omega), rfl, (g7.xn G0.ci xn)⟩
        | some P7 =>
          rw [eS7] at q7
          obtain ⟨p7, rfl, p7x, p7y, p7w, f7, wp7x, wp7y, wp7w⟩ := q7
          refine g_goto rfl ?_
          refine g_astore (l1 := [(5, aO (some p7)), (0, aO (some c)), (1, aI 4), (2, aI a), (3, aI b), (4, aI e)]) rfl rfl ?_
          refine g_aload rfl rfl ?_
          refine g_ifnonnull_t rfl ?_
          refine g_aload_n rfl rfl ?_
          refine g_aload rfl rfl ?_
          refine g_getR rfl f7.1.2.2 f7.2.1 ?_
          refine g_aload rfl rfl ?_
          refine g_getR rfl f7.1.2.2 f7.2.2.2 ?_
          refine g_callVI [aO (some p7x), aO (some p7w)] [] rfl rfl rfl rfl (Nat.le_of_ble_eq_true rfl) (G7.cs.kd 0 (by omega) rfl) (f_keepQ (k := 43) (by omega) G7.ci (g7.xt G0.ci xt) ok (g7.xn G0.ci xn) okn ((wp7x.up (by omega))) ((wp7w.up (by omega))) (by omega)) ?_
          rintro r9 h9 ⟨kn9, er9, xn9⟩
          refine g_iret rfl ?_
          rw [if_pos ⟨c11, c25, c40⟩]
          exact ⟨(kn9.gr G7).fx eh0 (by omega), er9, xn9⟩
      · skip
        refine g_iconst rfl ?_
        refine g_iret rfl ?_
        first
          | (rw [if_neg (fun q => c11 q.1)]; exact ⟨FX.refl ci _, rfl, xn⟩)
          | (rw [if_neg (fun q => c25 q.2.1)]; exact ⟨FX.refl ci _, rfl, xn⟩)
          | (rw [if_neg (fun q => c40 q.2.2)]; exact ⟨FX.refl ci _, rfl, xn⟩)
set_option maxHeartbeats 4000000 in
theorem x_meas5 {w : aW} {d : Nat} (hd : 9 ≤ d) {h : aH} {c : Nat} (ci : CI h c) {S : aS} (xt : XT h c S) (ok : OkT S) (xn : XN (hV h) c S) (okn : OkN S) (tx : ∀ i < 12, hT h (w i) = (8, i)) (a : Int) (b : Int) (e : Int) : WP w d 208 [aO (some c), aI 5, aI a, aI b, aI e] h (RI (fun r h1 => FX h h1 c (nuT c) ∧ r = (if isAS S 112 a ∧ isAS S 112 b ∧ isAS S 112 e then keepMQ S (p_area_O (tpT S a) (tpT S b) (tpT S e)) else (-1, S)).1 ∧ XN (hV h1) c (if isAS S 112 a ∧ isAS S 112 b ∧ isAS S 112 e then keepMQ S (p_area_O (tpT S a) (tpT S b) (tpT S e)) else (-1, S)).2)) := by
  obtain ⟨d, rfl⟩ : ∃ d1, d = d1 + 1 := ⟨d - 1, by omega⟩
  refine WP.enter (cd := cd_X11_measure) rfl ?_
  have G0 := Gr.refl ci
  have hls : largs 0 [aO (some c), aI 5, aI a, aI b, aI e] = [(0, aO (some c)), (1, aI 5), (2, aI a), (3, aI b), (4, aI e)] := rfl
  rw [hls]
  clear hls
  refine g_aload_n rfl rfl ?_
  refine g_ldcT rfl (by decide) ?_
  refine g_iload_n rfl rfl ?_
  refine g_callSI [aO (some (w 5)), aI 5] [aO (some c)] rfl rfl rfl rfl (Nat.le_of_ble_eq_true rfl) (x_sortAt (by omega) (tx 5 (by omega)) (by omega) 5) ?_
  rintro _ hq1 ⟨ehq1, rfl⟩
  rw [ehq1]
  clear ehq1 hq1
  refine g_top (v2 := aI 112) (congrArg aI (show chAt 5 5 = 112 by decide +kernel)) ?_
  refine g_iload_n rfl rfl ?_
  refine g_callVI [aI 112, aI a] [] rfl rfl rfl rfl (Nat.le_of_ble_eq_true rfl) (G0.cs.kd 0 (by omega) rfl) (x_isA (by omega) ci xt ok xn okn 112 a) ?_
  rintro _ hq2 ⟨ehq2, rfl⟩
  rw [ehq2]
  clear ehq2 hq2
  refine g_b_eq rfl (fun c11 => ?_) (fun c11 => ?_)
  · skip
    refine g_iconst rfl ?_
    refine g_iret rfl ?_
    first
      | (rw [if_neg (fun q => c11 q.1)]; exact ⟨FX.refl ci _, rfl, xn⟩)
      | (rw [if_neg (fun q => c25 q.2.1)]; exact ⟨FX.refl ci _, rfl, xn⟩)
      | (rw [if_neg (fun q => c40 q.2.2)]; exact ⟨FX.refl ci _, rfl, xn⟩)
  · skip
    refine g_aload_n rfl rfl ?_
    refine g_ldcT rfl (by decide) ?_
    refine g_iload_n rfl rfl ?_
    refine g_callSI [aO (some (w 6)), aI 5] [aO (some c)] rfl rfl rfl rfl (Nat.le_of_ble_eq_true rfl) (x_sortAt (by omega) (tx 6 (by omega)) (by omega) 5) ?_
    rintro _ hq3 ⟨ehq3, rfl⟩
    rw [ehq3]
    clear ehq3 hq3
    refine g_top (v2 := aI 112) (congrArg aI (show chAt 6 5 = 112 by decide +kernel)) ?_
    refine g_iload_n rfl rfl ?_
    refine g_callVI [aI 112, aI b] [] rfl rfl rfl rfl (Nat.le_of_ble_eq_true rfl) (G0.cs.kd 0 (by omega) rfl) (x_isA (by omega) ci xt ok xn okn 112 b) ?_
    rintro _ hq4 ⟨ehq4, rfl⟩
    rw [ehq4]
    clear ehq4 hq4
    refine g_b_eq rfl (fun c25 => ?_) (fun c25 => ?_)
    · skip
      refine g_iconst rfl ?_
      refine g_iret rfl ?_
      first
        | (rw [if_neg (fun q => c11 q.1)]; exact ⟨FX.refl ci _, rfl, xn⟩)
        | (rw [if_neg (fun q => c25 q.2.1)]; exact ⟨FX.refl ci _, rfl, xn⟩)
        | (rw [if_neg (fun q => c40 q.2.2)]; exact ⟨FX.refl ci _, rfl, xn⟩)
    · skip
      refine g_aload_n rfl rfl ?_
      refine g_ldcT rfl (by decide) ?_
      refine g_iload_n rfl rfl ?_
      refine g_callSI [aO (some (w 7)), aI 5] [aO (some c)] rfl rfl rfl rfl (Nat.le_of_ble_eq_true rfl) (x_sortAt (by omega) (tx 7 (by omega)) (by omega) 5) ?_
      rintro _ hq5 ⟨ehq5, rfl⟩
      rw [ehq5]
      clear ehq5 hq5
      refine g_top (v2 := aI 112) (congrArg aI (show chAt 7 5 = 112 by decide +kernel)) ?_
      refine g_iload rfl rfl ?_
      refine g_callVI [aI 112, aI e] [] rfl rfl rfl rfl (Nat.le_of_ble_eq_true rfl) (G0.cs.kd 0 (by omega) rfl) (x_isA (by omega) ci xt ok xn okn 112 e) ?_
      rintro _ hq6 ⟨ehq6, rfl⟩
      rw [ehq6]
      clear ehq6 hq6
      refine g_b_ne rfl (fun c40 => ?_) (fun c40 => ?_)
      · skip
        refine g_aload_n rfl rfl ?_
        refine g_getR rfl (G0.cs.kd 0 (by omega) rfl) (G0.cs.rf 1 (by omega) rfl) ?_
        have u11 := c11
        unfold isAS at u11
        have u25 := c25
        unfold isAS at u25
        have u40 := c40
        unfold isAS at u40
        refine g_callVN [] [] rfl rfl rfl rfl (Nat.le_of_ble_eq_true rfl) (G0.cs.kd 1 (by omega) rfl) (x_reset (by omega) ci) ?_
        rintro _ rfl
        obtain ⟨h0, eh0⟩ : ∃ h0, h0 = hw h (vset (hV h) (c + 1) 1 0) := ⟨_, rfl⟩
        rw [← eh0]
        have ci0 := ci.reset
        have xt0 := xt.reset
        have xn0 := xn.reset
        rw [← eh0] at ci0 xt0 xn0
        have ht : hV h0 (c + 1) 1 ≤ 10 := by rw [eh0]; show vset _ _ _ _ _ _ ≤ _; rw [vset_eq]; omega
        clear ci xt xn
        have ci := ci0
        have xt := xt0
        have xn := xn0
        clear ci0 xt0 xn0
        have G0 := Gr.refl ci
        refine g_iload_n rfl rfl ?_
        refine g_iconst rfl ?_
        refine g_icmp_eq_f rfl (by omega) ?_
        refine g_iload_n rfl rfl ?_
        refine g_iconst rfl ?_
        refine g_icmp_ne_t rfl (by omega) ?_
        refine g_aload_n rfl rfl ?_
        refine g_iload_n rfl rfl ?_
        refine g_iload_n rfl rfl ?_
        refine g_iload_n rfl rfl ?_
        refine g_iload rfl rfl ?_
        refine g_callVO [aI 5, aI a, aI b, aI e] [] rfl rfl rfl rfl (Nat.le_of_ble_eq_true rfl) (G0.cs.kd 0 (by omega) rfl) (f_ms5 (by omega) G0.ci xt ok xn okn a (by omega) b (by omega) e (by omega)) ?_
        rintro r7 h7 ⟨g7, q7⟩
        have G7 := G0.trans g7
        cases eS7 : p_area_O (tpT S a) (tpT S b) (tpT S e) with
        | none =>
          rw [eS7] at q7
          obtain rfl : r7 = none := q7
          refine g_astore (l1 := [(5, aO none), (0, aO (some c)), (1, aI 5), (2, aI a), (3, aI b), (4, aI e)]) rfl rfl ?_
          refine g_aload rfl rfl ?_
          refine g_ifnonnull_f rfl ?_
          refine g_bipush rfl ?_
          refine g_iret rfl ?_
          rw [if_pos ⟨c11, c25, c40⟩]
          exact ⟨G7.fx eh0 (by omega) (by unfold nuT; omega), rfl, (g7.xn G0.ci xn)⟩
        | some P7 =>
          rw [eS7] at q7
          obtain ⟨p7, rfl, p7x, p7y, p7w, f7, wp7x, wp7y, wp7w⟩ := q7
          refine g_astore (l1 := [(5, aO (some p7)), (0, aO (some c)), (1, aI 5), (2, aI a), (3, aI b), (4, aI e)]) rfl rfl ?_
          refine g_aload rfl rfl ?_
          refine g_ifnonnull_t rfl ?_
          refine g_aload_n rfl rfl ?_
          refine g_aload rfl rfl ?_
          refine g_getR rfl f7.1.2.2 f7.2.1 ?_
          refine g_aload rfl rfl ?_
          refine g_getR rfl f7.1.2.2 f7.2.2.2 ?_
          refine g_callVI [aO (some p7x), aO (some p7w)] [] rfl rfl rfl rfl (Nat.le_of_ble_eq_true rfl) (G7.cs.kd 0 (by omega) rfl) (f_keepQ (k := 84) (by omega) G7.ci (g7.xt G0.ci xt) ok (g7.xn G0.ci xn) okn ((wp7x.up (by omega))) ((wp7w.up (by omega))) (by omega)) ?_
          rintro r9 h9 ⟨kn9, er9, xn9⟩
          refine g_iret rfl ?_
          rw [if_pos ⟨c11, c25, c40⟩]
          exact ⟨(kn9.gr G7).fx eh0 (by omega), er9, xn9⟩
      · skip
        refine g_iconst rfl ?_
        refine g_iret rfl ?_
        first
          | (rw [if_neg (fun q => c11 q.1)]; exact ⟨FX.refl ci _, rfl, xn⟩)
          | (rw [if_neg (fun q => c25 q.2.1)]; exact ⟨FX.refl ci _, rfl, xn⟩)
          | (rw [if_neg (fun q => c40 q.2.2)]; exact ⟨FX.refl ci _, rfl, xn⟩)
set_option maxHeartbeats 4000000 in
theorem x_meas6 {w : aW} {d : Nat} (hd : 9 ≤ d) {h : aH} {c : Nat} (ci : CI h c) {S : aS} (xt : XT h c S) (ok : OkT S) (xn : XN (hV h) c S) (okn : OkN S) (tx : ∀ i < 12, hT h (w i) = (8, i)) (a : Int) (b : Int) (e : Int) : WP w d 208 [aO (some c), aI 6, aI a, aI b, aI e] h (RI (fun r h1 => FX h h1 c (nuT c) ∧ r = (if isAS S 112 a ∧ isAS S 108 b ∧ isAS S 116 e then keepMQ S (p_wayL_O (tpT S a) (tpT S b)) else (-1, S)).1 ∧ XN (hV h1) c (if isAS S 112 a ∧ isAS S 108 b ∧ isAS S 116 e then keepMQ S (p_wayL_O (tpT S a) (tpT S b)) else (-1, S)).2)) := by
  obtain ⟨d, rfl⟩ : ∃ d1, d = d1 + 1 := ⟨d - 1, by omega⟩
  refine WP.enter (cd := cd_X11_measure) rfl ?_
  have G0 := Gr.refl ci
  have hls : largs 0 [aO (some c), aI 6, aI a, aI b, aI e] = [(0, aO (some c)), (1, aI 6), (2, aI a), (3, aI b), (4, aI e)] := rfl
  rw [hls]
  clear hls
  refine g_aload_n rfl rfl ?_
  refine g_ldcT rfl (by decide) ?_
  refine g_iload_n rfl rfl ?_
  refine g_callSI [aO (some (w 5)), aI 6] [aO (some c)] rfl rfl rfl rfl (Nat.le_of_ble_eq_true rfl) (x_sortAt (by omega) (tx 5 (by omega)) (by omega) 6) ?_
  rintro _ hq1 ⟨ehq1, rfl⟩
  rw [ehq1]
  clear ehq1 hq1
  refine g_top (v2 := aI 112) (congrArg aI (show chAt 5 6 = 112 by decide +kernel)) ?_
  refine g_iload_n rfl rfl ?_
  refine g_callVI [aI 112, aI a] [] rfl rfl rfl rfl (Nat.le_of_ble_eq_true rfl) (G0.cs.kd 0 (by omega) rfl) (x_isA (by omega) ci xt ok xn okn 112 a) ?_
  rintro _ hq2 ⟨ehq2, rfl⟩
  rw [ehq2]
  clear ehq2 hq2
  refine g_b_eq rfl (fun c11 => ?_) (fun c11 => ?_)
  · skip
    refine g_iconst rfl ?_
    refine g_iret rfl ?_
    first
      | (rw [if_neg (fun q => c11 q.1)]; exact ⟨FX.refl ci _, rfl, xn⟩)
      | (rw [if_neg (fun q => c25 q.2.1)]; exact ⟨FX.refl ci _, rfl, xn⟩)
      | (rw [if_neg (fun q => c40 q.2.2)]; exact ⟨FX.refl ci _, rfl, xn⟩)
  · skip
    refine g_aload_n rfl rfl ?_
    refine g_ldcT rfl (by decide) ?_
    refine g_iload_n rfl rfl ?_
    refine g_callSI [aO (some (w 6)), aI 6] [aO (some c)] rfl rfl rfl rfl (Nat.le_of_ble_eq_true rfl) (x_sortAt (by omega) (tx 6 (by omega)) (by omega) 6) ?_
    rintro _ hq3 ⟨ehq3, rfl⟩
    rw [ehq3]
    clear ehq3 hq3
    refine g_top (v2 := aI 108) (congrArg aI (show chAt 6 6 = 108 by decide +kernel)) ?_
    refine g_iload_n rfl rfl ?_
    refine g_callVI [aI 108, aI b] [] rfl rfl rfl rfl (Nat.le_of_ble_eq_true rfl) (G0.cs.kd 0 (by omega) rfl) (x_isA (by omega) ci xt ok xn okn 108 b) ?_
    rintro _ hq4 ⟨ehq4, rfl⟩
    rw [ehq4]
    clear ehq4 hq4
    refine g_b_eq rfl (fun c25 => ?_) (fun c25 => ?_)
    · skip
      refine g_iconst rfl ?_
      refine g_iret rfl ?_
      first
        | (rw [if_neg (fun q => c11 q.1)]; exact ⟨FX.refl ci _, rfl, xn⟩)
        | (rw [if_neg (fun q => c25 q.2.1)]; exact ⟨FX.refl ci _, rfl, xn⟩)
        | (rw [if_neg (fun q => c40 q.2.2)]; exact ⟨FX.refl ci _, rfl, xn⟩)
    · skip
      refine g_aload_n rfl rfl ?_
      refine g_ldcT rfl (by decide) ?_
      refine g_iload_n rfl rfl ?_
      refine g_callSI [aO (some (w 7)), aI 6] [aO (some c)] rfl rfl rfl rfl (Nat.le_of_ble_eq_true rfl) (x_sortAt (by omega) (tx 7 (by omega)) (by omega) 6) ?_
      rintro _ hq5 ⟨ehq5, rfl⟩
      rw [ehq5]
      clear ehq5 hq5
      refine g_top (v2 := aI 116) (congrArg aI (show chAt 7 6 = 116 by decide +kernel)) ?_
      refine g_iload rfl rfl ?_
      refine g_callVI [aI 116, aI e] [] rfl rfl rfl rfl (Nat.le_of_ble_eq_true rfl) (G0.cs.kd 0 (by omega) rfl) (x_isA (by omega) ci xt ok xn okn 116 e) ?_
      rintro _ hq6 ⟨ehq6, rfl⟩
      rw [ehq6]
      clear ehq6 hq6
      refine g_b_ne rfl (fun c40 => ?_) (fun c40 => ?_)
      · skip
        refine g_aload_n rfl rfl ?_
        refine g_getR rfl (G0.cs.kd 0 (by omega) rfl) (G0.cs.rf 1 (by omega) rfl) ?_
        have u11 := c11
        unfold isAS at u11
        have u25 := c25
        unfold isAS at u25
        have u40 := c40
        unfold isAS at u40
        refine g_callVN [] [] rfl rfl rfl rfl (Nat.le_of_ble_eq_true rfl) (G0.cs.kd 1 (by omega) rfl) (x_reset (by omega) ci) ?_
        rintro _ rfl
        obtain ⟨h0, eh0⟩ : ∃ h0, h0 = hw h (vset (hV h) (c + 1) 1 0) := ⟨_, rfl⟩
        rw [← eh0]
        have ci0 := ci.reset
        have xt0 := xt.reset
        have xn0 := xn.reset
        rw [← eh0] at ci0 xt0 xn0
        have ht : hV h0 (c + 1) 1 ≤ 10 := by rw [eh0]; show vset _ _ _ _ _ _ ≤ _; rw [vset_eq]; omega
        clear ci xt xn
        have ci := ci0
        have xt := xt0
        have xn := xn0
        clear ci0 xt0 xn0
        have G0 := Gr.refl ci
        refine g_iload_n rfl rfl ?_
        refine g_iconst rfl ?_
        refine g_icmp_eq_f rfl (by omega) ?_
        refine g_iload_n rfl rfl ?_
        refine g_iconst rfl ?_
        refine g_icmp_ne_t rfl (by omega) ?_
        refine g_aload_n rfl rfl ?_
        refine g_iload_n rfl rfl ?_
        refine g_iload_n rfl rfl ?_
        refine g_iload_n rfl rfl ?_
        refine g_iload rfl rfl ?_
        refine g_callVO [aI 6, aI a, aI b, aI e] [] rfl rfl rfl rfl (Nat.le_of_ble_eq_true rfl) (G0.cs.kd 0 (by omega) rfl) (f_ms6 (by omega) G0.ci xt ok xn okn a (by omega) b (by omega) e) ?_
        rintro r7 h7 ⟨g7, q7⟩
        have G7 := G0.trans g7
        cases eS7 : p_wayL_O (tpT S a) (tpT S b) with
        | none =>
          rw [eS7] at q7
          obtain rfl : r7 = none := q7
          refine g_astore (l1 := [(5, aO none), (0, aO (some c)), (1, aI 6), (2, aI a), (3, aI b), (4, aI e)]) rfl rfl ?_
          refine g_aload rfl rfl ?_
          refine g_ifnonnull_f rfl ?_
          refine g_bipush rfl ?_
          refine g_iret rfl ?_
          rw [if_pos ⟨c11, c25, c40⟩]
          exact ⟨G7.fx eh0 (by omega) (by unfold nuT; omega), rfl, (g7.xn G0.ci xn)⟩
        | some P7 =>
          rw [eS7] at q7
          obtain ⟨p7, rfl, p7x, p7y, p7w, f7, wp7x, wp7y, wp7w⟩ := q7
          refine g_astore (l1 := [(5, aO (some p7)), (0, aO (some c)), (1, aI 6), (2, aI a), (3, aI b), (4, aI e)]) rfl rfl ?_
          refine g_aload rfl rfl ?_
          refine g_ifnonnull_t rfl ?_
          refine g_aload_n rfl rfl ?_
          refine g_aload rfl rfl ?_
          refine g_getR rfl f7.1.2.2 f7.2.1 ?_
          refine g_aload rfl rfl ?_
          refine g_getR rfl f7.1.2.2 f7.2.2.2 ?_
          refine g_callVI [aO (some p7x), aO (some p7w)] [] rfl rfl rfl rfl (Nat.le_of_ble_eq_true rfl) (G7.cs.kd 0 (by omega) rfl) (f_keepQ (k := 84) (by omega) G7.ci (g7.xt G0.ci xt) ok (g7.xn G0.ci xn) okn ((wp7x.up (by omega))) ((wp7w.up (by omega))) (by omega)) ?_
          rintro r9 h9 ⟨kn9, er9, xn9⟩
          refine g_iret rfl ?_
          rw [if_pos ⟨c11, c25, c40⟩]
          exact ⟨(kn9.gr G7).fx eh0 (by omega), er9, xn9⟩
      · skip
        refine g_iconst rfl ?_
        refine g_iret rfl ?_
        first
          | (rw [if_neg (fun q => c11 q.1)]; exact ⟨FX.refl ci _, rfl, xn⟩)
          | (rw [if_neg (fun q => c25 q.2.1)]; exact ⟨FX.refl ci _, rfl, xn⟩)
          | (rw [if_neg (fun q => c40 q.2.2)]; exact ⟨FX.refl ci _, rfl, xn⟩)
set_option maxHeartbeats 4000000 in
theorem x_holds0 {w : aW} {d : Nat} (hd : 10 ≤ d) {h : aH} {c : Nat} (ci : CI h c) {S : aS} (xt : XT h c S) (ok : OkT S) (xn : XN (hV h) c S) (okn : OkN S) (tx : ∀ i < 12, hT h (w i) = (8, i)) (a : Int) (b : Int) (e : Int) (f : Int) : WP w d 209 [aO (some c), aI 0, aI a, aI b, aI e, aI f] h (RI (fun r h1 => FX h h1 c (fun _ => False) ∧ r = if isAS S 112 a then (if isAS S 112 b then (if isAS S 112 e then (if isAS S 45 f then (if p_det_S (tpT S a) (tpT S b) (tpT S e) = 0 then 1 else 0) else -1) else -1) else -1) else -1)) := by
  obtain ⟨d, rfl⟩ : ∃ d1, d = d1 + 1 := ⟨d - 1, by omega⟩
  refine WP.enter (cd := cd_X11_holds) rfl ?_
  have G0 := Gr.refl ci
  have hls : largs 0 [aO (some c), aI 0, aI a, aI b, aI e, aI f] = [(0, aO (some c)), (1, aI 0), (2, aI a), (3, aI b), (4, aI e), (5, aI f)] := rfl
  rw [hls]
  clear hls
  refine g_aload_n rfl rfl ?_
  refine g_ldcT rfl (by decide) ?_
  refine g_iload_n rfl rfl ?_
  refine g_callSI [aO (some (w 8)), aI 0] [aO (some c)] rfl rfl rfl rfl (Nat.le_of_ble_eq_true rfl) (x_sortAt (by omega) (tx 8 (by omega)) (by omega) 0) ?_
  rintro _ hq1 ⟨ehq1, rfl⟩
  rw [ehq1]
  clear ehq1 hq1
  refine g_top (v2 := aI 112) (congrArg aI (show chAt 8 0 = 112 by decide +kernel)) ?_
  refine g_iload_n rfl rfl ?_
  refine g_callVI [aI 112, aI a] [] rfl rfl rfl rfl (Nat.le_of_ble_eq_true rfl) (G0.cs.kd 0 (by omega) rfl) (x_isA (by omega) ci xt ok xn okn 112 a) ?_
  rintro _ hq2 ⟨ehq2, rfl⟩
  rw [ehq2]
  clear ehq2 hq2
  refine g_b_eq rfl (fun c11 => ?_) (fun c11 => ?_)
  · skip
    refine g_iconst rfl ?_
    refine g_iret rfl ?_
    first
      | (rw [if_neg c11]; exact ⟨FX.refl ci _, rfl⟩)
      | (rw [if_pos c11, if_neg c25]; exact ⟨FX.refl ci _, rfl⟩)
      | (rw [if_pos c11, if_pos c25, if_neg c40]; exact ⟨FX.refl ci _, rfl⟩)
      | (rw [if_pos c11, if_pos c25, if_pos c40, if_neg c55]; exact ⟨FX.refl ci _, rfl⟩)
  · skip
    refine g_aload_n rfl rfl ?_
    refine g_ldcT rfl (by decide) ?_
    refine g_iload_n rfl rfl ?_
    refine g_callSI [aO (some (w 9)), aI 0] [aO (some c)] rfl rfl rfl rfl (Nat.le_of_ble_eq_true rfl) (x_sortAt (by omega) (tx 9 (by omega)) (by omega) 0) ?_
    rintro _ hq3 ⟨ehq3, rfl⟩
    rw [ehq3]
    clear ehq3 hq3
    refine g_top (v2 := aI 112) (congrArg aI (show chAt 9 0 = 112 by decide +kernel)) ?_
    refine g_iload_n rfl rfl ?_
    refine g_callVI [aI 112, aI b] [] rfl rfl rfl rfl (Nat.le_of_ble_eq_true rfl) (G0.cs.kd 0 (by omega) rfl) (x_isA (by omega) ci xt ok xn okn 112 b) ?_
    rintro _ hq4 ⟨ehq4, rfl⟩
    rw [ehq4]
    clear ehq4 hq4
    refine g_b_eq rfl (fun c25 => ?_) (fun c25 => ?_)
    · skip
      refine g_iconst rfl ?_
      refine g_iret rfl ?_
      first
        | (rw [if_neg c11]; exact ⟨FX.refl ci _, rfl⟩)
        | (rw [if_pos c11, if_neg c25]; exact ⟨FX.refl ci _, rfl⟩)
        | (rw [if_pos c11, if_pos c25, if_neg c40]; exact ⟨FX.refl ci _, rfl⟩)
        | (rw [if_pos c11, if_pos c25, if_pos c40, if_neg c55]; exact ⟨FX.refl ci _, rfl⟩)
    · skip
      refine g_aload_n rfl rfl ?_
      refine g_ldcT rfl (by decide) ?_
      refine g_iload_n rfl rfl ?_
      refine g_callSI [aO (some (w 10)), aI 0] [aO (some c)] rfl rfl rfl rfl (Nat.le_of_ble_eq_true rfl) (x_sortAt (by omega) (tx 10 (by omega)) (by omega) 0) ?_
      rintro _ hq5 ⟨ehq5, rfl⟩
      rw [ehq5]
      clear ehq5 hq5
      refine g_top (v2 := aI 112) (congrArg aI (show chAt 10 0 = 112 by decide +kernel)) ?_
      refine g_iload rfl rfl ?_
      refine g_callVI [aI 112, aI e] [] rfl rfl rfl rfl (Nat.le_of_ble_eq_true rfl) (G0.cs.kd 0 (by omega) rfl) (x_isA (by omega) ci xt ok xn okn 112 e) ?_
      rintro _ hq6 ⟨ehq6, rfl⟩
      rw [ehq6]
      clear ehq6 hq6
      refine g_b_eq rfl (fun c40 => ?_) (fun c40 => ?_)
      · skip
        refine g_iconst rfl ?_
        refine g_iret rfl ?_
        first
          | (rw [if_neg c11]; exact ⟨FX.refl ci _, rfl⟩)
          | (rw [if_pos c11, if_neg c25]; exact ⟨FX.refl ci _, rfl⟩)
          | (rw [if_pos c11, if_pos c25, if_neg c40]; exact ⟨FX.refl ci _, rfl⟩)
          | (rw [if_pos c11, if_pos c25, if_pos c40, if_neg c55]; exact ⟨FX.refl ci _, rfl⟩)
      · skip
        refine g_aload_n rfl rfl ?_
        refine g_ldcT rfl (by decide) ?_
        refine g_iload_n rfl rfl ?_
        refine g_callSI [aO (some (w 11)), aI 0] [aO (some c)] rfl rfl rfl rfl (Nat.le_of_ble_eq_true rfl) (x_sortAt (by omega) (tx 11 (by omega)) (by omega) 0) ?_
        rintro _ hq7 ⟨ehq7, rfl⟩
        rw [ehq7]
        clear ehq7 hq7
        refine g_top (v2 := aI 45) (congrArg aI (show chAt 11 0 = 45 by decide +kernel)) ?_
        refine g_iload rfl rfl ?_
        refine g_callVI [aI 45, aI f] [] rfl rfl rfl rfl (Nat.le_of_ble_eq_true rfl) (G0.cs.kd 0 (by omega) rfl) (x_isA (by omega) ci xt ok xn okn 45 f) ?_
        rintro _ hq8 ⟨ehq8, rfl⟩
        rw [ehq8]
        clear ehq8 hq8
        refine g_b_ne rfl (fun c55 => ?_) (fun c55 => ?_)
        · skip
          refine g_aload_n rfl rfl ?_
          refine g_getR rfl (G0.cs.kd 0 (by omega) rfl) (G0.cs.rf 1 (by omega) rfl) ?_
          have u11 := c11
          unfold isAS at u11
          have u25 := c25
          unfold isAS at u25
          have u40 := c40
          unfold isAS at u40
          have u55 := c55
          unfold isAS at u55
          refine g_callVN [] [] rfl rfl rfl rfl (Nat.le_of_ble_eq_true rfl) (G0.cs.kd 1 (by omega) rfl) (x_reset (by omega) ci) ?_
          rintro _ rfl
          obtain ⟨h0, eh0⟩ : ∃ h0, h0 = hw h (vset (hV h) (c + 1) 1 0) := ⟨_, rfl⟩
          rw [← eh0]
          have ci0 := ci.reset
          have xt0 := xt.reset
          have xn0 := xn.reset
          rw [← eh0] at ci0 xt0 xn0
          have ht : hV h0 (c + 1) 1 ≤ 10 := by rw [eh0]; show vset _ _ _ _ _ _ ≤ _; rw [vset_eq]; omega
          clear ci xt xn
          have ci := ci0
          have xt := xt0
          have xn := xn0
          clear ci0 xt0 xn0
          have G0 := Gr.refl ci
          refine g_aload_n rfl rfl ?_
          refine g_getR rfl (G0.cs.kd 0 (by omega) rfl) (G0.cs.rf 15 (by omega) rfl) ?_
          refine g_iload_n rfl rfl ?_
          refine g_iload_n rfl rfl ?_
          refine g_iload_n rfl rfl ?_
          refine g_iload rfl rfl ?_
          refine g_iload rfl rfl ?_
          refine g_callVI [aI 0, aI a, aI b, aI e, aI f] [] rfl rfl rfl rfl (Nat.le_of_ble_eq_true rfl) (G0.cs.kd 10 (by omega) rfl) (o_so0 (by omega) G0.ci xt ok a (by omega) b (by omega) e (by omega) f) ?_
          rintro _ h9 ⟨g9, rfl⟩
          have G9 := G0.trans g9
          refine g_b_eq rfl (fun c81 => ?_) (fun c81 => ?_)
          · skip
            refine g_iconst rfl ?_
            refine g_iret rfl ?_
            rw [if_pos c11, if_pos c25, if_pos c40, if_pos c55]
            refine ⟨G9.fx eh0 (by omega) (fun q => q), ?_⟩
            first
              | rw [if_pos c81]
              | rw [if_neg c81]
          · skip
            refine g_iconst rfl ?_
            refine g_goto rfl ?_
            refine g_iret rfl ?_
            rw [if_pos c11, if_pos c25, if_pos c40, if_pos c55]
            refine ⟨G9.fx eh0 (by omega) (fun q => q), ?_⟩
            first
              | rw [if_pos c81]
              | rw [if_neg c81]
        · skip
          refine g_iconst rfl ?_
          refine g_iret rfl ?_
          first
            | (rw [if_neg c11]; exact ⟨FX.refl ci _, rfl⟩)
            | (rw [if_pos c11, if_neg c25]; exact ⟨FX.refl ci _, rfl⟩)
            | (rw [if_pos c11, if_pos c25, if_neg c40]; exact ⟨FX.refl ci _, rfl⟩)
            | (rw [if_pos c11, if_pos c25, if_pos c40, if_neg c55]; exact ⟨FX.refl ci _, rfl⟩)
set_option maxHeartbeats 4000000 in
theorem x_holds1 {w : aW} {d : Nat} (hd : 10 ≤ d) {h : aH} {c : Nat} (ci : CI h c) {S : aS} (xt : XT h c S) (ok : OkT S) (xn : XN (hV h) c S) (okn : OkN S) (tx : ∀ i < 12, hT h (w i) = (8, i)) (a : Int) (b : Int) (e : Int) (f : Int) : WP w d 209 [aO (some c), aI 1, aI a, aI b, aI e, aI f] h (RI (fun r h1 => FX h h1 c (fun _ => False) ∧ r = if isAS S 108 a then (if isAS S 108 b then (if isAS S 108 e then (if isAS S 45 f then (if p_det_S (tpT S a) (tpT S b) (tpT S e) = 0 then 1 else 0) else -1) else -1) else -1) else -1)) := by
  obtain ⟨d, rfl⟩ : ∃ d1, d = d1 + 1 := ⟨d - 1, by omega⟩
  refine WP.enter (cd := cd_X11_holds) rfl ?_
  have G0 := Gr.refl ci
  have hls : largs 0 [aO (some c), aI 1, aI a, aI b, aI e, aI f] = [(0, aO (some c)), (1, aI 1), (2, aI a), (3, aI b), (4, aI e), (5, aI f)] := rfl
  rw [hls]
  clear hls
  refine g_aload_n rfl rfl ?_
  refine g_ldcT rfl (by decide) ?_
  refine g_iload_n rfl rfl ?_
  refine g_callSI [aO (some (w 8)), aI 1] [aO (some c)] rfl rfl rfl rfl (Nat.le_of_ble_eq_true rfl) (x_sortAt (by omega) (tx 8 (by omega)) (by omega) 1) ?_
  rintro _ hq1 ⟨ehq1, rfl⟩
  rw [ehq1]
  clear ehq1 hq1
  refine g_top (v2 := aI 108) (congrArg aI (show chAt 8 1 = 108 by decide +kernel)) ?_
  refine g_iload_n rfl rfl ?_
  refine g_callVI [aI 108, aI a] [] rfl rfl rfl rfl (Nat.le_of_ble_eq_true rfl) (G0.cs.kd 0 (by omega) rfl) (x_isA (by omega) ci xt ok xn okn 108 a) ?_
  rintro _ hq2 ⟨ehq2, rfl⟩
  rw [ehq2]
  clear ehq2 hq2
  refine g_b_eq rfl (fun c11 => ?_) (fun c11 => ?_)
  · skip
    refine g_iconst rfl ?_
    refine g_iret rfl ?_
    first
      | (rw [if_neg c11]; exact ⟨FX.refl ci _, rfl⟩)
      | (rw [if_pos c11, if_neg c25]; exact ⟨FX.refl ci _, rfl⟩)
      | (rw [if_pos c11, if_pos c25, if_neg c40]; exact ⟨FX.refl ci _, rfl⟩)
      | (rw [if_pos c11, if_pos c25, if_pos c40, if_neg c55]; exact ⟨FX.refl ci _, rfl⟩)
  · skip
    refine g_aload_n rfl rfl ?_
    refine g_ldcT rfl (by decide) ?_
    refine g_iload_n rfl rfl ?_
    refine g_callSI [aO (some (w 9)), aI 1] [aO (some c)] rfl rfl rfl rfl (Nat.le_of_ble_eq_true rfl) (x_sortAt (by omega) (tx 9 (by omega)) (by omega) 1) ?_
    rintro _ hq3 ⟨ehq3, rfl⟩
    rw [ehq3]
    clear ehq3 hq3
    refine g_top (v2 := aI 108) (congrArg aI (show chAt 9 1 = 108 by decide +kernel)) ?_
    refine g_iload_n rfl rfl ?_
    refine g_callVI [aI 108, aI b] [] rfl rfl rfl rfl (Nat.le_of_ble_eq_true rfl) (G0.cs.kd 0 (by omega) rfl) (x_isA (by omega) ci xt ok xn okn 108 b) ?_
    rintro _ hq4 ⟨ehq4, rfl⟩
    rw [ehq4]
    clear ehq4 hq4
    refine g_b_eq rfl (fun c25 => ?_) (fun c25 => ?_)
    · skip
      refine g_iconst rfl ?_
      refine g_iret rfl ?_
      first
        | (rw [if_neg c11]; exact ⟨FX.refl ci _, rfl⟩)
        | (rw [if_pos c11, if_neg c25]; exact ⟨FX.refl ci _, rfl⟩)
        | (rw [if_pos c11, if_pos c25, if_neg c40]; exact ⟨FX.refl ci _, rfl⟩)
        | (rw [if_pos c11, if_pos c25, if_pos c40, if_neg c55]; exact ⟨FX.refl ci _, rfl⟩)
    · skip
      refine g_aload_n rfl rfl ?_
      refine g_ldcT rfl (by decide) ?_
      refine g_iload_n rfl rfl ?_
      refine g_callSI [aO (some (w 10)), aI 1] [aO (some c)] rfl rfl rfl rfl (Nat.le_of_ble_eq_true rfl) (x_sortAt (by omega) (tx 10 (by omega)) (by omega) 1) ?_
      rintro _ hq5 ⟨ehq5, rfl⟩
      rw [ehq5]
      clear ehq5 hq5
      refine g_top (v2 := aI 108) (congrArg aI (show chAt 10 1 = 108 by decide +kernel)) ?_
      refine g_iload rfl rfl ?_
      refine g_callVI [aI 108, aI e] [] rfl rfl rfl rfl (Nat.le_of_ble_eq_true rfl) (G0.cs.kd 0 (by omega) rfl) (x_isA (by omega) ci xt ok xn okn 108 e) ?_
      rintro _ hq6 ⟨ehq6, rfl⟩
      rw [ehq6]
      clear ehq6 hq6
      refine g_b_eq rfl (fun c40 => ?_) (fun c40 => ?_)
      · skip
        refine g_iconst rfl ?_
        refine g_iret rfl ?_
        first
          | (rw [if_neg c11]; exact ⟨FX.refl ci _, rfl⟩)
          | (rw [if_pos c11, if_neg c25]; exact ⟨FX.refl ci _, rfl⟩)
          | (rw [if_pos c11, if_pos c25, if_neg c40]; exact ⟨FX.refl ci _, rfl⟩)
          | (rw [if_pos c11, if_pos c25, if_pos c40, if_neg c55]; exact ⟨FX.refl ci _, rfl⟩)
      · skip
        refine g_aload_n rfl rfl ?_
        refine g_ldcT rfl (by decide) ?_
        refine g_iload_n rfl rfl ?_
        refine g_callSI [aO (some (w 11)), aI 1] [aO (some c)] rfl rfl rfl rfl (Nat.le_of_ble_eq_true rfl) (x_sortAt (by omega) (tx 11 (by omega)) (by omega) 1) ?_
        rintro _ hq7 ⟨ehq7, rfl⟩
        rw [ehq7]
        clear ehq7 hq7
        refine g_top (v2 := aI 45) (congrArg aI (show chAt 11 1 = 45 by decide +kernel)) ?_
        refine g_iload rfl rfl ?_
        refine g_callVI [aI 45, aI f] [] rfl rfl rfl rfl (Nat.le_of_ble_eq_true rfl) (G0.cs.kd 0 (by omega) rfl) (x_isA (by omega) ci xt ok xn okn 45 f) ?_
        rintro _ hq8 ⟨ehq8, rfl⟩
        rw [ehq8]
        clear ehq8 hq8
        refine g_b_ne rfl (fun c55 => ?_) (fun c55 => ?_)
        · skip
          refine g_aload_n rfl rfl ?_
          refine g_getR rfl (G0.cs.kd 0 (by omega) rfl) (G0.cs.rf 1 (by omega) rfl) ?_
          have u11 := c11
          unfold isAS at u11
          have u25 := c25
          unfold isAS at u25
          have u40 := c40
          unfold isAS at u40
          have u55 := c55
          unfold isAS at u55
          refine g_callVN [] [] rfl rfl rfl rfl (Nat.le_of_ble_eq_true rfl) (G0.cs.kd 1 (by omega) rfl) (x_reset (by omega) ci) ?_
          rintro _ rfl
          obtain ⟨h0, eh0⟩ : ∃ h0, h0 = hw h (vset (hV h) (c + 1) 1 0) := ⟨_, rfl⟩
          rw [← eh0]
          have ci0 := ci.reset
          have xt0 := xt.reset
          have xn0 := xn.reset
          rw [← eh0] at ci0 xt0 xn0
          have ht : hV h0 (c + 1) 1 ≤ 10 := by rw [eh0]; show vset _ _ _ _ _ _ ≤ _; rw [vset_eq]; omega
          clear ci xt xn
          have ci := ci0
          have xt := xt0
          have xn := xn0
          clear ci0 xt0 xn0
          have G0 := Gr.refl ci
          refine g_aload_n rfl rfl ?_
          refine g_getR rfl (G0.cs.kd 0 (by omega) rfl) (G0.cs.rf 15 (by omega) rfl) ?_
          refine g_iload_n rfl rfl ?_
          refine g_iload_n rfl rfl ?_
          refine g_iload_n rfl rfl ?_
          refine g_iload rfl rfl ?_
          refine g_iload rfl rfl ?_
          refine g_callVI [aI 1, aI a, aI b, aI e, aI f] [] rfl rfl rfl rfl (Nat.le_of_ble_eq_true rfl) (G0.cs.kd 10 (by omega) rfl) (o_so1 (by omega) G0.ci xt ok a (by omega) b (by omega) e (by omega) f) ?_
          rintro _ h9 ⟨g9, rfl⟩
          have G9 := G0.trans g9
          refine g_b_eq rfl (fun c81 => ?_) (fun c81 => ?_)
          · skip
            refine g_iconst rfl ?_
            refine g_iret rfl ?_
            rw [if_pos c11, if_pos c25, if_pos c40, if_pos c55]
            refine ⟨G9.fx eh0 (by omega) (fun q => q), ?_⟩
            first
              | rw [if_pos c81]
              | rw [if_neg c81]
          · skip
            refine g_iconst rfl ?_
            refine g_goto rfl ?_
            refine g_iret rfl ?_
            rw [if_pos c11, if_pos c25, if_pos c40, if_pos c55]
            refine ⟨G9.fx eh0 (by omega) (fun q => q), ?_⟩
            first
              | rw [if_pos c81]
              | rw [if_neg c81]
        · skip
          refine g_iconst rfl ?_
          refine g_iret rfl ?_
          first
            | (rw [if_neg c11]; exact ⟨FX.refl ci _, rfl⟩)
            | (rw [if_pos c11, if_neg c25]; exact ⟨FX.refl ci _, rfl⟩)
            | (rw [if_pos c11, if_pos c25, if_neg c40]; exact ⟨FX.refl ci _, rfl⟩)
            | (rw [if_pos c11, if_pos c25, if_pos c40, if_neg c55]; exact ⟨FX.refl ci _, rfl⟩)
set_option maxHeartbeats 4000000 in
theorem x_holds2 {w : aW} {d : Nat} (hd : 10 ≤ d) {h : aH} {c : Nat} (ci : CI h c) {S : aS} (xt : XT h c S) (ok : OkT S) (xn : XN (hV h) c S) (okn : OkN S) (tx : ∀ i < 12, hT h (w i) = (8, i)) (a : Int) (b : Int) (e : Int) (f : Int) : WP w d 209 [aO (some c), aI 2, aI a, aI b, aI e, aI f] h (RI (fun r h1 => FX h h1 c (fun _ => False) ∧ r = if isAS S 112 a then (if isAS S 108 b then (if isAS S 45 e then (if isAS S 45 f then (if p_dot_S (tpT S a) (tpT S b) = 0 then 1 else 0) else -1) else -1) else -1) else -1)) := by
  obtain ⟨d, rfl⟩ : ∃ d1, d = d1 + 1 := ⟨d - 1, by omega⟩
  refine WP.enter (cd := cd_X11_holds) rfl ?_
  have G0 := Gr.refl ci
  have hls : largs 0 [aO (some c), aI 2, aI a, aI b, aI e, aI f] = [(0, aO (some c)), (1, aI 2), (2, aI a), (3, aI b), (4, aI e), (5, aI f)] := rfl
  rw [hls]
  clear hls
  refine g_aload_n rfl rfl ?_
  refine g_ldcT rfl (by decide) ?_
  refine g_iload_n rfl rfl ?_
  refine g_callSI [aO (some (w 8)), aI 2] [aO (some c)] rfl rfl rfl rfl (Nat.le_of_ble_eq_true rfl) (x_sortAt (by omega) (tx 8 (by omega)) (by omega) 2) ?_
  rintro _ hq1 ⟨ehq1, rfl⟩
  rw [ehq1]
  clear ehq1 hq1
  refine g_top (v2 := aI 112) (congrArg aI (show chAt 8 2 = 112 by decide +kernel)) ?_
  refine g_iload_n rfl rfl ?_
  refine g_callVI [aI 112, aI a] [] rfl rfl rfl rfl (Nat.le_of_ble_eq_true rfl) (G0.cs.kd 0 (by omega) rfl) (x_isA (by omega) ci xt ok xn okn 112 a) ?_
  rintro _ hq2 ⟨ehq2, rfl⟩
  rw [ehq2]
  clear ehq2 hq2
  refine g_b_eq rfl (fun c11 => ?_) (fun c11 => ?_)
  · skip
    refine g_iconst rfl ?_
    refine g_iret rfl ?_
    first
      | (rw [if_neg c11]; exact ⟨FX.refl ci _, rfl⟩)
      | (rw [if_pos c11, if_neg c25]; exact ⟨FX.refl ci _, rfl⟩)
      | (rw [if_pos c11, if_pos c25, if_neg c40]; exact ⟨FX.refl ci _, rfl⟩)
      | (rw [if_pos c11, if_pos c25, if_pos c40, if_neg c55]; exact ⟨FX.refl ci _, rfl⟩)
  · skip
    refine g_aload_n rfl rfl ?_
    refine g_ldcT rfl (by decide) ?_
    refine g_iload_n rfl rfl ?_
    refine g_callSI [aO (some (w 9)), aI 2] [aO (some c)] rfl rfl rfl rfl (Nat.le_of_ble_eq_true rfl) (x_sortAt (by omega) (tx 9 (by omega)) (by omega) 2) ?_
    rintro _ hq3 ⟨ehq3, rfl⟩
    rw [ehq3]
    clear ehq3 hq3
    refine g_top (v2 := aI 108) (congrArg aI (show chAt 9 2 = 108 by decide +kernel)) ?_
    refine g_iload_n rfl rfl ?_
    refine g_callVI [aI 108, aI b] [] rfl rfl rfl rfl (Nat.le_of_ble_eq_true rfl) (G0.cs.kd 0 (by omega) rfl) (x_isA (by omega) ci xt ok xn okn 108 b) ?_
    rintro _ hq4 ⟨ehq4, rfl⟩
    rw [ehq4]
    clear ehq4 hq4
    refine g_b_eq rfl (fun c25 => ?_) (fun c25 => ?_)
    · skip
      refine g_iconst rfl ?_
      refine g_iret rfl ?_
      first
        | (rw [if_neg c11]; exact ⟨FX.refl ci _, rfl⟩)
        | (rw [if_pos c11, if_neg c25]; exact ⟨FX.refl ci _, rfl⟩)
        | (rw [if_pos c11, if_pos c25, if_neg c40]; exact ⟨FX.refl ci _, rfl⟩)
        | (rw [if_pos c11, if_pos c25, if_pos c40, if_neg c55]; exact ⟨FX.refl ci _, rfl⟩)
    · skip
      refine g_aload_n rfl rfl ?_
      refine g_ldcT rfl (by decide) ?_
      refine g_iload_n rfl rfl ?_
      refine g_callSI [aO (some (w 10)), aI 2] [aO (some c)] rfl rfl rfl rfl (Nat.le_of_ble_eq_true rfl) (x_sortAt (by omega) (tx 10 (by omega)) (by omega) 2) ?_
      rintro _ hq5 ⟨ehq5, rfl⟩
      rw [ehq5]
      clear ehq5 hq5
      refine g_top (v2 := aI 45) (congrArg aI (show chAt 10 2 = 45 by decide +kernel)) ?_
      refine g_iload rfl rfl ?_
      refine g_callVI [aI 45, aI e] [] rfl rfl rfl rfl (Nat.le_of_ble_eq_true rfl) (G0.cs.kd 0 (by omega) rfl) (x_isA (by omega) ci xt ok xn okn 45 e) ?_
      rintro _ hq6 ⟨ehq6, rfl⟩
      rw [ehq6]
      clear ehq6 hq6
      refine g_b_eq rfl (fun c40 => ?_) (fun c40 => ?_)
      · skip
        refine g_iconst rfl ?_
        refine g_iret rfl ?_
        first
          | (rw [if_neg c11]; exact ⟨FX.refl ci _, rfl⟩)
          | (rw [if_pos c11, if_neg c25]; exact ⟨FX.refl ci _, rfl⟩)
          | (rw [if_pos c11, if_pos c25, if_neg c40]; exact ⟨FX.refl ci _, rfl⟩)
          | (rw [if_pos c11, if_pos c25, if_pos c40, if_neg c55]; exact ⟨FX.refl ci _, rfl⟩)
      · skip
        refine g_aload_n rfl rfl ?_
        refine g_ldcT rfl (by decide) ?_
        refine g_iload_n rfl rfl ?_
        refine g_callSI [aO (some (w 11)), aI 2] [aO (some c)] rfl rfl rfl rfl (Nat.le_of_ble_eq_true rfl) (x_sortAt (by omega) (tx 11 (by omega)) (by omega) 2) ?_
        rintro _ hq7 ⟨ehq7, rfl⟩
        rw [ehq7]
        clear ehq7 hq7
        refine g_top (v2 := aI 45) (congrArg aI (show chAt 11 2 = 45 by decide +kernel)) ?_
        refine g_iload rfl rfl ?_
        refine g_callVI [aI 45, aI f] [] rfl rfl rfl rfl (Nat.le_of_ble_eq_true rfl) (G0.cs.kd 0 (by omega) rfl) (x_isA (by omega) ci xt ok xn okn 45 f) ?_
        rintro _ hq8 ⟨ehq8, rfl⟩
        rw [ehq8]
        clear ehq8 hq8
        refine g_b_ne rfl (fun c55 => ?_) (fun c55 => ?_)
        · skip
          refine g_aload_n rfl rfl ?_
          refine g_getR rfl (G0.cs.kd 0 (by omega) rfl) (G0.cs.rf 1 (by omega) rfl) ?_
          have u11 := c11
          unfold isAS at u11
          have u25 := c25
          unfold isAS at u25
          have u40 := c40
          unfold isAS at u40
          have u55 := c55
          unfold isAS at u55
          refine g_callVN [] [] rfl rfl rfl rfl (Nat.le_of_ble_eq_true rfl) (G0.cs.kd 1 (by omega) rfl) (x_reset (by omega) ci) ?_
          rintro _ rfl
          obtain ⟨h0, eh0⟩ : ∃ h0, h0 = hw h (vset (hV h) (c + 1) 1 0) := ⟨_, rfl⟩
          rw [← eh0]
          have ci0 := ci.reset
          have xt0 := xt.reset
          have xn0 := xn.reset
          rw [← eh0] at ci0 xt0 xn0
          have ht : hV h0 (c + 1) 1 ≤ 10 := by rw [eh0]; show vset _ _ _ _ _ _ ≤ _; rw [vset_eq]; omega
          clear ci xt xn
          have ci := ci0
          have xt := xt0
          have xn := xn0
          clear ci0 xt0 xn0
          have G0 := Gr.refl ci
          refine g_aload_n rfl rfl ?_
          refine g_getR rfl (G0.cs.kd 0 (by omega) rfl) (G0.cs.rf 15 (by omega) rfl) ?_
          refine g_iload_n rfl rfl ?_
          refine g_iload_n rfl rfl ?_
          refine g_iload_n rfl rfl ?_
          refine g_iload rfl rfl ?_
          refine g_iload rfl rfl ?_
          refine g_callVI [aI 2, aI a, aI b, aI e, aI f] [] rfl rfl rfl rfl (Nat.le_of_ble_eq_true rfl) (G0.cs.kd 10 (by omega) rfl) (o_so2 (by omega) G0.ci xt ok a (by omega) b (by omega) e f) ?_
          rintro _ h9 ⟨g9, rfl⟩
          have G9 := G0.trans g9
          refine g_b_eq rfl (fun c81 => ?_) (fun c81 => ?_)
          · skip
            refine g_iconst rfl ?_
            refine g_iret rfl ?_
            rw [if_pos c11, if_pos c25, if_pos c40, if_pos c55]
            refine ⟨G9.fx eh0 (by omega) (fun q => q), ?_⟩
            first
              | rw [if_pos c81]
              | rw [if_neg c81]
          · skip
            refine g_iconst rfl ?_
            refine g_goto rfl ?_
            refine g_iret rfl ?_
            rw [if_pos c11, if_pos c25, if_pos c40, if_pos c55]
            refine ⟨G9.fx eh0 (by omega) (fun q => q), ?_⟩
            first
              | rw [if_pos c81]
              | rw [if_neg c81]
        · skip
          refine g_iconst rfl ?_
          refine g_iret rfl ?_
          first
            | (rw [if_neg c11]; exact ⟨FX.refl ci _, rfl⟩)
            | (rw [if_pos c11, if_neg c25]; exact ⟨FX.refl ci _, rfl⟩)
            | (rw [if_pos c11, if_pos c25, if_neg c40]; exact ⟨FX.refl ci _, rfl⟩)
            | (rw [if_pos c11, if_pos c25, if_pos c40, if_neg c55]; exact ⟨FX.refl ci _, rfl⟩)
set_option maxHeartbeats 4000000 in
theorem x_holds3 {w : aW} {d : Nat} (hd : 10 ≤ d) {h : aH} {c : Nat} (ci : CI h c) {S : aS} (xt : XT h c S) (ok : OkT S) (xn : XN (hV h) c S) (okn : OkN S) (tx : ∀ i < 12, hT h (w i) = (8, i)) (a : Int) (b : Int) (e : Int) (f : Int) : WP w d 209 [aO (some c), aI 3, aI a, aI b, aI e, aI f] h (RI (fun r h1 => FX h h1 c (fun _ => False) ∧ r = if isAS S 112 a then (if isAS S 99 b then (if isAS S 45 e then (if isAS S 45 f then (if ¬ (tpT S a).2.2 = 0 ∧ p_inEq_S (tpT S a) (tpR S b) = 0 then 1 else 0) else -1) else -1) else -1) else -1)) := by
  obtain ⟨d, rfl⟩ : ∃ d1, d = d1 + 1 := ⟨d - 1, by omega⟩
  refine WP.enter (cd := cd_X11_holds) rfl ?_
  have G0 := Gr.refl ci
  have hls : largs 0 [aO (some c), aI 3, aI a, aI b, aI e, aI f] = [(0, aO (some c)), (1, aI 3), (2, aI a), (3, aI b), (4, aI e), (5, aI f)] := rfl
  rw [hls]
  clear hls
  refine g_aload_n rfl rfl ?_
  refine g_ldcT rfl (by decide) ?_
  refine g_iload_n rfl rfl ?_
  refine g_callSI [aO (some (w 8)), aI 3] [aO (some c)] rfl rfl rfl rfl (Nat.le_of_ble_eq_true rfl) (x_sortAt (by omega) (tx 8 (by omega)) (by omega) 3) ?_
  rintro _ hq1 ⟨ehq1, rfl⟩
  rw [ehq1]
  clear ehq1 hq1
  refine g_top (v2 := aI 112) (congrArg aI (show chAt 8 3 = 112 by decide +kernel)) ?_
  refine g_iload_n rfl rfl ?_
  refine g_callVI [aI 112, aI a] [] rfl rfl rfl rfl (Nat.le_of_ble_eq_true rfl) (G0.cs.kd 0 (by omega) rfl) (x_isA (by omega) ci xt ok xn okn 112 a) ?_
  rintro _ hq2 ⟨ehq2, rfl⟩
  rw [ehq2]
  clear ehq2 hq2
  refine g_b_eq rfl (fun c11 => ?_) (fun c11 => ?_)
  · skip
    refine g_iconst rfl ?_
    refine g_iret rfl ?_
    first
      | (rw [if_neg c11]; exact ⟨FX.refl ci _, rfl⟩)
      | (rw [if_pos c11, if_neg c25]; exact ⟨FX.refl ci _, rfl⟩)
      | (rw [if_pos c11, if_pos c25, if_neg c40]; exact ⟨FX.refl ci _, rfl⟩)
      | (rw [if_pos c11, if_pos c25, if_pos c40, if_neg c55]; exact ⟨FX.refl ci _, rfl⟩)
  · skip
    refine g_aload_n rfl rfl ?_
    refine g_ldcT rfl (by decide) ?_
    refine g_iload_n rfl rfl ?_
    refine g_callSI [aO (some (w 9)), aI 3] [aO (some c)] rfl rfl rfl rfl (Nat.le_of_ble_eq_true rfl) (x_sortAt (by omega) (tx 9 (by omega)) (by omega) 3) ?_
    rintro _ hq3 ⟨ehq3, rfl⟩
    rw [ehq3]
    clear ehq3 hq3
    refine g_top (v2 := aI 99) (congrArg aI (show chAt 9 3 = 99 by decide +kernel)) ?_
    refine g_iload_n rfl rfl ?_
    refine g_callVI [aI 99, aI b] [] rfl rfl rfl rfl (Nat.le_of_ble_eq_true rfl) (G0.cs.kd 0 (by omega) rfl) (x_isA (by omega) ci xt ok xn okn 99 b) ?_
    rintro _ hq4 ⟨ehq4, rfl⟩
    rw [ehq4]
    clear ehq4 hq4
    refine g_b_eq rfl (fun c25 => ?_) (fun c25 => ?_)
    · skip
      refine g_iconst rfl ?_
      refine g_iret rfl ?_
      first
        | (rw [if_neg c11]; exact ⟨FX.refl ci _, rfl⟩)
        | (rw [if_pos c11, if_neg c25]; exact ⟨FX.refl ci _, rfl⟩)
        | (rw [if_pos c11, if_pos c25, if_neg c40]; exact ⟨FX.refl ci _, rfl⟩)
        | (rw [if_pos c11, if_pos c25, if_pos c40, if_neg c55]; exact ⟨FX.refl ci _, rfl⟩)
    · skip
      refine g_aload_n rfl rfl ?_
      refine g_ldcT rfl (by decide) ?_
      refine g_iload_n rfl rfl ?_
      refine g_callSI [aO (some (w 10)), aI 3] [aO (some c)] rfl rfl rfl rfl (Nat.le_of_ble_eq_true rfl) (x_sortAt (by omega) (tx 10 (by omega)) (by omega) 3) ?_
      rintro _ hq5 ⟨ehq5, rfl⟩
      rw [ehq5]
      clear ehq5 hq5
      refine g_top (v2 := aI 45) (congrArg aI (show chAt 10 3 = 45 by decide +kernel)) ?_
      refine g_iload rfl rfl ?_
      refine g_callVI [aI 45, aI e] [] rfl rfl rfl rfl (Nat.le_of_ble_eq_true rfl) (G0.cs.kd 0 (by omega) rfl) (x_isA (by omega) ci xt ok xn okn 45 e) ?_
      rintro _ hq6 ⟨ehq6, rfl⟩
      rw [ehq6]
      clear ehq6 hq6
      refine g_b_eq rfl (fun c40 => ?_) (fun c40 => ?_)
      · skip
        refine g_iconst rfl ?_
        refine g_iret rfl ?_
        first
          | (rw [if_neg c11]; exact ⟨FX.refl ci _, rfl⟩)
          | (rw [if_pos c11, if_neg c25]; exact ⟨FX.refl ci _, rfl⟩)
          | (rw [if_pos c11, if_pos c25, if_neg c40]; exact ⟨FX.refl ci _, rfl⟩)
          | (rw [if_pos c11, if_pos c25, if_pos c40, if_neg c55]; exact ⟨FX.refl ci _, rfl⟩)
      · skip
        refine g_aload_n rfl rfl ?_
        refine g_ldcT rfl (by decide) ?_
        refine g_iload_n rfl rfl ?_
        refine g_callSI [aO (some (w 11)), aI 3] [aO (some c)] rfl rfl rfl rfl (Nat.le_of_ble_eq_true rfl) (x_sortAt (by omega) (tx 11 (by omega)) (by omega) 3) ?_
        rintro _ hq7 ⟨ehq7, rfl⟩
        rw [ehq7]
        clear ehq7 hq7
        refine g_top (v2 := aI 45) (congrArg aI (show chAt 11 3 = 45 by decide +kernel)) ?_
        refine g_iload rfl rfl ?_
        refine g_callVI [aI 45, aI f] [] rfl rfl rfl rfl (Nat.le_of_ble_eq_true rfl) (G0.cs.kd 0 (by omega) rfl) (x_isA (by omega) ci xt ok xn okn 45 f) ?_
        rintro _ hq8 ⟨ehq8, rfl⟩
        rw [ehq8]
        clear ehq8 hq8
        refine g_b_ne rfl (fun c55 => ?_) (fun c55 => ?_)
        · skip
          refine g_aload_n rfl rfl ?_
          refine g_getR rfl (G0.cs.kd 0 (by omega) rfl) (G0.cs.rf 1 (by omega) rfl) ?_
          have u11 := c11
          unfold isAS at u11
          have u25 := c25
          unfold isAS at u25
          have u40 := c40
          unfold isAS at u40
          have u55 := c55
          unfold isAS at u55
          refine g_callVN [] [] rfl rfl rfl rfl (Nat.le_of_ble_eq_true rfl) (G0.cs.kd 1 (by omega) rfl) (x_reset (by omega) ci) ?_
          rintro _ rfl
          obtain ⟨h0, eh0⟩ : ∃ h0, h0 = hw h (vset (hV h) (c + 1) 1 0) := ⟨_, rfl⟩
          rw [← eh0]
          have ci0 := ci.reset
          have xt0 := xt.reset
          have xn0 := xn.reset
          rw [← eh0] at ci0 xt0 xn0
          have ht : hV h0 (c + 1) 1 ≤ 10 := by rw [eh0]; show vset _ _ _ _ _ _ ≤ _; rw [vset_eq]; omega
          clear ci xt xn
          have ci := ci0
          have xt := xt0
          have xn := xn0
          clear ci0 xt0 xn0
          have G0 := Gr.refl ci
          refine g_aload_n rfl rfl ?_
          refine g_getR rfl (G0.cs.kd 0 (by omega) rfl) (G0.cs.rf 15 (by omega) rfl) ?_
          refine g_iload_n rfl rfl ?_
          refine g_iload_n rfl rfl ?_
          refine g_iload_n rfl rfl ?_
          refine g_iload rfl rfl ?_
          refine g_iload rfl rfl ?_
          refine g_callVI [aI 3, aI a, aI b, aI e, aI f] [] rfl rfl rfl rfl (Nat.le_of_ble_eq_true rfl) (G0.cs.kd 10 (by omega) rfl) (o_so3 (by omega) G0.ci xt ok a (by omega) b (by omega) e f) ?_
          rintro _ h9 ⟨g9, rfl⟩
          have G9 := G0.trans g9
          refine g_b_eq rfl (fun c81 => ?_) (fun c81 => ?_)
          · skip
            refine g_iconst rfl ?_
            refine g_iret rfl ?_
            rw [if_pos c11, if_pos c25, if_pos c40, if_pos c55]
            refine ⟨G9.fx eh0 (by omega) (fun q => q), ?_⟩
            first
              | rw [if_pos c81]
              | rw [if_neg c81]
          · skip
            refine g_iconst rfl ?_
            refine g_goto rfl ?_
            refine g_iret rfl ?_
            rw [if_pos c11, if_pos c25, if_pos c40, if_pos c55]
            refine ⟨G9.fx eh0 (by omega) (fun q => q), ?_⟩
            first
              | rw [if_pos c81]
              | rw [if_neg c81]
        · skip
          refine g_iconst rfl ?_
          refine g_iret rfl ?_
          first
            | (rw [if_neg c11]; exact ⟨FX.refl ci _, rfl⟩)
            | (rw [if_pos c11, if_neg c25]; exact ⟨FX.refl ci _, rfl⟩)
            | (rw [if_pos c11, if_pos c25, if_neg c40]; exact ⟨FX.refl ci _, rfl⟩)
            | (rw [if_pos c11, if_pos c25, if_pos c40, if_neg c55]; exact ⟨FX.refl ci _, rfl⟩)
set_option maxHeartbeats 4000000 in
theorem x_holds4 {w : aW} {d : Nat} (hd : 10 ≤ d) {h : aH} {c : Nat} (ci : CI h c) {S : aS} (xt : XT h c S) (ok : OkT S) (xn : XN (hV h) c S) (okn : OkN S) (tx : ∀ i < 12, hT h (w i) = (8, i)) (a : Int) (b : Int) (e : Int) (f : Int) : WP w d 209 [aO (some c), aI 4, aI a, aI b, aI e, aI f] h (RI (fun r h1 => FX h h1 c (fun _ => False) ∧ r = if isAS S 108 a then (if isAS S 108 b then (if isAS S 45 e then (if isAS S 45 f then (if (tpT S a).1 * (tpT S b).2.1 = (tpT S a).2.1 * (tpT S b).1 then 1 else 0) else -1) else -1) else -1) else -1)) := by
  obtain ⟨d, rfl⟩ : ∃ d1, d = d1 + 1 := ⟨d - 1, by omega⟩
  refine WP.enter (cd := cd_X11_holds) rfl ?_
  have G0 := Gr.refl ci
  have hls : largs 0 [aO (some c), aI 4, aI a, aI b, aI e, aI f] = [(0, aO (some c)), (1, aI 4), (2, aI a), (3, aI b), (4, aI e), (5, aI f)] := rfl
  rw [hls]
  clear hls
  refine g_aload_n rfl rfl ?_
  refine g_ldcT rfl (by decide) ?_
  refine g_iload_n rfl rfl ?_
  refine g_callSI [aO (some (w 8)), aI 4] [aO (some c)] rfl rfl rfl rfl (Nat.le_of_ble_eq_true rfl) (x_sortAt (by omega) (tx 8 (by omega)) (by omega) 4) ?_
  rintro _ hq1 ⟨ehq1, rfl⟩
  rw [ehq1]
  clear ehq1 hq1
  refine g_top (v2 := aI 108) (congrArg aI (show chAt 8 4 = 108 by decide +kernel)) ?_
  refine g_iload_n rfl rfl ?_
  refine g_callVI [aI 108, aI a] [] rfl rfl rfl rfl (Nat.le_of_ble_eq_true rfl) (G0.cs.kd 0 (by omega) rfl) (x_isA (by omega) ci xt ok xn okn 108 a) ?_
  rintro _ hq2 ⟨ehq2, rfl⟩
  rw [ehq2]
  clear ehq2 hq2
  refine g_b_eq rfl (fun c11 => ?_) (fun c11 => ?_)
  · skip
    refine g_iconst rfl ?_
    refine g_iret rfl ?_
    first
      | (rw [if_neg c11]; exact ⟨FX.refl ci _, rfl⟩)
      | (rw [if_pos c11, if_neg c25]; exact ⟨FX.refl ci _, rfl⟩)
      | (rw [if_pos c11, if_pos c25, if_neg c40]; exact ⟨FX.refl ci _, rfl⟩)
      | (rw [if_pos c11, if_pos c25, if_pos c40, if_neg c55]; exact ⟨FX.refl ci _, rfl⟩)
  · skip
    refine g_aload_n rfl rfl ?_
    refine g_ldcT rfl (by decide) ?_
    refine g_iload_n rfl rfl ?_
    refine g_callSI [aO (some (w 9)), aI 4] [aO (some c)] rfl rfl rfl rfl (Nat.le_of_ble_eq_true rfl) (x_sortAt (by omega) (tx 9 (by omega)) (by omega) 4) ?_
    rintro _ hq3 ⟨ehq3, rfl⟩
    rw [ehq3]
    clear ehq3 hq3
    refine g_top (v2 := aI 108) (congrArg aI (show chAt 9 4 = 108 by decide +kernel)) ?_
    refine g_iload_n rfl rfl ?_
    refine g_callVI [aI 108, aI b] [] rfl rfl rfl rfl (Nat.le_of_ble_eq_true rfl) (G0.cs.kd 0 (by omega) rfl) (x_isA (by omega) ci xt ok xn okn 108 b) ?_
    rintro _ hq4 ⟨ehq4, rfl⟩
    rw [ehq4]
    clear ehq4 hq4
    refine g_b_eq rfl (fun c25 => ?_) (fun c25 => ?_)
    · skip
      refine g_iconst rfl ?_
      refine g_iret rfl ?_
      first
        | (rw [if_neg c11]; exact ⟨FX.refl ci _, rfl⟩)
        | (rw [if_pos c11, if_neg c25]; exact ⟨FX.refl ci _, rfl⟩)
        | (rw [if_pos c11, if_pos c25, if_neg c40]; exact ⟨FX.refl ci _, rfl⟩)
        | (rw [if_pos c11, if_pos c25, if_pos c40, if_neg c55]; exact ⟨FX.refl ci _, rfl⟩)
    · skip
      refine g_aload_n rfl rfl ?_
      refine g_ldcT rfl (by decide) ?_
      refine g_iload_n rfl rfl ?_
      refine g_callSI [aO (some (w 10)), aI 4] [aO (some c)] rfl rfl rfl rfl (Nat.le_of_ble_eq_true rfl) (x_sortAt (by omega) (tx 10 (by omega)) (by omega) 4) ?_
      rintro _ hq5 ⟨ehq5, rfl⟩
      rw [ehq5]
      clear ehq5 hq5
      refine g_top (v2 := aI 45) (congrArg aI (show chAt 10 4 = 45 by decide +kernel)) ?_
      refine g_iload rfl rfl ?_
      refine g_callVI [aI 45, aI e] [] rfl rfl rfl rfl (Nat.le_of_ble_eq_true rfl) (G0.cs.kd 0 (by omega) rfl) (x_isA (by omega) ci xt ok xn okn 45 e) ?_
      rintro _ hq6 ⟨ehq6, rfl⟩
      rw [ehq6]
      clear ehq6 hq6
      refine g_b_eq rfl (fun c40 => ?_) (fun c40 => ?_)
      · skip
        refine g_iconst rfl ?_
        refine g_iret rfl ?_
        first
          | (rw [if_neg c11]; exact ⟨FX.refl ci _, rfl⟩)
          | (rw [if_pos c11, if_neg c25]; exact ⟨FX.refl ci _, rfl⟩)
          | (rw [if_pos c11, if_pos c25, if_neg c40]; exact ⟨FX.refl ci _, rfl⟩)
          | (rw [if_pos c11, if_pos c25, if_pos c40, if_neg c55]; exact ⟨FX.refl ci _, rfl⟩)
      · skip
        refine g_aload_n rfl rfl ?_
        refine g_ldcT rfl (by decide) ?_
        refine g_iload_n rfl rfl ?_
        refine g_callSI [aO (some (w 11)), aI 4] [aO (some c)] rfl rfl rfl rfl (Nat.le_of_ble_eq_true rfl) (x_sortAt (by omega) (tx 11 (by omega)) (by omega) 4) ?_
        rintro _ hq7 ⟨ehq7, rfl⟩
        rw [ehq7]
        clear ehq7 hq7
        refine g_top (v2 := aI 45) (congrArg aI (show chAt 11 4 = 45 by decide +kernel)) ?_
        refine g_iload rfl rfl ?_
        refine g_callVI [aI 45, aI f] [] rfl rfl rfl rfl (Nat.le_of_ble_eq_true rfl) (G0.cs.kd 0 (by omega) rfl) (x_isA (by omega) ci xt ok xn okn 45 f) ?_
        rintro _ hq8 ⟨ehq8, rfl⟩
        rw [ehq8]
        clear ehq8 hq8
        refine g_b_ne rfl (fun c55 => ?_) (fun c55 => ?_)
        · skip
          refine g_aload_n rfl rfl ?_
          refine g_getR rfl (G0.cs.kd 0 (by omega) rfl) (G0.cs.rf 1 (by omega) rfl) ?_
          have u11 := c11
          unfold isAS at u11
          have u25 := c25
          unfold isAS at u25
          have u40 := c40
          unfold isAS at u40
          have u55 := c55
          unfold isAS at u55
          refine g_callVN [] [] rfl rfl rfl rfl (Nat.le_of_ble_eq_true rfl) (G0.cs.kd 1 (by omega) rfl) (x_reset (by omega) ci) ?_
          rintro _ rfl
          obtain ⟨h0, eh0⟩ : ∃ h0, h0 = hw h (vset (hV h) (c + 1) 1 0) := ⟨_, rfl⟩
          rw [← eh0]
          have ci0 := ci.reset
          have xt0 := xt.reset
          have xn0 := xn.reset
          rw [← eh0] at ci0 xt0 xn0
          have ht : hV h0 (c + 1) 1 ≤ 10 := by rw [eh0]; show vset _ _ _ _ _ _ ≤ _; rw [vset_eq]; omega
          clear ci xt xn
          have ci := ci0
          have xt := xt0
          have xn := xn0
          clear ci0 xt0 xn0
          have G0 := Gr.refl ci
          refine g_aload_n rfl rfl ?_
          refine g_getR rfl (G0.cs.kd 0 (by omega) rfl) (G0.cs.rf 15 (by omega) rfl) ?_
          refine g_iload_n rfl rfl ?_
          refine g_iload_n rfl rfl ?_
          refine g_iload_n rfl rfl ?_
          refine g_iload rfl rfl ?_
          refine g_iload rfl rfl ?_
          refine g_callVI [aI 4, aI a, aI b, aI e, aI f] [] rfl rfl rfl rfl (Nat.le_of_ble_eq_true rfl) (G0.cs.kd 10 (by omega) rfl) (o_so4 (by omega) G0.ci xt ok a (by omega) b (by omega) e f) ?_
          rintro _ h9 ⟨g9, rfl⟩
          have G9 := G0.trans g9
          refine g_b_eq rfl (fun c81 => ?_) (fun c81 => ?_)
          · skip
            refine g_iconst rfl ?_
            refine g_iret rfl ?_
            rw [if_pos c11, if_pos c25, if_pos c40, if_pos c55]
            refine ⟨G9.fx eh0 (by omega) (fun q => q), ?_⟩
            first
              | rw [if_pos c81]
              | rw [if_neg c81]
          · skip
            refine g_iconst rfl ?_
            refine g_goto rfl ?_
            refine g_iret rfl ?_
            rw [if_pos c11, if_pos c25, if_pos c40, if_pos c55]
            refine ⟨G9.fx eh0 (by omega) (fun q => q), ?_⟩
            first
              | rw [if_pos c81]
              | rw [if_neg c81]
        · skip
          refine g_iconst rfl ?_
          refine g_iret rfl ?_
          first
            | (rw [if_neg c11]; exact ⟨FX.refl ci _, rfl⟩)
            | (rw [if_pos c11, if_neg c25]; exact ⟨FX.refl ci _, rfl⟩)
            | (rw [if_pos c11, if_pos c25, if_neg c40]; exact ⟨FX.refl ci _, rfl⟩)
            | (rw [if_pos c11, if_pos c25, if_pos c40, if_neg c55]; exact ⟨FX.refl ci _, rfl⟩)
set_option maxHeartbeats 4000000 in
theorem x_holds5 {w : aW} {d : Nat} (hd : 10 ≤ d) {h : aH} {c : Nat} (ci : CI h c) {S : aS} (xt : XT h c S) (ok : OkT S) (xn : XN (hV h) c S) (okn : OkN S) (tx : ∀ i < 12, hT h (w i) = (8, i)) (a : Int) (b : Int) (e : Int) (f : Int) : WP w d 209 [aO (some c), aI 5, aI a, aI b, aI e, aI f] h (RI (fun r h1 => FX h h1 c (fun _ => False) ∧ r = if isAS S 108 a then (if isAS S 108 b then (if isAS S 45 e then (if isAS S 45 f then (if ¬((tpT S a).1 = 0 ∧ (tpT S a).2.1 = 0) ∧ ¬((tpT S b).1 = 0 ∧ (tpT S b).2.1 = 0) ∧ (tpT S a).1 * (tpT S b).1 + (tpT S a).2.1 * (tpT S b).2.1 = 0 then 1 else 0) else -1) else -1) else -1) else -1)) := by
  obtain ⟨d, rfl⟩ : ∃ d1, d = d1 + 1 := ⟨d - 1, by omega⟩
  refine WP.enter (cd := cd_X11_holds) rfl ?_
  have G0 := Gr.refl ci
  have hls : largs 0 [aO (some c), aI 5, aI a, aI b, aI e, aI f] = [(0, aO (some c)), (1, aI 5), (2, aI a), (3, aI b), (4, aI e), (5, aI f)] := rfl
  rw [hls]
  clear hls
  refine g_aload_n rfl rfl ?_
  refine g_ldcT rfl (by decide) ?_
  refine g_iload_n rfl rfl ?_
  refine g_callSI [aO (some (w 8)), aI 5] [aO (some c)] rfl rfl rfl rfl (Nat.le_of_ble_eq_true rfl) (x_sortAt (by omega) (tx 8 (by omega)) (by omega) 5) ?_
  rintro _ hq1 ⟨ehq1, rfl⟩
  rw [ehq1]
  clear ehq1 hq1
  refine g_top (v2 := aI 108) (congrArg aI (show chAt 8 5 = 108 by decide +kernel)) ?_
  refine g_iload_n rfl rfl ?_
  refine g_callVI [aI 108, aI a] [] rfl rfl rfl rfl (Nat.le_of_ble_eq_true rfl) (G0.cs.kd 0 (by omega) rfl) (x_isA (by omega) ci xt ok xn okn 108 a) ?_
  rintro _ hq2 ⟨ehq2, rfl⟩
  rw [ehq2]
  clear ehq2 hq2
  refine g_b_eq rfl (fun c11 => ?_) (fun c11 => ?_)
  · skip
    refine g_iconst rfl ?_
    refine g_iret rfl ?_
    first
      | (rw [if_neg c11]; exact ⟨FX.refl ci _, rfl⟩)
      | (rw [if_pos c11, if_neg c25]; exact ⟨FX.refl ci _, rfl⟩)
      | (rw [if_pos c11, if_pos c25, if_neg c40]; exact ⟨FX.refl ci _, rfl⟩)
      | (rw [if_pos c11, if_pos c25, if_pos c40, if_neg c55]; exact ⟨FX.refl ci _, rfl⟩)
  · skip
    refine g_aload_n rfl rfl ?_
    refine g_ldcT rfl (by decide) ?_
    refine g_iload_n rfl rfl ?_
    refine g_callSI [aO (some (w 9)), aI 5] [aO (some c)] rfl rfl rfl rfl (Nat.le_of_ble_eq_true rfl) (x_sortAt (by omega) (tx 9 (by omega)) (by omega) 5) ?_
    rintro _ hq3 ⟨ehq3, rfl⟩
    rw [ehq3]
    clear ehq3 hq3
    refine g_top (v2 := aI 108) (congrArg aI (show chAt 9 5 = 108 by decide +kernel)) ?_
    refine g_iload_n rfl rfl ?_
    refine g_callVI [aI 108, aI b] [] rfl rfl rfl rfl (Nat.le_of_ble_eq_true rfl) (G0.cs.kd 0 (by omega) rfl) (x_isA (by omega) ci xt ok xn okn 108 b) ?_
    rintro _ hq4 ⟨ehq4, rfl⟩
    rw [ehq4]
    clear ehq4 hq4
    refine g_b_eq rfl (fun c25 => ?_) (fun c25 => ?_)
    · skip
      refine g_iconst rfl ?_
      refine g_iret rfl ?_
      first
        | (rw [if_neg c11]; exact ⟨FX.refl ci _, rfl⟩)
        | (rw [if_pos c11, if_neg c25]; exact ⟨FX.refl ci _, rfl⟩)
        | (rw [if_pos c11, if_pos c25, if_neg c40]; exact ⟨FX.refl ci _, rfl⟩)
        | (rw [if_pos c11, if_pos c25, if_pos c40, if_neg c55]; exact ⟨FX.refl ci _, rfl⟩)
    · skip
      refine g_aload_n rfl rfl ?_
      refine g_ldcT rfl (by decide) ?_
      refine g_iload_n rfl rfl ?_
      refine g_callSI [aO (some (w 10)), aI 5] [aO (some c)] rfl rfl rfl rfl (Nat.le_of_ble_eq_true rfl) (x_sortAt (by omega) (tx 10 (by omega)) (by omega) 5) ?_
      rintro _ hq5 ⟨ehq5, rfl⟩
      rw [ehq5]
      clear ehq5 hq5
      refine g_top (v2 := aI 45) (congrArg aI (show chAt 10 5 = 45 by decide +kernel)) ?_
      refine g_iload rfl rfl ?_
      refine g_callVI [aI 45, aI e] [] rfl rfl rfl rfl (Nat.le_of_ble_eq_true rfl) (G0.cs.kd 0 (by omega) rfl) (x_isA (by omega) ci xt ok xn okn 45 e) ?_
      rintro _ hq6 ⟨ehq6, rfl⟩
      rw [ehq6]
      clear ehq6 hq6
      refine g_b_eq rfl (fun c40 => ?_) (fun c40 => ?_)
      · skip
        refine g_iconst rfl ?_
        refine g_iret rfl ?_
        first
          | (rw [if_neg c11]; exact ⟨FX.refl ci _, rfl⟩)
          | (rw [if_pos c11, if_neg c25]; exact ⟨FX.refl ci _, rfl⟩)
          | (rw [if_pos c11, if_pos c25, if_neg c40]; exact ⟨FX.refl ci _, rfl⟩)
          | (rw [if_pos c11, if_pos c25, if_pos c40, if_neg c55]; exact ⟨FX.refl ci _, rfl⟩)
      · skip
        refine g_aload_n rfl rfl ?_
        refine g_ldcT rfl (by decide) ?_
        refine g_iload_n rfl rfl ?_
        refine g_callSI [aO (some (w 11)), aI 5] [aO (some c)] rfl rfl rfl rfl (Nat.le_of_ble_eq_true rfl) (x_sortAt (by omega) (tx 11 (by omega)) (by omega) 5) ?_
        rintro _ hq7 ⟨ehq7, rfl⟩
        rw [ehq7]
        clear ehq7 hq7
        refine g_top (v2 := aI 45) (congrArg aI (show chAt 11 5 = 45 by decide +kernel)) ?_
        refine g_iload rfl rfl ?_
        refine g_callVI [aI 45, aI f] [] rfl rfl rfl rfl (Nat.le_of_ble_eq_true rfl) (G0.cs.kd 0 (by omega) rfl) (x_isA (by omega) ci xt ok xn okn 45 f) ?_
        rintro _ hq8 ⟨ehq8, rfl⟩
        rw [ehq8]
        clear ehq8 hq8
        refine g_b_ne rfl (fun c55 => ?_) (fun c55 => ?_)
        · skip
          refine g_aload_n rfl rfl ?_
          refine g_getR rfl (G0.cs.kd 0 (by omega) rfl) (G0.cs.rf 1 (by omega) rfl) ?_
          have u11 := c11
          unfold isAS at u11
          have u25 := c25
          unfold isAS at u25
          have u40 := c40
          unfold isAS at u40
          have u55 := c55
          unfold isAS at u55
          refine g_callVN [] [] rfl rfl rfl rfl (Nat.le_of_ble_eq_true rfl) (G0.cs.kd 1 (by omega) rfl) (x_reset (by omega) ci) ?_
          rintro _ rfl
          obtain ⟨h0, eh0⟩ : ∃ h0, h0 = hw h (vset (hV h) (c + 1) 1 0) := ⟨_, rfl⟩
          rw [← eh0]
          have ci0 := ci.reset
          have xt0 := xt.reset
          have xn0 := xn.reset
          rw [← eh0] at ci0 xt0 xn0
          have ht : hV h0 (c + 1) 1 ≤ 10 := by rw [eh0]; show vset _ _ _ _ _ _ ≤ _; rw [vset_eq]; omega
          clear ci xt xn
          have ci := ci0
          have xt := xt0
          have xn := xn0
          clear ci0 xt0 xn0
          have G0 := Gr.refl ci
          refine g_aload_n rfl rfl ?_
          refine g_getR rfl (G0.cs.kd 0 (by omega) rfl) (G0.cs.rf 15 (by omega) rfl) ?_
          refine g_iload_n rfl rfl ?_
          refine g_iload_n rfl rfl ?_
          refine g_iload_n rfl rfl ?_
          refine g_iload rfl rfl ?_
          refine g_iload rfl rfl ?_
          refine g_callVI [aI 5, aI a, aI b, aI e, aI f] [] rfl rfl rfl rfl (Nat.le_of_ble_eq_true rfl) (G0.cs.kd 10 (by omega) rfl) (o_so5 (by omega) G0.ci xt ok a (by omega) b (by omega) e f) ?_
          rintro _ h9 ⟨g9, rfl⟩
          have G9 := G0.trans g9
          refine g_b_eq rfl (fun c81 => ?_) (fun c81 => ?_)
          · skip
            refine g_iconst rfl ?_
            refine g_iret rfl ?_
            rw [if_pos c11, if_pos c25, if_pos c40, if_pos c55]
            refine ⟨G9.fx eh0 (by omega) (fun q => q), ?_⟩
            first
              | rw [if_pos c81]
              | rw [if_neg c81]
          · skip
            refine g_iconst rfl ?_
            refine g_goto rfl ?_
            refine g_iret rfl ?_
            rw [if_pos c11, if_pos c25, if_pos c40, if_pos c55]
            refine ⟨G9.fx eh0 (by omega) (fun q => q), ?_⟩
            first
              | rw [if_pos c81]
              | rw [if_neg c81]
        · skip
          refine g_iconst rfl ?_
          refine g_iret rfl ?_
          first
            | (rw [if_neg c11]; exact ⟨FX.refl ci _, rfl⟩)
            | (rw [if_pos c11, if_neg c25]; exact ⟨FX.refl ci _, rfl⟩)
            | (rw [if_pos c11, if_pos c25, if_neg c40]; exact ⟨FX.refl ci _, rfl⟩)
            | (rw [if_pos c11, if_pos c25, if_pos c40, if_neg c55]; exact ⟨FX.refl ci _, rfl⟩)
set_option maxHeartbeats 4000000 in
theorem x_holds6 {w : aW} {d : Nat} (hd : 10 ≤ d) {h : aH} {c : Nat} (ci : CI h c) {S : aS} (xt : XT h c S) (ok : OkT S) (xn : XN (hV h) c S) (okn : OkN S) (tx : ∀ i < 12, hT h (w i) = (8, i)) (a : Int) (b : Int) (e : Int) (f : Int) : WP w d 209 [aO (some c), aI 6, aI a, aI b, aI e, aI f] h (RI (fun r h1 => FX h h1 c (fun _ => False) ∧ r = if isAS S 112 a then (if isAS S 112 b then (if isAS S 112 e then (if isAS S 112 f then (if ¬((tpT S a).2.2 = 0 ∨ (tpT S b).2.2 = 0) ∧ ¬((tpT S e).2.2 = 0 ∨ (tpT S f).2.2 = 0) ∧ (p_way_S (tpT S a) (tpT S b)).1 * (p_way_S (tpT S e) (tpT S f)).2.2 = (p_way_S (tpT S e) (tpT S f)).1 * (p_way_S (tpT S a) (tpT S b)).2.2 then 1 else 0) else -1) else -1) else -1) else -1)) := by
  obtain ⟨d, rfl⟩ : ∃ d1, d = d1 + 1 := ⟨d - 1, by omega⟩
  refine WP.enter (cd := cd_X11_holds) rfl ?_
  have G0 := Gr.refl ci
  have hls : largs 0 [aO (some c), aI 6, aI a, aI b, aI e, aI f] = [(0, aO (some c)), (1, aI 6), (2, aI a), (3, aI b), (4, aI e), (5, aI f)] := rfl
  rw [hls]
  clear hls
  refine g_aload_n rfl rfl ?_
  refine g_ldcT rfl (by decide) ?_
  refine g_iload_n rfl rfl ?_
  refine g_callSI [aO (some (w 8)), aI 6] [aO (some c)] rfl rfl rfl rfl (Nat.le_of_ble_eq_true rfl) (x_sortAt (by omega) (tx 8 (by omega)) (by omega) 6) ?_
  rintro _ hq1 ⟨ehq1, rfl⟩
  rw [ehq1]
  clear ehq1 hq1
  refine g_top (v2 := aI 112) (congrArg aI (show chAt 8 6 = 112 by decide +kernel)) ?_
  refine g_iload_n rfl rfl ?_
  refine g_callVI [aI 112, aI a] [] rfl rfl rfl rfl (Nat.le_of_ble_eq_true rfl) (G0.cs.kd 0 (by omega) rfl) (x_isA (by omega) ci xt ok xn okn 112 a) ?_
  rintro _ hq2 ⟨ehq2, rfl⟩
  rw [ehq2]
  clear ehq2 hq2
  refine g_b_eq rfl (fun c11 => ?_) (fun c11 => ?_)
  · skip
    refine g_iconst rfl ?_
    refine g_iret rfl ?_
    first
      | (rw [if_neg c11]; exact ⟨FX.refl ci _, rfl⟩)
      | (rw [if_pos c11, if_neg c25]; exact ⟨FX.refl ci _, rfl⟩)
      | (rw [if_pos c11, if_pos c25, if_neg c40]; exact ⟨FX.refl ci _, rfl⟩)
      | (rw [if_pos c11, if_pos c25, if_pos c40, if_neg c55]; exact ⟨FX.refl ci _, rfl⟩)
  · skip
    refine g_aload_n rfl rfl ?_
    refine g_ldcT rfl (by decide) ?_
    refine g_iload_n rfl rfl ?_
    refine g_callSI [aO (some (w 9)), aI 6] [aO (some c)] rfl rfl rfl rfl (Nat.le_of_ble_eq_true rfl) (x_sortAt (by omega) (tx 9 (by omega)) (by omega) 6) ?_
    rintro _ hq3 ⟨ehq3, rfl⟩
    rw [ehq3]
    clear ehq3 hq3
    refine g_top (v2 := aI 112) (congrArg aI (show chAt 9 6 = 112 by decide +kernel)) ?_
    refine g_iload_n rfl rfl ?_
    refine g_callVI [aI 112, aI b] [] rfl rfl rfl rfl (Nat.le_of_ble_eq_true rfl) (G0.cs.kd 0 (by omega) rfl) (x_isA (by omega) ci xt ok xn okn 112 b) ?_
    rintro _ hq4 ⟨ehq4, rfl⟩
    rw [ehq4]
    clear ehq4 hq4
    refine g_b_eq rfl (fun c25 => ?_) (fun c25 => ?_)
    · skip
      refine g_iconst rfl ?_
      refine g_iret rfl ?_
      first
        | (rw [if_neg c11]; exact ⟨FX.refl ci _, rfl⟩)
        | (rw [if_pos c11, if_neg c25]; exact ⟨FX.refl ci _, rfl⟩)
        | (rw [if_pos c11, if_pos c25, if_neg c40]; exact ⟨FX.refl ci _, rfl⟩)
        | (rw [if_pos c11, if_pos c25, if_pos c40, if_neg c55]; exact ⟨FX.refl ci _, rfl⟩)
    · skip
      refine g_aload_n rfl rfl ?_
      refine g_ldcT rfl (by decide) ?_
      refine g_iload_n rfl rfl ?_
      refine g_callSI [aO (some (w 10)), aI 6] [aO (some c)] rfl rfl rfl rfl (Nat.le_of_ble_eq_true rfl) (x_sortAt (by omega) (tx 10 (by omega)) (by omega) 6) ?_
      rintro _ hq5 ⟨ehq5, rfl⟩
      rw [ehq5]
      clear ehq5 hq5
      refine g_top (v2 := aI 112) (congrArg aI (show chAt 10 6 = 112 by decide +kernel)) ?_
      refine g_iload rfl rfl ?_
      refine g_callVI [aI 112, aI e] [] rfl rfl rfl rfl (Nat.le_of_ble_eq_true rfl) (G0.cs.kd 0 (by omega) rfl) (x_isA (by omega) ci xt ok xn okn 112 e) ?_
      rintro _ hq6 ⟨ehq6, rfl⟩
      rw [ehq6]
      clear ehq6 hq6
      refine g_b_eq rfl (fun c40 => ?_) (fun c40 => ?_)
      · skip
        refine g_iconst rfl ?_
        refine g_iret rfl ?_
        first
          | (rw [if_neg c11]; exact ⟨FX.refl ci _, rfl⟩)
          | (rw [if_pos c11, if_neg c25]; exact ⟨FX.refl ci _, rfl⟩)
          | (rw [if_pos c11, if_pos c25, if_neg c40]; exact ⟨FX.refl ci _, rfl⟩)
          | (rw [if_pos c11, if_pos c25, if_pos c40, if_neg c55]; exact ⟨FX.refl ci _, rfl⟩)
      · skip
        refine g_aload_n rfl rfl ?_
        refine g_ldcT rfl (by decide) ?_
        refine g_iload_n rfl rfl ?_
        refine g_callSI [aO (some (w 11)), aI 6] [aO (some c)] rfl rfl rfl rfl (Nat.le_of_ble_eq_true rfl) (x_sortAt (by omega) (tx 11 (by omega)) (by omega) 6) ?_
        rintro _ hq7 ⟨ehq7, rfl⟩
        rw [ehq7]
        clear ehq7 hq7
        refine g_top (v2 := aI 112) (congrArg aI (show chAt 11 6 = 112 by decide +kernel)) ?_
        refine g_iload rfl rfl ?_
        refine g_callVI [aI 112, aI f] [] rfl rfl rfl rfl (Nat.le_of_ble_eq_true rfl) (G0.cs.kd 0 (by omega) rfl) (x_isA (by omega) ci xt ok xn okn 112 f) ?_
        rintro _ hq8 ⟨ehq8, rfl⟩
        rw [ehq8]
        clear ehq8 hq8
        refine g_b_ne rfl (fun c55 => ?_) (fun c55 => ?_)
        · skip
          refine g_aload_n rfl rfl ?_
          refine g_getR rfl (G0.cs.kd 0 (by omega) rfl) (G0.cs.rf 1 (by omega) rfl) ?_
          have u11 := c11
          unfold isAS at u11
          have u25 := c25
          unfold isAS at u25
          have u40 := c40
          unfold isAS at u40
          have u55 := c55
          unfold isAS at u55
          refine g_callVN [] [] rfl rfl rfl rfl (Nat.le_of_ble_eq_true rfl) (G0.cs.kd 1 (by omega) rfl) (x_reset (by omega) ci) ?_
          rintro _ rfl
          obtain ⟨h0, eh0⟩ : ∃ h0, h0 = hw h (vset (hV h) (c + 1) 1 0) := ⟨_, rfl⟩
          rw [← eh0]
          have ci0 := ci.reset
          have xt0 := xt.reset
          have xn0 := xn.reset
          rw [← eh0] at ci0 xt0 xn0
          have ht : hV h0 (c + 1) 1 ≤ 10 := by rw [eh0]; show vset _ _ _ _ _ _ ≤ _; rw [vset_eq]; omega
          clear ci xt xn
          have ci := ci0
          have xt := xt0
          have xn := xn0
          clear ci0 xt0 xn0
          have G0 := Gr.refl ci
          refine g_aload_n rfl rfl ?_
          refine g_getR rfl (G0.cs.kd 0 (by omega) rfl) (G0.cs.rf 15 (by omega) rfl) ?_
          refine g_iload_n rfl rfl ?_
          refine g_iload_n rfl rfl ?_
          refine g_iload_n rfl rfl ?_
          refine g_iload rfl rfl ?_
          refine g_iload rfl rfl ?_
          refine g_callVI [aI 6, aI a, aI b, aI e, aI f] [] rfl rfl rfl rfl (Nat.le_of_ble_eq_true rfl) (G0.cs.kd 10 (by omega) rfl) (o_so6 (by omega) G0.ci xt ok a (by omega) b (by omega) e (by omega) f (by omega)) ?_
          rintro _ h9 ⟨g9, rfl⟩
          have G9 := G0.trans g9
          refine g_b_eq rfl (fun c81 => ?_) (fun c81 => ?_)
          · skip
            refine g_iconst rfl ?_
            refine g_iret rfl ?_
            rw [if_pos c11, if_pos c25, if_pos c40, if_pos c55]
            refine ⟨G9.fx eh0 (by omega) (fun q => q), ?_⟩
            first
              | rw [if_pos c81]
              | rw [if_neg c81]
          · skip
            refine g_iconst rfl ?_
            refine g_goto rfl ?_
            refine g_iret rfl ?_
            rw [if_pos c11, if_pos c25, if_pos c40, if_pos c55]
            refine ⟨G9.fx eh0 (by omega) (fun q => q), ?_⟩
            first
              | rw [if_pos c81]
              | rw [if_neg c81]
        · skip
          refine g_iconst rfl ?_
          refine g_iret rfl ?_
          first
            | (rw [if_neg c11]; exact ⟨FX.refl ci _, rfl⟩)
            | (rw [if_pos c11, if_neg c25]; exact ⟨FX.refl ci _, rfl⟩)
            | (rw [if_pos c11, if_pos c25, if_neg c40]; exact ⟨FX.refl ci _, rfl⟩)
            | (rw [if_pos c11, if_pos c25, if_pos c40, if_neg c55]; exact ⟨FX.refl ci _, rfl⟩)
set_option maxHeartbeats 4000000 in
theorem x_holds7 {w : aW} {d : Nat} (hd : 10 ≤ d) {h : aH} {c : Nat} (ci : CI h c) {S : aS} (xt : XT h c S) (ok : OkT S) (xn : XN (hV h) c S) (okn : OkN S) (tx : ∀ i < 12, hT h (w i) = (8, i)) (a : Int) (b : Int) (e : Int) (f : Int) : WP w d 209 [aO (some c), aI 7, aI a, aI b, aI e, aI f] h (RI (fun r h1 => FX h h1 c (fun _ => False) ∧ r = if isAS S 112 a then (if isAS S 112 b then (if isAS S 112 e then (if isAS S 112 f then (if ¬((tpT S a).2.2 = 0 ∨ (tpT S b).2.2 = 0 ∨ (tpT S e).2.2 = 0 ∨ p_det_S (tpT S a) (tpT S b) (tpT S e) = 0) ∧ (¬((p_cross_S ((tpT S a)) ((tpT S b))).1 = 0 ∧ (p_cross_S ((tpT S a)) ((tpT S b))).2.1 = 0 ∧ (p_cross_S ((tpT S a)) ((tpT S b))).2.2 = 0) ∧ ¬((p_cross_S ((tpT S a)) ((tpT S e))).1 = 0 ∧ (p_cross_S ((tpT S a)) ((tpT S e))).2.1 = 0 ∧ (p_cross_S ((tpT S a)) ((tpT S e))).2.2 = 0) ∧ ¬((p_cross_S ((tpT S a)) ((tpT S f))).1 = 0 ∧ (p_cross_S ((tpT S a)) ((tpT S f))).2.1 = 0 ∧ (p_cross_S ((tpT S a)) ((tpT S f))).2.2 = 0) ∧ ¬((p_cross_S ((tpT S b)) ((tpT S e))).1 = 0 ∧ (p_cross_S ((tpT S b)) ((tpT S e))).2.1 = 0 ∧ (p_cross_S ((tpT S b)) ((tpT S e))).2.2 = 0) ∧ ¬((p_cross_S ((tpT S b)) ((tpT S f))).1 = 0 ∧ (p_cross_S ((tpT S b)) ((tpT S f))).2.1 = 0 ∧ (p_cross_S ((tpT S b)) ((tpT S f))).2.2 = 0) ∧ ¬((p_cross_S ((tpT S e)) ((tpT S f))).1 = 0 ∧ (p_cross_S ((tpT S e)) ((tpT S f))).2.1 = 0 ∧ (p_cross_S ((tpT S e)) ((tpT S f))).2.2 = 0)) ∧ ¬ (tpT S f).2.2 = 0 ∧ p_inEq_S (tpT S f) (p_thr_S (tpT S a) (tpT S b) (tpT S e)) = 0 then 1 else 0) else -1) else -1) else -1) else -1)) := by
  obtain ⟨d, rfl⟩ : ∃ d1, d = d1 + 1 := ⟨d - 1, by omega⟩
  refine WP.enter (cd := cd_X11_holds) rfl ?_
  have G0 := Gr.refl ci
  have hls : largs 0 [aO (some c), aI 7, aI a, aI b, aI e, aI f] = [(0, aO (some c)), (1, aI 7), (2, aI a), (3, aI b), (4, aI e), (5, aI f)] := rfl
  rw [hls]
  clear hls
  refine g_aload_n rfl rfl ?_
  refine g_ldcT rfl (by decide) ?_
  refine g_iload_n rfl rfl ?_
  refine g_callSI [aO (some (w 8)), aI 7] [aO (some c)] rfl rfl rfl rfl (Nat.le_of_ble_eq_true rfl) (x_sortAt (by omega) (tx 8 (by omega)) (by omega) 7) ?_
  rintro _ hq1 ⟨ehq1, rfl⟩
  rw [ehq1]
  clear ehq1 hq1
  refine g_top (v2 := aI 112) (congrArg aI (show chAt 8 7 = 112 by decide +kernel)) ?_
  refine g_iload_n rfl rfl ?_
  refine g_callVI [aI 112, aI a] [] rfl rfl rfl rfl (Nat.le_of_ble_eq_true rfl) (G0.cs.kd 0 (by omega) rfl) (x_isA (by omega) ci xt ok xn okn 112 a) ?_
  rintro _ hq2 ⟨ehq2, rfl⟩
  rw [ehq2]
  clear ehq2 hq2
  refine g_b_eq rfl (fun c11 => ?_) (fun c11 => ?_)
  · skip
    refine g_iconst rfl ?_
    refine g_iret rfl ?_
    first
      | (rw [if_neg c11]; exact ⟨FX.refl ci _, rfl⟩)
      | (rw [if_pos c11, if_neg c25]; exact ⟨FX.refl ci _, rfl⟩)
      | (rw [if_pos c11, if_pos c25, if_neg c40]; exact ⟨FX.refl ci _, rfl⟩)
      | (rw [if_pos c11, if_pos c25, if_pos c40, if_neg c55]; exact ⟨FX.refl ci _, rfl⟩)
  · skip
    refine g_aload_n rfl rfl ?_
    refine g_ldcT rfl (by decide) ?_
    refine g_iload_n rfl rfl ?_
    refine g_callSI [aO (some (w 9)), aI 7] [aO (some c)] rfl rfl rfl rfl (Nat.le_of_ble_eq_true rfl) (x_sortAt (by omega) (tx 9 (by omega)) (by omega) 7) ?_
    rintro _ hq3 ⟨ehq3, rfl⟩
    rw [ehq3]
    clear ehq3 hq3
    refine g_top (v2 := aI 112) (congrArg aI (show chAt 9 7 = 112 by decide +kernel)) ?_
    refine g_iload_n rfl rfl ?_
    refine g_callVI [aI 112, aI b] [] rfl rfl rfl rfl (Nat.le_of_ble_eq_true rfl) (G0.cs.kd 0 (by omega) rfl) (x_isA (by omega) ci xt ok xn okn 112 b) ?_
    rintro _ hq4 ⟨ehq4, rfl⟩
    rw [ehq4]
    clear ehq4 hq4
    refine g_b_eq rfl (fun c25 => ?_) (fun c25 => ?_)
    · skip
      refine g_iconst rfl ?_
      refine g_iret rfl ?_
      first
        | (rw [if_neg c11]; exact ⟨FX.refl ci _, rfl⟩)
        | (rw [if_pos c11, if_neg c25]; exact ⟨FX.refl ci _, rfl⟩)
        | (rw [if_pos c11, if_pos c25, if_neg c40]; exact ⟨FX.refl ci _, rfl⟩)
        | (rw [if_pos c11, if_pos c25, if_pos c40, if_neg c55]; exact ⟨FX.refl ci _, rfl⟩)
    · skip
      refine g_aload_n rfl rfl ?_
      refine g_ldcT rfl (by decide) ?_
      refine g_iload_n rfl rfl ?_
      refine g_callSI [aO (some (w 10)), aI 7] [aO (some c)] rfl rfl rfl rfl (Nat.le_of_ble_eq_true rfl) (x_sortAt (by omega) (tx 10 (by omega)) (by omega) 7) ?_
      rintro _ hq5 ⟨ehq5, rfl⟩
      rw [ehq5]
      clear ehq5 hq5
      refine g_top (v2 := aI 112) (congrArg aI (show chAt 10 7 = 112 by decide +kernel)) ?_
      refine g_iload rfl rfl ?_
      refine g_callVI [aI 112, aI e] [] rfl rfl rfl rfl (Nat.le_of_ble_eq_true rfl) (G0.cs.kd 0 (by omega) rfl) (x_isA (by omega) ci xt ok xn okn 112 e) ?_
      rintro _ hq6 ⟨ehq6, rfl⟩
      rw [ehq6]
      clear ehq6 hq6
      refine g_b_eq rfl (fun c40 => ?_) (fun c40 => ?_)
      · skip
        refine g_iconst rfl ?_
        refine g_iret rfl ?_
        first
          | (rw [if_neg c11]; exact ⟨FX.refl ci _, rfl⟩)
          | (rw [if_pos c11, if_neg c25]; exact ⟨FX.refl ci _, rfl⟩)
          | (rw [if_pos c11, if_pos c25, if_neg c40]; exact ⟨FX.refl ci _, rfl⟩)
          | (rw [if_pos c11, if_pos c25, if_pos c40, if_neg c55]; exact ⟨FX.refl ci _, rfl⟩)
      · skip
        refine g_aload_n rfl rfl ?_
        refine g_ldcT rfl (by decide) ?_
        refine g_iload_n rfl rfl ?_
        refine g_callSI [aO (some (w 11)), aI 7] [aO (some c)] rfl rfl rfl rfl (Nat.le_of_ble_eq_true rfl) (x_sortAt (by omega) (tx 11 (by omega)) (by omega) 7) ?_
        rintro _ hq7 ⟨ehq7, rfl⟩
        rw [ehq7]
        clear ehq7 hq7
        refine g_top (v2 := aI 112) (congrArg aI (show chAt 11 7 = 112 by decide +kernel)) ?_
        refine g_iload rfl rfl ?_
        refine g_callVI [aI 112, aI f] [] rfl rfl rfl rfl (Nat.le_of_ble_eq_true rfl) (G0.cs.kd 0 (by omega) rfl) (x_isA (by omega) ci xt ok xn okn 112 f) ?_
        rintro _ hq8 ⟨ehq8, rfl⟩
        rw [ehq8]
        clear ehq8 hq8
        refine g_b_ne rfl (fun c55 => ?_) (fun c55 => ?_)
        · skip
          refine g_aload_n rfl rfl ?_
          refine g_getR rfl (G0.cs.kd 0 (by omega) rfl) (G0.cs.rf 1 (by omega) rfl) ?_
          have u11 := c11
          unfold isAS at u11
          have u25 := c25
          unfold isAS at u25
          have u40 := c40
          unfold isAS at u40
          have u55 := c55
          unfold isAS at u55
          refine g_callVN [] [] rfl rfl rfl rfl (Nat.le_of_ble_eq_true rfl) (G0.cs.kd 1 (by omega) rfl) (x_reset (by omega) ci) ?_
          rintro _ rfl
          obtain ⟨h0, eh0⟩ : ∃ h0, h0 = hw h (vset (hV h) (c + 1) 1 0) := ⟨_, rfl⟩
          rw [← eh0]
          have ci0 := ci.reset
          have xt0 := xt.reset
          have xn0 := xn.reset
          rw [← eh0] at ci0 xt0 xn0
          have ht : hV h0 (c + 1) 1 ≤ 10 := by rw [eh0]; show vset _ _ _ _ _ _ ≤ _; rw [vset_eq]; omega
          clear ci xt xn
          have ci := ci0
          have xt := xt0
          have xn := xn0
          clear ci0 xt0 xn0
          have G0 := Gr.refl ci
          refine g_aload_n rfl rfl ?_
          refine g_getR rfl (G0.cs.kd 0 (by omega) rfl) (G0.cs.rf 15 (by omega) rfl) ?_
          refine g_iload_n rfl rfl ?_
          refine g_iload_n rfl rfl ?_
          refine g_iload_n rfl rfl ?_
          refine g_iload rfl rfl ?_
          refine g_iload rfl rfl ?_
          refine g_callVI [aI 7, aI a, aI b, aI e, aI f] [] rfl rfl rfl rfl (Nat.le_of_ble_eq_true rfl) (G0.cs.kd 10 (by omega) rfl) (o_so7 (by omega) G0.ci xt ok a (by omega) b (by omega) e (by omega) f (by omega)) ?_
          rintro _ h9 ⟨g9, rfl⟩
          have G9 := G0.trans g9
          refine g_b_eq rfl (fun c81 => ?_) (fun c81 => ?_)
          · skip
            refine g_iconst rfl ?_
            refine g_iret rfl ?_
            rw [if_pos c11, if_pos c25, if_pos c40, if_pos c55]
            refine ⟨G9.fx eh0 (by omega) (fun q => q), ?_⟩
            first
              | rw [if_pos c81]
              | rw [if_neg c81]
          · skip
            refine g_iconst rfl ?_
            refine g_goto rfl ?_
            refine g_iret rfl ?_
            rw [if_pos c11, if_pos c25, if_pos c40, if_pos c55]
            refine ⟨G9.fx eh0 (by omega) (fun q => q), ?_⟩
            first
              | rw [if_pos c81]
              | rw [if_neg c81]
        · skip
          refine g_iconst rfl ?_
          refine g_iret rfl ?_
          first
            | (rw [if_neg c11]; exact ⟨FX.refl ci _, rfl⟩)
            | (rw [if_pos c11, if_neg c25]; exact ⟨FX.refl ci _, rfl⟩)
            | (rw [if_pos c11, if_pos c25, if_neg c40]; exact ⟨FX.refl ci _, rfl⟩)
            | (rw [if_pos c11, if_pos c25, if_pos c40, if_neg c55]; exact ⟨FX.refl ci _, rfl⟩)
set_option maxHeartbeats 4000000 in
theorem x_holds8 {w : aW} {d : Nat} (hd : 10 ≤ d) {h : aH} {c : Nat} (ci : CI h c) {S : aS} (xt : XT h c S) (ok : OkT S) (xn : XN (hV h) c S) (okn : OkN S) (tx : ∀ i < 12, hT h (w i) = (8, i)) (a : Int) (b : Int) (e : Int) (f : Int) : WP w d 209 [aO (some c), aI 8, aI a, aI b, aI e, aI f] h (RI (fun r h1 => FX h h1 c (fun _ => False) ∧ r = if isAS S 108 a then (if isAS S 99 b then (if isAS S 45 e then (if isAS S 45 f then (if ¬((tpT S a).1 = 0 ∧ (tpT S a).2.1 = 0) ∧ p_depth_S (tpT S a) (tpR S b) = 0 then 1 else 0) else -1) else -1) else -1) else -1)) := by
  obtain ⟨d, rfl⟩ : ∃ d1, d = d1 + 1 := ⟨d - 1, by omega⟩
  refine WP.enter (cd := cd_X11_holds) rfl ?_
  have G0 := Gr.refl ci
  have hls : largs 0 [aO (some c), aI 8, aI a, aI b, aI e, aI f] = [(0, aO (some c)), (1, aI 8), (2, aI a), (3, aI b), (4, aI e), (5, aI f)] := rfl
  rw [hls]
  clear hls
  refine g_aload_n rfl rfl ?_
  refine g_ldcT rfl (by decide) ?_
  refine g_iload_n rfl rfl ?_
  refine g_callSI [aO (some (w 8)), aI 8] [aO (some c)] rfl rfl rfl rfl (Nat.le_of_ble_eq_true rfl) (x_sortAt (by omega) (tx 8 (by omega)) (by omega) 8) ?_
  rintro _ hq1 ⟨ehq1, rfl⟩
  rw [ehq1]
  clear ehq1 hq1
  refine g_top (v2 := aI 108) (congrArg aI (show chAt 8 8 = 108 by decide +kernel)) ?_
  refine g_iload_n rfl rfl ?_
  refine g_callVI [aI 108, aI a] [] rfl rfl rfl rfl (Nat.le_of_ble_eq_true rfl) (G0.cs.kd 0 (by omega) rfl) (x_isA (by omega) ci xt ok xn okn 108 a) ?_
  rintro _ hq2 ⟨ehq2, rfl⟩
  rw [ehq2]
  clear ehq2 hq2
  refine g_b_eq rfl (fun c11 => ?_) (fun c11 => ?_)
  · skip
    refine g_iconst rfl ?_
    refine g_iret rfl ?_
    first
      | (rw [if_neg c11]; exact ⟨FX.refl ci _, rfl⟩)
      | (rw [if_pos c11, if_neg c25]; exact ⟨FX.refl ci _, rfl⟩)
      | (rw [if_pos c11, if_pos c25, if_neg c40]; exact ⟨FX.refl ci _, rfl⟩)
      | (rw [if_pos c11, if_pos c25, if_pos c40, if_neg c55]; exact ⟨FX.refl ci _, rfl⟩)
  · skip
    refine g_aload_n rfl rfl ?_
    refine g_ldcT rfl (by decide) ?_
    refine g_iload_n rfl rfl ?_
    refine g_callSI [aO (some (w 9)), aI 8] [aO (some c)] rfl rfl rfl rfl (Nat.le_of_ble_eq_true rfl) (x_sortAt (by omega) (tx 9 (by omega)) (by omega) 8) ?_
    rintro _ hq3 ⟨ehq3, rfl⟩
    rw [ehq3]
    clear ehq3 hq3
    refine g_top (v2 := aI 99) (congrArg aI (show chAt 9 8 = 99 by decide +kernel)) ?_
    refine g_iload_n rfl rfl ?_
    refine g_callVI [aI 99, aI b] [] rfl rfl rfl rfl (Nat.le_of_ble_eq_true rfl) (G0.cs.kd 0 (by omega) rfl) (x_isA (by omega) ci xt ok xn okn 99 b) ?_
    rintro _ hq4 ⟨ehq4, rfl⟩
    rw [ehq4]
    clear ehq4 hq4
    refine g_b_eq rfl (fun c25 => ?_) (fun c25 => ?_)
    · skip
      refine g_iconst rfl ?_
      refine g_iret rfl ?_
      first
        | (rw [if_neg c11]; exact ⟨FX.refl ci _, rfl⟩)
        | (rw [if_pos c11, if_neg c25]; exact ⟨FX.refl ci _, rfl⟩)
        | (rw [if_pos c11, if_pos c25, if_neg c40]; exact ⟨FX.refl ci _, rfl⟩)
        | (rw [if_pos c11, if_pos c25, if_pos c40, if_neg c55]; exact ⟨FX.refl ci _, rfl⟩)
    · skip
      refine g_aload_n rfl rfl ?_
      refine g_ldcT rfl (by decide) ?_
      refine g_iload_n rfl rfl ?_
      refine g_callSI [aO (some (w 10)), aI 8] [aO (some c)] rfl rfl rfl rfl (Nat.le_of_ble_eq_true rfl) (x_sortAt (by omega) (tx 10 (by omega)) (by omega) 8) ?_
      rintro _ hq5 ⟨ehq5, rfl⟩
      rw [ehq5]
      clear ehq5 hq5
      refine g_top (v2 := aI 45) (congrArg aI (show chAt 10 8 = 45 by decide +kernel)) ?_
      refine g_iload rfl rfl ?_
      refine g_callVI [aI 45, aI e] [] rfl rfl rfl rfl (Nat.le_of_ble_eq_true rfl) (G0.cs.kd 0 (by omega) rfl) (x_isA (by omega) ci xt ok xn okn 45 e) ?_
      rintro _ hq6 ⟨ehq6, rfl⟩
      rw [ehq6]
      clear ehq6 hq6
      refine g_b_eq rfl (fun c40 => ?_) (fun c40 => ?_)
      · skip
        refine g_iconst rfl ?_
        refine g_iret rfl ?_
        first
          | (rw [if_neg c11]; exact ⟨FX.refl ci _, rfl⟩)
          | (rw [if_pos c11, if_neg c25]; exact ⟨FX.refl ci _, rfl⟩)
          | (rw [if_pos c11, if_pos c25, if_neg c40]; exact ⟨FX.refl ci _, rfl⟩)
          | (rw [if_pos c11, if_pos c25, if_pos c40, if_neg c55]; exact ⟨FX.refl ci _, rfl⟩)
      · skip
        refine g_aload_n rfl rfl ?_
        refine g_ldcT rfl (by decide) ?_
        refine g_iload_n rfl rfl ?_
        refine g_callSI [aO (some (w 11)), aI 8] [aO (some c)] rfl rfl rfl rfl (Nat.le_of_ble_eq_true rfl) (x_sortAt (by omega) (tx 11 (by omega)) (by omega) 8) ?_
        rintro _ hq7 ⟨ehq7, rfl⟩
        rw [ehq7]
        clear ehq7 hq7
        refine g_top (v2 := aI 45) (congrArg aI (show chAt 11 8 = 45 by decide +kernel)) ?_
        refine g_iload rfl rfl ?_
        refine g_callVI [aI 45, aI f] [] rfl rfl rfl rfl (Nat.le_of_ble_eq_true rfl) (G0.cs.kd 0 (by omega) rfl) (x_isA (by omega) ci xt ok xn okn 45 f) ?_
        rintro _ hq8 ⟨ehq8, rfl⟩
        rw [ehq8]
        clear ehq8 hq8
        refine g_b_ne rfl (fun c55 => ?_) (fun c55 => ?_)
        · skip
          refine g_aload_n rfl rfl ?_
          refine g_getR rfl (G0.cs.kd 0 (by omega) rfl) (G0.cs.rf 1 (by omega) rfl) ?_
          have u11 := c11
          unfold isAS at u11
          have u25 := c25
          unfold isAS at u25
          have u40 := c40
          unfold isAS at u40
          have u55 := c55
          unfold isAS at u55
          refine g_callVN [] [] rfl rfl rfl rfl (Nat.le_of_ble_eq_true rfl) (G0.cs.kd 1 (by omega) rfl) (x_reset (by omega) ci) ?_
          rintro _ rfl
          obtain ⟨h0, eh0⟩ : ∃ h0, h0 = hw h (vset (hV h) (c + 1) 1 0) := ⟨_, rfl⟩
          rw [← eh0]
          have ci0 := ci.reset
          have xt0 := xt.reset
          have xn0 := xn.reset
          rw [← eh0] at ci0 xt0 xn0
          have ht : hV h0 (c + 1) 1 ≤ 10 := by rw [eh0]; show vset _ _ _ _ _ _ ≤ _; rw [vset_eq]; omega
          clear ci xt xn
          have ci := ci0
          have xt := xt0
          have xn := xn0
          clear ci0 xt0 xn0
          have G0 := Gr.refl ci
          refine g_aload_n rfl rfl ?_
          refine g_getR rfl (G0.cs.kd 0 (by omega) rfl) (G0.cs.rf 15 (by omega) rfl) ?_
          refine g_iload_n rfl rfl ?_
          refine g_iload_n rfl rfl ?_
          refine g_iload_n rfl rfl ?_
          refine g_iload rfl rfl ?_
          refine g_iload rfl rfl ?_
          refine g_callVI [aI 8, aI a, aI b, aI e, aI f] [] rfl rfl rfl rfl (Nat.le_of_ble_eq_true rfl) (G0.cs.kd 10 (by omega) rfl) (o_so8 (by omega) G0.ci xt ok a (by omega) b (by omega) e f) ?_
          rintro _ h9 ⟨g9, rfl⟩
          have G9 := G0.trans g9
          refine g_b_eq rfl (fun c81 => ?_) (fun c81 => ?_)
          · skip
            refine g_iconst rfl ?_
            refine g_iret rfl ?_
            rw [if_pos c11, if_pos c25, if_pos c40, if_pos c55]
            refine ⟨G9.fx eh0 (by omega) (fun q => q), ?_⟩
            first
              | rw [if_pos c81]
              | rw [if_neg c81]
          · skip
            refine g_iconst rfl ?_
            refine g_goto rfl ?_
            refine g_iret rfl ?_
            rw [if_pos c11, if_pos c25, if_pos c40, if_pos c55]
            refine ⟨G9.fx eh0 (by omega) (fun q => q), ?_⟩
            first
              | rw [if_pos c81]
              | rw [if_neg c81]
        · skip
          refine g_iconst rfl ?_
          refine g_iret rfl ?_
          first
            | (rw [if_neg c11]; exact ⟨FX.refl ci _, rfl⟩)
            | (rw [if_pos c11, if_neg c25]; exact ⟨FX.refl ci _, rfl⟩)
            | (rw [if_pos c11, if_pos c25, if_neg c40]; exact ⟨FX.refl ci _, rfl⟩)
            | (rw [if_pos c11, if_pos c25, if_pos c40, if_neg c55]; exact ⟨FX.refl ci _, rfl⟩)
set_option maxHeartbeats 4000000 in
theorem x_holds9 {w : aW} {d : Nat} (hd : 10 ≤ d) {h : aH} {c : Nat} (ci : CI h c) {S : aS} (xt : XT h c S) (ok : OkT S) (xn : XN (hV h) c S) (okn : OkN S) (tx : ∀ i < 12, hT h (w i) = (8, i)) (a : Int) (b : Int) (e : Int) (f : Int) : WP w d 209 [aO (some c), aI 9, aI a, aI b, aI e, aI f] h (RI (fun r h1 => FX h h1 c (fun _ => False) ∧ r = if isAS S 99 a then (if isAS S 99 b then (if isAS S 45 e then (if isAS S 45 f then (if ¬((tpR S b).1 * (tpR S a).2.1 - (tpR S a).1 * (tpR S b).2.1 = 0 ∧ (tpR S b).1 * (tpR S a).2.2.1 - (tpR S a).1 * (tpR S b).2.2.1 = 0) ∧ p_depth_S (p_power_S (tpR S a) (tpR S b)) (tpR S a) = 0 then 1 else 0) else -1) else -1) else -1) else -1)) := by
  obtain ⟨d, rfl⟩ : ∃ d1, d = d1 + 1 := ⟨d - 1, by omega⟩
  refine WP.enter (cd := cd_X11_holds) rfl ?_
  have G0 := Gr.refl ci
  have hls : largs 0 [aO (some c), aI 9, aI a, aI b, aI e, aI f] = [(0, aO (some c)), (1, aI 9), (2, aI a), (3, aI b), (4, aI e), (5, aI f)] := rfl
  rw [hls]
  clear hls
  refine g_aload_n rfl rfl ?_
  refine g_ldcT rfl (by decide) ?_
  refine g_iload_n rfl rfl ?_
  refine g_callSI [aO (some (w 8)), aI 9] [aO (some c)] rfl rfl rfl rfl (Nat.le_of_ble_eq_true rfl) (x_sortAt (by omega) (tx 8 (by omega)) (by omega) 9) ?_
  rintro _ hq1 ⟨ehq1, rfl⟩
  rw [ehq1]
  clear ehq1 hq1
  refine g_top (v2 := aI 99) (congrArg aI (show chAt 8 9 = 99 by decide +kernel)) ?_
  refine g_iload_n rfl rfl ?_
  refine g_callVI [aI 99, aI a] [] rfl rfl rfl rfl (Nat.le_of_ble_eq_true rfl) (G0.cs.kd 0 (by omega) rfl) (x_isA (by omega) ci xt ok xn okn 99 a) ?_
  rintro _ hq2 ⟨ehq2, rfl⟩
  rw [ehq2]
  clear ehq2 hq2
  refine g_b_eq rfl (fun c11 => ?_) (fun c11 => ?_)
  · skip
    refine g_iconst rfl ?_
    refine g_iret rfl ?_
    first
      | (rw [if_neg c11]; exact ⟨FX.refl ci _, rfl⟩)
      | (rw [if_pos c11, if_neg c25]; exact ⟨FX.refl ci _, rfl⟩)
      | (rw [if_pos c11, if_pos c25, if_neg c40]; exact ⟨FX.refl ci _, rfl⟩)
      | (rw [if_pos c11, if_pos c25, if_pos c40, if_neg c55]; exact ⟨FX.refl ci _, rfl⟩)
  · skip
    refine g_aload_n rfl rfl ?_
    refine g_ldcT rfl (by decide) ?_
    refine g_iload_n rfl rfl ?_
    refine g_callSI [aO (some (w 9)), aI 9] [aO (some c)] rfl rfl rfl rfl (Nat.le_of_ble_eq_true rfl) (x_sortAt (by omega) (tx 9 (by omega)) (by omega) 9) ?_
    rintro _ hq3 ⟨ehq3, rfl⟩
    rw [ehq3]
    clear ehq3 hq3
    refine g_top (v2 := aI 99) (congrArg aI (show chAt 9 9 = 99 by decide +kernel)) ?_
    refine g_iload_n rfl rfl ?_
    refine g_callVI [aI 99, aI b] [] rfl rfl rfl rfl (Nat.le_of_ble_eq_true rfl) (G0.cs.kd 0 (by omega) rfl) (x_isA (by omega) ci xt ok xn okn 99 b) ?_
    rintro _ hq4 ⟨ehq4, rfl⟩
    rw [ehq4]
    clear ehq4 hq4
    refine g_b_eq rfl (fun c25 => ?_) (fun c25 => ?_)
    · skip
      refine g_iconst rfl ?_
      refine g_iret rfl ?_
      first
        | (rw [if_neg c11]; exact ⟨FX.refl ci _, rfl⟩)
        | (rw [if_pos c11, if_neg c25]; exact ⟨FX.refl ci _, rfl⟩)
        | (rw [if_pos c11, if_pos c25, if_neg c40]; exact ⟨FX.refl ci _, rfl⟩)
        | (rw [if_pos c11, if_pos c25, if_pos c40, if_neg c55]; exact ⟨FX.refl ci _, rfl⟩)
    · skip
      refine g_aload_n rfl rfl ?_
      refine g_ldcT rfl (by decide) ?_
      refine g_iload_n rfl rfl ?_
      refine g_callSI [aO (some (w 10)), aI 9] [aO (some c)] rfl rfl rfl rfl (Nat.le_of_ble_eq_true rfl) (x_sortAt (by omega) (tx 10 (by omega)) (by omega) 9) ?_
      rintro _ hq5 ⟨ehq5, rfl⟩
      rw [ehq5]
      clear ehq5 hq5
      refine g_top (v2 := aI 45) (congrArg aI (show chAt 10 9 = 45 by decide +kernel)) ?_
      refine g_iload rfl rfl ?_
      refine g_callVI [aI 45, aI e] [] rfl rfl rfl rfl (Nat.le_of_ble_eq_true rfl) (G0.cs.kd 0 (by omega) rfl) (x_isA (by omega) ci xt ok xn okn 45 e) ?_
      rintro _ hq6 ⟨ehq6, rfl⟩
      rw [ehq6]
      clear ehq6 hq6
      refine g_b_eq rfl (fun c40 => ?_) (fun c40 => ?_)
      · skip
        refine g_iconst rfl ?_
        refine g_iret rfl ?_
        first
          | (rw [if_neg c11]; exact ⟨FX.refl ci _, rfl⟩)
          | (rw [if_pos c11, if_neg c25]; exact ⟨FX.refl ci _, rfl⟩)
          | (rw [if_pos c11, if_pos c25, if_neg c40]; exact ⟨FX.refl ci _, rfl⟩)
          | (rw [if_pos c11, if_pos c25, if_pos c40, if_neg c55]; exact ⟨FX.refl ci _, rfl⟩)
      · skip
        refine g_aload_n rfl rfl ?_
        refine g_ldcT rfl (by decide) ?_
        refine g_iload_n rfl rfl ?_
        refine g_callSI [aO (some (w 11)), aI 9] [aO (some c)] rfl rfl rfl rfl (Nat.le_of_ble_eq_true rfl) (x_sortAt (by omega) (tx 11 (by omega)) (by omega) 9) ?_
        rintro _ hq7 ⟨ehq7, rfl⟩
        rw [ehq7]
        clear ehq7 hq7
        refine g_top (v2 := aI 45) (congrArg aI (show chAt 11 9 = 45 by decide +kernel)) ?_
        refine g_iload rfl rfl ?_
        refine g_callVI [aI 45, aI f] [] rfl rfl rfl rfl (Nat.le_of_ble_eq_true rfl) (G0.cs.kd 0 (by omega) rfl) (x_isA (by omega) ci xt ok xn okn 45 f) ?_
        rintro _ hq8 ⟨ehq8, rfl⟩
        rw [ehq8]
        clear ehq8 hq8
        refine g_b_ne rfl (fun c55 => ?_) (fun c55 => ?_)
        · skip
          refine g_aload_n rfl rfl ?_
          refine g_getR rfl (G0.cs.kd 0 (by omega) rfl) (G0.cs.rf 1 (by omega) rfl) ?_
          have u11 := c11
          unfold isAS at u11
          have u25 := c25
          unfold isAS at u25
          have u40 := c40
          unfold isAS at u40
          have u55 := c55
          unfold isAS at u55
          refine g_callVN [] [] rfl rfl rfl rfl (Nat.le_of_ble_eq_true rfl) (G0.cs.kd 1 (by omega) rfl) (x_reset (by omega) ci) ?_
          rintro _ rfl
          obtain ⟨h0, eh0⟩ : ∃ h0, h0 = hw h (vset (hV h) (c + 1) 1 0) := ⟨_, rfl⟩
          rw [← eh0]
          have ci0 := ci.reset
          have xt0 := xt.reset
          have xn0 := xn.reset
          rw [← eh0] at ci0 xt0 xn0
          have ht : hV h0 (c + 1) 1 ≤ 10 := by rw [eh0]; show vset _ _ _ _ _ _ ≤ _; rw [vset_eq]; omega
          clear ci xt xn
          have ci := ci0
          have xt := xt0
          have xn := xn0
          clear ci0 xt0 xn0
          have G0 := Gr.refl ci
          refine g_aload_n rfl rfl ?_
          refine g_getR rfl (G0.cs.kd 0 (by omega) rfl) (G0.cs.rf 15 (by omega) rfl) ?_
          refine g_iload_n rfl rfl ?_
          refine g_iload_n rfl rfl ?_
          refine g_iload_n rfl rfl ?_
          refine g_iload rfl rfl ?_
          refine g_iload rfl rfl ?_
          refine g_callVI [aI 9, aI a, aI b, aI e, aI f] [] rfl rfl rfl rfl (Nat.le_of_ble_eq_true rfl) (G0.cs.kd 10 (by omega) rfl) (o_so9 (by omega) G0.ci xt ok a (by omega) b (by omega) e f) ?_
          rintro _ h9 ⟨g9, rfl⟩
          have G9 := G0.trans g9
          refine g_b_eq rfl (fun c81 => ?_) (fun c81 => ?_)
          · skip
            refine g_iconst rfl ?_
            refine g_iret rfl ?_
            rw [if_pos c11, if_pos c25, if_pos c40, if_pos c55]
            refine ⟨G9.fx eh0 (by omega) (fun q => q), ?_⟩
            first
              | rw [if_pos c81]
              | rw [if_neg c81]
          · skip
            refine g_iconst rfl ?_
            refine g_goto rfl ?_
            refine g_iret rfl ?_
            rw [if_pos c11, if_pos c25, if_pos c40, if_pos c55]
            refine ⟨G9.fx eh0 (by omega) (fun q => q), ?_⟩
            first
              | rw [if_pos c81]
              | rw [if_neg c81]
        · skip
          refine g_iconst rfl ?_
          refine g_iret rfl ?_
          first
            | (rw [if_neg c11]; exact ⟨FX.refl ci _, rfl⟩)
            | (rw [if_pos c11, if_neg c25]; exact ⟨FX.refl ci _, rfl⟩)
            | (rw [if_pos c11, if_pos c25, if_neg c40]; exact ⟨FX.refl ci _, rfl⟩)
            | (rw [if_pos c11, if_pos c25, if_pos c40, if_neg c55]; exact ⟨FX.refl ci _, rfl⟩)
set_option maxHeartbeats 4000000 in
theorem x_holds10 {w : aW} {d : Nat} (hd : 10 ≤ d) {h : aH} {c : Nat} (ci : CI h c) {S : aS} (xt : XT h c S) (ok : OkT S) (xn : XN (hV h) c S) (okn : OkN S) (tx : ∀ i < 12, hT h (w i) = (8, i)) (a : Int) (b : Int) (e : Int) (f : Int) : WP w d 209 [aO (some c), aI 10, aI a, aI b, aI e, aI f] h (RI (fun r h1 => FX h h1 c (fun _ => False) ∧ r = if isAS S 99 a then (if isAS S 99 b then (if isAS S 45 e then (if isAS S 45 f then (if (tpR S a).2.1 * (tpR S b).2.1 + (tpR S a).2.2.1 * (tpR S b).2.2.1 = 2 * ((tpR S a).2.2.2 * (tpR S b).1 + (tpR S b).2.2.2 * (tpR S a).1) then 1 else 0) else -1) else -1) else -1) else -1)) := by
  obtain ⟨d, rfl⟩ : ∃ d1, d = d1 + 1 := ⟨d - 1, by omega⟩
  refine WP.enter (cd := cd_X11_holds) rfl ?_
  have G0 := Gr.refl ci
  have hls : largs 0 [aO (some c), aI 10, aI a, aI b, aI e, aI f] = [(0, aO (some c)), (1, aI 10), (2, aI a), (3, aI b), (4, aI e), (5, aI f)] := rfl
  rw [hls]
  clear hls
  refine g_aload_n rfl rfl ?_
  refine g_ldcT rfl (by decide) ?_
  refine g_iload_n rfl rfl ?_
  refine g_callSI [aO (some (w 8)), aI 10] [aO (some c)] rfl rfl rfl rfl (Nat.le_of_ble_eq_true rfl) (x_sortAt (by omega) (tx 8 (by omega)) (by omega) 10) ?_
  rintro _ hq1 ⟨ehq1, rfl⟩
  rw [ehq1]
  clear ehq1 hq1
  refine g_top (v2 := aI 99) (congrArg aI (show chAt 8 10 = 99 by decide +kernel)) ?_
  refine g_iload_n rfl rfl ?_
  refine g_callVI [aI 99, aI a] [] rfl rfl rfl rfl (Nat.le_of_ble_eq_true rfl) (G0.cs.kd 0 (by omega) rfl) (x_isA (by omega) ci xt ok xn okn 99 a) ?_
  rintro _ hq2 ⟨ehq2, rfl⟩
  rw [ehq2]
  clear ehq2 hq2
  refine g_b_eq rfl (fun c11 => ?_) (fun c11 => ?_)
  · skip
    refine g_iconst rfl ?_
    refine g_iret rfl ?_
    first
      | (rw [if_neg c11]; exact ⟨FX.refl ci _, rfl⟩)
      | (rw [if_pos c11, if_neg c25]; exact ⟨FX.refl ci _, rfl⟩)
      | (rw [if_pos c11, if_pos c25, if_neg c40]; exact ⟨FX.refl ci _, rfl⟩)
      | (rw [if_pos c11, if_pos c25, if_pos c40, if_neg c55]; exact ⟨FX.refl ci _, rfl⟩)
  · skip
    refine g_aload_n rfl rfl ?_
    refine g_ldcT rfl (by decide) ?_
    refine g_iload_n rfl rfl ?_
    refine g_callSI [aO (some (w 9)), aI 10] [aO (some c)] rfl rfl rfl rfl (Nat.le_of_ble_eq_true rfl) (x_sortAt (by omega) (tx 9 (by omega)) (by omega) 10) ?_
    rintro _ hq3 ⟨ehq3, rfl⟩
    rw [ehq3]
    clear ehq3 hq3
    refine g_top (v2 := aI 99) (congrArg aI (show chAt 9 10 = 99 by decide +kernel)) ?_
    refine g_iload_n rfl rfl ?_
    refine g_callVI [aI 99, aI b] [] rfl rfl rfl rfl (Nat.le_of_ble_eq_true rfl) (G0.cs.kd 0 (by omega) rfl) (x_isA (by omega) ci xt ok xn okn 99 b) ?_
    rintro _ hq4 ⟨ehq4, rfl⟩
    rw [ehq4]
    clear ehq4 hq4
    refine g_b_eq rfl (fun c25 => ?_) (fun c25 => ?_)
    · skip
      refine g_iconst rfl ?_
      refine g_iret rfl ?_
      first
        | (rw [if_neg c11]; exact ⟨FX.refl ci _, rfl⟩)
        | (rw [if_pos c11, if_neg c25]; exact ⟨FX.refl ci _, rfl⟩)
        | (rw [if_pos c11, if_pos c25, if_neg c40]; exact ⟨FX.refl ci _, rfl⟩)
        | (rw [if_pos c11, if_pos c25, if_pos c40, if_neg c55]; exact ⟨FX.refl ci _, rfl⟩)
    · skip
      refine g_aload_n rfl rfl ?_
      refine g_ldcT rfl (by decide) ?_
      refine g_iload_n rfl rfl ?_
      refine g_callSI [aO (some (w 10)), aI 10] [aO (some c)] rfl rfl rfl rfl (Nat.le_of_ble_eq_true rfl) (x_sortAt (by omega) (tx 10 (by omega)) (by omega) 10) ?_
      rintro _ hq5 ⟨ehq5, rfl⟩
      rw [ehq5]
      clear ehq5 hq5
      refine g_top (v2 := aI 45) (congrArg aI (show chAt 10 10 = 45 by decide +kernel)) ?_
      refine g_iload rfl rfl ?_
      refine g_callVI [aI 45, aI e] [] rfl rfl rfl rfl (Nat.le_of_ble_eq_true rfl) (G0.cs.kd 0 (by omega) rfl) (x_isA (by omega) ci xt ok xn okn 45 e) ?_
      rintro _ hq6 ⟨ehq6, rfl⟩
      rw [ehq6]
      clear ehq6 hq6
      refine g_b_eq rfl (fun c40 => ?_) (fun c40 => ?_)
      · skip
        refine g_iconst rfl ?_
        refine g_iret rfl ?_
        first
          | (rw [if_neg c11]; exact ⟨FX.refl ci _, rfl⟩)
          | (rw [if_pos c11, if_neg c25]; exact ⟨FX.refl ci _, rfl⟩)
          | (rw [if_pos c11, if_pos c25, if_neg c40]; exact ⟨FX.refl ci _, rfl⟩)
          | (rw [if_pos c11, if_pos c25, if_pos c40, if_neg c55]; exact ⟨FX.refl ci _, rfl⟩)
      · skip
        refine g_aload_n rfl rfl ?_
        refine g_ldcT rfl (by decide) ?_
        refine g_iload_n rfl rfl ?_
        refine g_callSI [aO (some (w 11)), aI 10] [aO (some c)] rfl rfl rfl rfl (Nat.le_of_ble_eq_true rfl) (x_sortAt (by omega) (tx 11 (by omega)) (by omega) 10) ?_
        rintro _ hq7 ⟨ehq7, rfl⟩
        rw [ehq7]
        clear ehq7 hq7
        refine g_top (v2 := aI 45) (congrArg aI (show chAt 11 10 = 45 by decide +kernel)) ?_
        refine g_iload rfl rfl ?_
        refine g_callVI [aI 45, aI f] [] rfl rfl rfl rfl (Nat.le_of_ble_eq_true rfl) (G0.cs.kd 0 (by omega) rfl) (x_isA (by omega) ci xt ok xn okn 45 f) ?_
        rintro _ hq8 ⟨ehq8, rfl⟩
        rw [ehq8]
        clear ehq8 hq8
        refine g_b_ne rfl (fun c55 => ?_) (fun c55 => ?_)
        · skip
          refine g_aload_n rfl rfl ?_
          refine g_getR rfl (G0.cs.kd 0 (by omega) rfl) (G0.cs.rf 1 (by omega) rfl) ?_
          have u11 := c11
          unfold isAS at u11
          have u25 := c25
          unfold isAS at u25
          have u40 := c40
          unfold isAS at u40
          have u55 := c55
          unfold isAS at u55
          refine g_callVN [] [] rfl rfl rfl rfl (Nat.le_of_ble_eq_true rfl) (G0.cs.kd 1 (by omega) rfl) (x_reset (by omega) ci) ?_
          rintro _ rfl
          obtain ⟨h0, eh0⟩ : ∃ h0, h0 = hw h (vset (hV h) (c + 1) 1 0) := ⟨_, rfl⟩
          rw [← eh0]
          have ci0 := ci.reset
          have xt0 := xt.reset
          have xn0 := xn.reset
          rw [← eh0] at ci0 xt0 xn0
          have ht : hV h0 (c + 1) 1 ≤ 10 := by rw [eh0]; show vset _ _ _ _ _ _ ≤ _; rw [vset_eq]; omega
          clear ci xt xn
          have ci := ci0
          have xt := xt0
          have xn := xn0
          clear ci0 xt0 xn0
          have G0 := Gr.refl ci
          refine g_aload_n rfl rfl ?_
          refine g_getR rfl (G0.cs.kd 0 (by omega) rfl) (G0.cs.rf 15 (by omega) rfl) ?_
          refine g_iload_n rfl rfl ?_
          refine g_iload_n rfl rfl ?_
          refine g_iload_n rfl rfl ?_
          refine g_iload rfl rfl ?_
          refine g_iload rfl rfl ?_
          refine g_callVI [aI 10, aI a, aI b, aI e, aI f] [] rfl rfl rfl rfl (Nat.le_of_ble_eq_true rfl) (G0.cs.kd 10 (by omega) rfl) (o_so10 (by omega) G0.ci xt ok a (by omega) b (by omega) e f) ?_
          rintro _ h9 ⟨g9, rfl⟩
          have G9 := G0.trans g9
          refine g_b_eq rfl (fun c81 => ?_) (fun c81 => ?_)
          · skip
            refine g_iconst rfl ?_
            refine g_iret rfl ?_
            rw [if_pos c11, if_pos c25, if_pos c40, if_pos c55]
            refine ⟨G9.fx eh0 (by omega) (fun q => q), ?_⟩
            first
              | rw [if_pos c81]
              | rw [if_neg c81]
          · skip
            refine g_iconst rfl ?_
            refine g_goto rfl ?_
            refine g_iret rfl ?_
            rw [if_pos c11, if_pos c25, if_pos c40, if_pos c55]
            refine ⟨G9.fx eh0 (by omega) (fun q => q), ?_⟩
            first
              | rw [if_pos c81]
              | rw [if_neg c81]
        · skip
          refine g_iconst rfl ?_
          refine g_iret rfl ?_
          first
            | (rw [if_neg c11]; exact ⟨FX.refl ci _, rfl⟩)
            | (rw [if_pos c11, if_neg c25]; exact ⟨FX.refl ci _, rfl⟩)
            | (rw [if_pos c11, if_pos c25, if_neg c40]; exact ⟨FX.refl ci _, rfl⟩)
            | (rw [if_pos c11, if_pos c25, if_pos c40, if_neg c55]; exact ⟨FX.refl ci _, rfl⟩)
set_option maxHeartbeats 4000000 in
theorem x_holds11 {w : aW} {d : Nat} (hd : 10 ≤ d) {h : aH} {c : Nat} (ci : CI h c) {S : aS} (xt : XT h c S) (ok : OkT S) (xn : XN (hV h) c S) (okn : OkN S) (tx : ∀ i < 12, hT h (w i) = (8, i)) (a : Int) (b : Int) (e : Int) (f : Int) : WP w d 209 [aO (some c), aI 11, aI a, aI b, aI e, aI f] h (RI (fun r h1 => FX h h1 c (fun _ => False) ∧ r = if isAS S 112 a then (if isAS S 112 b then (if isAS S 112 e then (if isAS S 45 f then (if ¬((tpT S a).2.2 = 0 ∨ (tpT S b).2.2 = 0 ∨ (tpT S e).2.2 = 0) ∧ 0 < lcmp (p_det_S (tpT S a) (tpT S b) (tpT S e)) 0 then 1 else 0) else -1) else -1) else -1) else -1)) := by
  obtain ⟨d, rfl⟩ : ∃ d1, d = d1 + 1 := ⟨d - 1, by omega⟩
  refine WP.enter (cd := cd_X11_holds) rfl ?_
  have G0 := Gr.refl ci
  have hls : largs 0 [aO (some c), aI 11, aI a, aI b, aI e, aI f] = [(0, aO (some c)), (1, aI 11), (2, aI a), (3, aI b), (4, aI e), (5, aI f)] := rfl
  rw [hls]
  clear hls
  refine g_aload_n rfl rfl ?_
  refine g_ldcT rfl (by decide) ?_
  refine g_iload_n rfl rfl ?_
  refine g_callSI [aO (some (w 8)), aI 11] [aO (some c)] rfl rfl rfl rfl (Nat.le_of_ble_eq_true rfl) (x_sortAt (by omega) (tx 8 (by omega)) (by omega) 11) ?_
  rintro _ hq1 ⟨ehq1, rfl⟩
  rw [ehq1]
  clear ehq1 hq1
  refine g_top (v2 := aI 112) (congrArg aI (show chAt 8 11 = 112 by decide +kernel)) ?_
  refine g_iload_n rfl rfl ?_
  refine g_callVI [aI 112, aI a] [] rfl rfl rfl rfl (Nat.le_of_ble_eq_true rfl) (G0.cs.kd 0 (by omega) rfl) (x_isA (by omega) ci xt ok xn okn 112 a) ?_
  rintro _ hq2 ⟨ehq2, rfl⟩
  rw [ehq2]
  clear ehq2 hq2
  refine g_b_eq rfl (fun c11 => ?_) (fun c11 => ?_)
  · skip
    refine g_iconst rfl ?_
    refine g_iret rfl ?_
    first
      | (rw [if_neg c11]; exact ⟨FX.refl ci _, rfl⟩)
      | (rw [if_pos c11, if_neg c25]; exact ⟨FX.refl ci _, rfl⟩)
      | (rw [if_pos c11, if_pos c25, if_neg c40]; exact ⟨FX.refl ci _, rfl⟩)
      | (rw [if_pos c11, if_pos c25, if_pos c40, if_neg c55]; exact ⟨FX.refl ci _, rfl⟩)
  · skip
    refine g_aload_n rfl rfl ?_
    refine g_ldcT rfl (by decide) ?_
    refine g_iload_n rfl rfl ?_
    refine g_callSI [aO (some (w 9)), aI 11] [aO (some c)] rfl rfl rfl rfl (Nat.le_of_ble_eq_true rfl) (x_sortAt (by omega) (tx 9 (by omega)) (by omega) 11) ?_
    rintro _ hq3 ⟨ehq3, rfl⟩
    rw [ehq3]
    clear ehq3 hq3
    refine g_top (v2 := aI 112) (congrArg aI (show chAt 9 11 = 112 by decide +kernel)) ?_
    refine g_iload_n rfl rfl ?_
    refine g_callVI [aI 112, aI b] [] rfl rfl rfl rfl (Nat.le_of_ble_eq_true rfl) (G0.cs.kd 0 (by omega) rfl) (x_isA (by omega) ci xt ok xn okn 112 b) ?_
    rintro _ hq4 ⟨ehq4, rfl⟩
    rw [ehq4]
    clear ehq4 hq4
    refine g_b_eq rfl (fun c25 => ?_) (fun c25 => ?_)
    · skip
      refine g_iconst rfl ?_
      refine g_iret rfl ?_
      first
        | (rw [if_neg c11]; exact ⟨FX.refl ci _, rfl⟩)
        | (rw [if_pos c11, if_neg c25]; exact ⟨FX.refl ci _, rfl⟩)
        | (rw [if_pos c11, if_pos c25, if_neg c40]; exact ⟨FX.refl ci _, rfl⟩)
        | (rw [if_pos c11, if_pos c25, if_pos c40, if_neg c55]; exact ⟨FX.refl ci _, rfl⟩)
    · skip
      refine g_aload_n rfl rfl ?_
      refine g_ldcT rfl (by decide) ?_
      refine g_iload_n rfl rfl ?_
      refine g_callSI [aO (some (w 10)), aI 11] [aO (some c)] rfl rfl rfl rfl (Nat.le_of_ble_eq_true rfl) (x_sortAt (by omega) (tx 10 (by omega)) (by omega) 11) ?_
      rintro _ hq5 ⟨ehq5, rfl⟩
      rw [ehq5]
      clear ehq5 hq5
      refine g_top (v2 := aI 112) (congrArg aI (show chAt 10 11 = 112 by decide +kernel)) ?_
      refine g_iload rfl rfl ?_
      refine g_callVI [aI 112, aI e] [] rfl rfl rfl rfl (Nat.le_of_ble_eq_true rfl) (G0.cs.kd 0 (by omega) rfl) (x_isA (by omega) ci xt ok xn okn 112 e) ?_
      rintro _ hq6 ⟨ehq6, rfl⟩
      rw [ehq6]
      clear ehq6 hq6
      refine g_b_eq rfl (fun c40 => ?_) (fun c40 => ?_)
      · skip
        refine g_iconst rfl ?_
        refine g_iret rfl ?_
        first
          | (rw [if_neg c11]; exact ⟨FX.refl ci _, rfl⟩)
          | (rw [if_pos c11, if_neg c25]; exact ⟨FX.refl ci _, rfl⟩)
          | (rw [if_pos c11, if_pos c25, if_neg c40]; exact ⟨FX.refl ci _, rfl⟩)
          | (rw [if_pos c11, if_pos c25, if_pos c40, if_neg c55]; exact ⟨FX.refl ci _, rfl⟩)
      · skip
        refine g_aload_n rfl rfl ?_
        refine g_ldcT rfl (by decide) ?_
        refine g_iload_n rfl rfl ?_
        refine g_callSI [aO (some (w 11)), aI 11] [aO (some c)] rfl rfl rfl rfl (Nat.le_of_ble_eq_true rfl) (x_sortAt (by omega) (tx 11 (by omega)) (by omega) 11) ?_
        rintro _ hq7 ⟨ehq7, rfl⟩
        rw [ehq7]
        clear ehq7 hq7
        refine g_top (v2 := aI 45) (congrArg aI (show chAt 11 11 = 45 by decide +kernel)) ?_
        refine g_iload rfl rfl ?_
        refine g_callVI [aI 45, aI f] [] rfl rfl rfl rfl (Nat.le_of_ble_eq_true rfl) (G0.cs.kd 0 (by omega) rfl) (x_isA (by omega) ci xt ok xn okn 45 f) ?_
        rintro _ hq8 ⟨ehq8, rfl⟩
        rw [ehq8]
        clear ehq8 hq8
        refine g_b_ne rfl (fun c55 => ?_) (fun c55 => ?_)
        · skip
          refine g_aload_n rfl rfl ?_
          refine g_getR rfl (G0.cs.kd 0 (by omega) rfl) (G0.cs.rf 1 (by omega) rfl) ?_
          have u11 := c11
          unfold isAS at u11
          have u25 := c25
          unfold isAS at u25
          have u40 := c40
          unfold isAS at u40
          have u55 := c55
          unfold isAS at u55
          refine g_callVN [] [] rfl rfl rfl rfl (Nat.le_of_ble_eq_true rfl) (G0.cs.kd 1 (by omega) rfl) (x_reset (by omega) ci) ?_
          rintro _ rfl
          obtain ⟨h0, eh0⟩ : ∃ h0, h0 = hw h (vset (hV h) (c + 1) 1 0) := ⟨_, rfl⟩
          rw [← eh0]
          have ci0 := ci.reset
          have xt0 := xt.reset
          have xn0 := xn.reset
          rw [← eh0] at ci0 xt0 xn0
          have ht : hV h0 (c + 1) 1 ≤ 10 := by rw [eh0]; show vset _ _ _ _ _ _ ≤ _; rw [vset_eq]; omega
          clear ci xt xn
          have ci := ci0
          have xt := xt0
          have xn := xn0
          clear ci0 xt0 xn0
          have G0 := Gr.refl ci
          refine g_aload_n rfl rfl ?_
          refine g_getR rfl (G0.cs.kd 0 (by omega) rfl) (G0.cs.rf 15 (by omega) rfl) ?_
          refine g_iload_n rfl rfl ?_
          refine g_iload_n rfl rfl ?_
          refine g_iload_n rfl rfl ?_
          refine g_iload rfl rfl ?_
          refine g_iload rfl rfl ?_
          refine g_callVI [aI 11, aI a, aI b, aI e, aI f] [] rfl rfl rfl rfl (Nat.le_of_ble_eq_true rfl) (G0.cs.kd 10 (by omega) rfl) (o_so11 (by omega) G0.ci xt ok a (by omega) b (by omega) e (by omega) f) ?_
          rintro _ h9 ⟨g9, rfl⟩
          have G9 := G0.trans g9
          refine g_b_eq rfl (fun c81 => ?_) (fun c81 => ?_)
          · skip
            refine g_iconst rfl ?_
            refine g_iret rfl ?_
            rw [if_pos c11, if_pos c25, if_pos c40, if_pos c55]
            refine ⟨G9.fx eh0 (by omega) (fun q => q), ?_⟩
            first
              | rw [if_pos c81]
              | rw [if_neg c81]
          · skip
            refine g_iconst rfl ?_
            refine g_goto rfl ?_
            refine g_iret rfl ?_
            rw [if_pos c11, if_pos c25, if_pos c40, if_pos c55]
            refine ⟨G9.fx eh0 (by omega) (fun q => q), ?_⟩
            first
              | rw [if_pos c81]
              | rw [if_neg c81]
        · skip
          refine g_iconst rfl ?_
          refine g_iret rfl ?_
          first
            | (rw [if_neg c11]; exact ⟨FX.refl ci _, rfl⟩)
            | (rw [if_pos c11, if_neg c25]; exact ⟨FX.refl ci _, rfl⟩)
            | (rw [if_pos c11, if_pos c25, if_neg c40]; exact ⟨FX.refl ci _, rfl⟩)
            | (rw [if_pos c11, if_pos c25, if_pos c40, if_neg c55]; exact ⟨FX.refl ci _, rfl⟩)
set_option maxHeartbeats 4000000 in
theorem x_holds12 {w : aW} {d : Nat} (hd : 10 ≤ d) {h : aH} {c : Nat} (ci : CI h c) {S : aS} (xt : XT h c S) (ok : OkT S) (xn : XN (hV h) c S) (okn : OkN S) (tx : ∀ i < 12, hT h (w i) = (8, i)) (a : Int) (b : Int) (e : Int) (f : Int) : WP w d 209 [aO (some c), aI 12, aI a, aI b, aI e, aI f] h (RI (fun r h1 => FX h h1 c (fun _ => False) ∧ r = if isAS S 112 a then (if isAS S 99 b then (if isAS S 45 e then (if isAS S 45 f then (if ¬ (tpT S a).2.2 = 0 ∧ lcmp (p_inEq_S (tpT S a) (tpR S b)) 0 < 0 then 1 else 0) else -1) else -1) else -1) else -1)) := by
  obtain ⟨d, rfl⟩ : ∃ d1, d = d1 + 1 := ⟨d - 1, by omega⟩
  refine WP.enter (cd := cd_X11_holds) rfl ?_
  have G0 := Gr.refl ci
  have hls : largs 0 [aO (some c), aI 12, aI a, aI b, aI e, aI f] = [(0, aO (some c)), (1, aI 12), (2, aI a), (3, aI b), (4, aI e), (5, aI f)] := rfl
  rw [hls]
  clear hls
  refine g_aload_n rfl rfl ?_
  refine g_ldcT rfl (by decide) ?_
  refine g_iload_n rfl rfl ?_
  refine g_callSI [aO (some (w 8)), aI 12] [aO (some c)] rfl rfl rfl rfl (Nat.le_of_ble_eq_true rfl) (x_sortAt (by omega) (tx 8 (by omega)) (by omega) 12) ?_
  rintro _ hq1 ⟨ehq1, rfl⟩
  rw [ehq1]
  clear ehq1 hq1
  refine g_top (v2 := aI 112) (congrArg aI (show chAt 8 12 = 112 by decide +kernel)) ?_
  refine g_iload_n rfl rfl ?_
  refine g_callVI [aI 112, aI a] [] rfl rfl rfl rfl (Nat.le_of_ble_eq_true rfl) (G0.cs.kd 0 (by omega) rfl) (x_isA (by omega) ci xt ok xn okn 112 a) ?_
  rintro _ hq2 ⟨ehq2, rfl⟩
  rw [ehq2]
  clear ehq2 hq2
  refine g_b_eq rfl (fun c11 => ?_) (fun c11 => ?_)
  · skip
    refine g_iconst rfl ?_
    refine g_iret rfl ?_
    first
      | (rw [if_neg c11]; exact ⟨FX.refl ci _, rfl⟩)
      | (rw [if_pos c11, if_neg c25]; exact ⟨FX.refl ci _, rfl⟩)
      | (rw [if_pos c11, if_pos c25, if_neg c40]; exact ⟨FX.refl ci _, rfl⟩)
      | (rw [if_pos c11, if_pos c25, if_pos c40, if_neg c55]; exact ⟨FX.refl ci _, rfl⟩)
  · skip
    refine g_aload_n rfl rfl ?_
    refine g_ldcT rfl (by decide) ?_
    refine g_iload_n rfl rfl ?_
    refine g_callSI [aO (some (w 9)), aI 12] [aO (some c)] rfl rfl rfl rfl (Nat.le_of_ble_eq_true rfl) (x_sortAt (by omega) (tx 9 (by omega)) (by omega) 12) ?_
    rintro _ hq3 ⟨ehq3, rfl⟩
    rw [ehq3]
    clear ehq3 hq3
    refine g_top (v2 := aI 99) (congrArg aI (show chAt 9 12 = 99 by decide +kernel)) ?_
    refine g_iload_n rfl rfl ?_
    refine g_callVI [aI 99, aI b] [] rfl rfl rfl rfl (Nat.le_of_ble_eq_true rfl) (G0.cs.kd 0 (by omega) rfl) (x_isA (by omega) ci xt ok xn okn 99 b) ?_
    rintro _ hq4 ⟨ehq4, rfl⟩
    rw [ehq4]
    clear ehq4 hq4
    refine g_b_eq rfl (fun c25 => ?_) (fun c25 => ?_)
    · skip
      refine g_iconst rfl ?_
      refine g_iret rfl ?_
      first
        | (rw [if_neg c11]; exact ⟨FX.refl ci _, rfl⟩)
        | (rw [if_pos c11, if_neg c25]; exact ⟨FX.refl ci _, rfl⟩)
        | (rw [if_pos c11, if_pos c25, if_neg c40]; exact ⟨FX.refl ci _, rfl⟩)
        | (rw [if_pos c11, if_pos c25, if_pos c40, if_neg c55]; exact ⟨FX.refl ci _, rfl⟩)
    · skip
      refine g_aload_n rfl rfl ?_
      refine g_ldcT rfl (by decide) ?_
      refine g_iload_n rfl rfl ?_
      refine g_callSI [aO (some (w 10)), aI 12] [aO (some c)] rfl rfl rfl rfl (Nat.le_of_ble_eq_true rfl) (x_sortAt (by omega) (tx 10 (by omega)) (by omega) 12) ?_
      rintro _ hq5 ⟨ehq5, rfl⟩
      rw [ehq5]
      clear ehq5 hq5
      refine g_top (v2 := aI 45) (congrArg aI (show chAt 10 12 = 45 by decide +kernel)) ?_
      refine g_iload rfl rfl ?_
      refine g_callVI [aI 45, aI e] [] rfl rfl rfl rfl (Nat.le_of_ble_eq_true rfl) (G0.cs.kd 0 (by omega) rfl) (x_isA (by omega) ci xt ok xn okn 45 e) ?_
      rintro _ hq6 ⟨ehq6, rfl⟩
      rw [ehq6]
      clear ehq6 hq6
      refine g_b_eq rfl (fun c40 => ?_) (fun c40 => ?_)
      · skip
        refine g_iconst rfl ?_
        refine g_iret rfl ?_
        first
          | (rw [if_neg c11]; exact ⟨FX.refl ci _, rfl⟩)
          | (rw [if_pos c11, if_neg c25]; exact ⟨FX.refl ci _, rfl⟩)
          | (rw [if_pos c11, if_pos c25, if_neg c40]; exact ⟨FX.refl ci _, rfl⟩)
          | (rw [if_pos c11, if_pos c25, if_pos c40, if_neg c55]; exact ⟨FX.refl ci _, rfl⟩)
      · skip
        refine g_aload_n rfl rfl ?_
        refine g_ldcT rfl (by decide) ?_
        refine g_iload_n rfl rfl ?_
        refine g_callSI [aO (some (w 11)), aI 12] [aO (some c)] rfl rfl rfl rfl (Nat.le_of_ble_eq_true rfl) (x_sortAt (by omega) (tx 11 (by omega)) (by omega) 12) ?_
        rintro _ hq7 ⟨ehq7, rfl⟩
        rw [ehq7]
        clear ehq7 hq7
        refine g_top (v2 := aI 45) (congrArg aI (show chAt 11 12 = 45 by decide +kernel)) ?_
        refine g_iload rfl rfl ?_
        refine g_callVI [aI 45, aI f] [] rfl rfl rfl rfl (Nat.le_of_ble_eq_true rfl) (G0.cs.kd 0 (by omega) rfl) (x_isA (by omega) ci xt ok xn okn 45 f) ?_
        rintro _ hq8 ⟨ehq8, rfl⟩
        rw [ehq8]
        clear ehq8 hq8
        refine g_b_ne rfl (fun c55 => ?_) (fun c55 => ?_)
        · skip
          refine g_aload_n rfl rfl ?_
          refine g_getR rfl (G0.cs.kd 0 (by omega) rfl) (G0.cs.rf 1 (by omega) rfl) ?_
          have u11 := c11
          unfold isAS at u11
          have u25 := c25
          unfold isAS at u25
          have u40 := c40
          unfold isAS at u40
          have u55 := c55
          unfold isAS at u55
          refine g_callVN [] [] rfl rfl rfl rfl (Nat.le_of_ble_eq_true rfl) (G0.cs.kd 1 (by omega) rfl) (x_reset (by omega) ci) ?_
          rintro _ rfl
          obtain ⟨h0, eh0⟩ : ∃ h0, h0 = hw h (vset (hV h) (c + 1) 1 0) := ⟨_, rfl⟩
          rw [← eh0]
          have ci0 := ci.reset
          have xt0 := xt.reset
          have xn0 := xn.reset
          rw [← eh0] at ci0 xt0 xn0
          have ht : hV h0 (c + 1) 1 ≤ 10 := by rw [eh0]; show vset _ _ _ _ _ _ ≤ _; rw [vset_eq]; omega
          clear ci xt xn
          have ci := ci0
          have xt := xt0
          have xn := xn0
          clear ci0 xt0 xn0
          have G0 := Gr.refl ci
          refine g_aload_n rfl rfl ?_
          refine g_getR rfl (G0.cs.kd 0 (by omega) rfl) (G0.cs.rf 15 (by omega) rfl) ?_
          refine g_iload_n rfl rfl ?_
          refine g_iload_n rfl rfl ?_
          refine g_iload_n rfl rfl ?_
          refine g_iload rfl rfl ?_
          refine g_iload rfl rfl ?_
          refine g_callVI [aI 12, aI a, aI b, aI e, aI f] [] rfl rfl rfl rfl (Nat.le_of_ble_eq_true rfl) (G0.cs.kd 10 (by omega) rfl) (o_so12 (by omega) G0.ci xt ok a (by omega) b (by omega) e f) ?_
          rintro _ h9 ⟨g9, rfl⟩
          have G9 := G0.trans g9
          refine g_b_eq rfl (fun c81 => ?_) (fun c81 => ?_)
          · skip
            refine g_iconst rfl ?_
            refine g_iret rfl ?_
            rw [if_pos c11, if_pos c25, if_pos c40, if_pos c55]
            refine ⟨G9.fx eh0 (by omega) (fun q => q), ?_⟩
            first
              | rw [if_pos c81]
              | rw [if_neg c81]
          · skip
            refine g_iconst rfl ?_
            refine g_goto rfl ?_
            refine g_iret rfl ?_
            rw [if_pos c11, if_pos c25, if_pos c40, if_pos c55]
            refine ⟨G9.fx eh0 (by omega) (fun q => q), ?_⟩
            first
              | rw [if_pos c81]
              | rw [if_neg c81]
        · skip
          refine g_iconst rfl ?_
          refine g_iret rfl ?_
          first
            | (rw [if_neg c11]; exact ⟨FX.refl ci _, rfl⟩)
            | (rw [if_pos c11, if_neg c25]; exact ⟨FX.refl ci _, rfl⟩)
            | (rw [if_pos c11, if_pos c25, if_neg c40]; exact ⟨FX.refl ci _, rfl⟩)
            | (rw [if_pos c11, if_pos c25, if_pos c40, if_neg c55]; exact ⟨FX.refl ci _, rfl⟩)
set_option maxHeartbeats 4000000 in
theorem x_holds13 {w : aW} {d : Nat} (hd : 10 ≤ d) {h : aH} {c : Nat} (ci : CI h c) {S : aS} (xt : XT h c S) (ok : OkT S) (xn : XN (hV h) c S) (okn : OkN S) (tx : ∀ i < 12, hT h (w i) = (8, i)) (a : Int) (b : Int) (e : Int) (f : Int) : WP w d 209 [aO (some c), aI 13, aI a, aI b, aI e, aI f] h (RI (fun r h1 => FX h h1 c (fun _ => False) ∧ r = if isAS S 108 a then (if isAS S 108 b then (if isAS S 99 e then (if isAS S 45 f then (if p_dot_S (p_pole_S (tpT S a) (tpR S e)) (tpT S b) = 0 then 1 else 0) else -1) else -1) else -1) else -1)) := by
  obtain ⟨d, rfl⟩ : ∃ d1, d = d1 + 1 := ⟨d - 1, by omega⟩
  refine WP.enter (cd := cd_X11_holds) rfl ?_
  have G0 := Gr.refl ci
  have hls : largs 0 [aO (some c), aI 13, aI a, aI b, aI e, aI f] = [(0, aO (some c)), (1, aI 13), (2, aI a), (3, aI b), (4, aI e), (5, aI f)] := rfl
  rw [hls]
  clear hls
  refine g_aload_n rfl rfl ?_
  refine g_ldcT rfl (by decide) ?_
  refine g_iload_n rfl rfl ?_
  refine g_callSI [aO (some (w 8)), aI 13] [aO (some c)] rfl rfl rfl rfl (Nat.le_of_ble_eq_true rfl) (x_sortAt (by omega) (tx 8 (by omega)) (by omega) 13) ?_
  rintro _ hq1 ⟨ehq1, rfl⟩
  rw [ehq1]
  clear ehq1 hq1
  refine g_top (v2 := aI 108) (congrArg aI (show chAt 8 13 = 108 by decide +kernel)) ?_
  refine g_iload_n rfl rfl ?_
  refine g_callVI [aI 108, aI a] [] rfl rfl rfl rfl (Nat.le_of_ble_eq_true rfl) (G0.cs.kd 0 (by omega) rfl) (x_isA (by omega) ci xt ok xn okn 108 a) ?_
  rintro _ hq2 ⟨ehq2, rfl⟩
  rw [ehq2]
  clear ehq2 hq2
  refine g_b_eq rfl (fun c11 => ?_) (fun c11 => ?_)
  · skip
    refine g_iconst rfl ?_
    refine g_iret rfl ?_
    first
      | (rw [if_neg c11]; exact ⟨FX.refl ci _, rfl⟩)
      | (rw [if_pos c11, if_neg c25]; exact ⟨FX.refl ci _, rfl⟩)
      | (rw [if_pos c11, if_pos c25, if_neg c40]; exact ⟨FX.refl ci _, rfl⟩)
      | (rw [if_pos c11, if_pos c25, if_pos c40, if_neg c55]; exact ⟨FX.refl ci _, rfl⟩)
  · skip
    refine g_aload_n rfl rfl ?_
    refine g_ldcT rfl (by decide) ?_
    refine g_iload_n rfl rfl ?_
    refine g_callSI [aO (some (w 9)), aI 13] [aO (some c)] rfl rfl rfl rfl (Nat.le_of_ble_eq_true rfl) (x_sortAt (by omega) (tx 9 (by omega)) (by omega) 13) ?_
    rintro _ hq3 ⟨ehq3, rfl⟩
    rw [ehq3]
    clear ehq3 hq3
    refine g_top (v2 := aI 108) (congrArg aI (show chAt 9 13 = 108 by decide +kernel)) ?_
    refine g_iload_n rfl rfl ?_
    refine g_callVI [aI 108, aI b] [] rfl rfl rfl rfl (Nat.le_of_ble_eq_true rfl) (G0.cs.kd 0 (by omega) rfl) (x_isA (by omega) ci xt ok xn okn 108 b) ?_
    rintro _ hq4 ⟨ehq4, rfl⟩
    rw [ehq4]
    clear ehq4 hq4
    refine g_b_eq rfl (fun c25 => ?_) (fun c25 => ?_)
    · skip
      refine g_iconst rfl ?_
      refine g_iret rfl ?_
      first
        | (rw [if_neg c11]; exact ⟨FX.refl ci _, rfl⟩)
        | (rw [if_pos c11, if_neg c25]; exact ⟨FX.refl ci _, rfl⟩)
        | (rw [if_pos c11, if_pos c25, if_neg c40]; exact ⟨FX.refl ci _, rfl⟩)
        | (rw [if_pos c11, if_pos c25, if_pos c40, if_neg c55]; exact ⟨FX.refl ci _, rfl⟩)
    · skip
      refine g_aload_n rfl rfl ?_
      refine g_ldcT rfl (by decide) ?_
      refine g_iload_n rfl rfl ?_
      refine g_callSI [aO (some (w 10)), aI 13] [aO (some c)] rfl rfl rfl rfl (Nat.le_of_ble_eq_true rfl) (x_sortAt (by omega) (tx 10 (by omega)) (by omega) 13) ?_
      rintro _ hq5 ⟨ehq5, rfl⟩
      rw [ehq5]
      clear ehq5 hq5
      refine g_top (v2 := aI 99) (congrArg aI (show chAt 10 13 = 99 by decide +kernel)) ?_
      refine g_iload rfl rfl ?_
      refine g_callVI [aI 99, aI e] [] rfl rfl rfl rfl (Nat.le_of_ble_eq_true rfl) (G0.cs.kd 0 (by omega) rfl) (x_isA (by omega) ci xt ok xn okn 99 e) ?_
      rintro _ hq6 ⟨ehq6, rfl⟩
      rw [ehq6]
      clear ehq6 hq6
      refine g_b_eq rfl (fun c40 => ?_) (fun c40 => ?_)
      · skip
        refine g_iconst rfl ?_
        refine g_iret rfl ?_
        first
          | (rw [if_neg c11]; exact ⟨FX.refl ci _, rfl⟩)
          | (rw [if_pos c11, if_neg c25]; exact ⟨FX.refl ci _, rfl⟩)
          | (rw [if_pos c11, if_pos c25, if_neg c40]; exact ⟨FX.refl ci _, rfl⟩)
          | (rw [if_pos c11, if_pos c25, if_pos c40, if_neg c55]; exact ⟨FX.refl ci _, rfl⟩)
      · skip
        refine g_aload_n rfl rfl ?_
        refine g_ldcT rfl (by decide) ?_
        refine g_iload_n rfl rfl ?_
        refine g_callSI [aO (some (w 11)), aI 13] [aO (some c)] rfl rfl rfl rfl (Nat.le_of_ble_eq_true rfl) (x_sortAt (by omega) (tx 11 (by omega)) (by omega) 13) ?_
        rintro _ hq7 ⟨ehq7, rfl⟩
        rw [ehq7]
        clear ehq7 hq7
        refine g_top (v2 := aI 45) (congrArg aI (show chAt 11 13 = 45 by decide +kernel)) ?_
        refine g_iload rfl rfl ?_
        refine g_callVI [aI 45, aI f] [] rfl rfl rfl rfl (Nat.le_of_ble_eq_true rfl) (G0.cs.kd 0 (by omega) rfl) (x_isA (by omega) ci xt ok xn okn 45 f) ?_
        rintro _ hq8 ⟨ehq8, rfl⟩
        rw [ehq8]
        clear ehq8 hq8
        refine g_b_ne rfl (fun c55 => ?_) (fun c55 => ?_)
        · skip
          refine g_aload_n rfl rfl ?_
          refine g_getR rfl (G0.cs.kd 0 (by omega) rfl) (G0.cs.rf 1 (by omega) rfl) ?_
          have u11 := c11
          unfold isAS at u11
          have u25 := c25
          unfold isAS at u25
          have u40 := c40
          unfold isAS at u40
          have u55 := c55
          unfold isAS at u55
          refine g_callVN [] [] rfl rfl rfl rfl (Nat.le_of_ble_eq_true rfl) (G0.cs.kd 1 (by omega) rfl) (x_reset (by omega) ci) ?_
          rintro _ rfl
          obtain ⟨h0, eh0⟩ : ∃ h0, h0 = hw h (vset (hV h) (c + 1) 1 0) := ⟨_, rfl⟩
          rw [← eh0]
          have ci0 := ci.reset
          have xt0 := xt.reset
          have xn0 := xn.reset
          rw [← eh0] at ci0 xt0 xn0
          have ht : hV h0 (c + 1) 1 ≤ 10 := by rw [eh0]; show vset _ _ _ _ _ _ ≤ _; rw [vset_eq]; omega
          clear ci xt xn
          have ci := ci0
          have xt := xt0
          have xn := xn0
          clear ci0 xt0 xn0
          have G0 := Gr.refl ci
          refine g_aload_n rfl rfl ?_
          refine g_getR rfl (G0.cs.kd 0 (by omega) rfl) (G0.cs.rf 15 (by omega) rfl) ?_
          refine g_iload_n rfl rfl ?_
          refine g_iload_n rfl rfl ?_
          refine g_iload_n rfl rfl ?_
          refine g_iload rfl rfl ?_
          refine g_iload rfl rfl ?_
          refine g_callVI [aI 13, aI a, aI b, aI e, aI f] [] rfl rfl rfl rfl (Nat.le_of_ble_eq_true rfl) (G0.cs.kd 10 (by omega) rfl) (o_so13 (by omega) G0.ci xt ok a (by omega) b (by omega) e (by omega) f) ?_
          rintro _ h9 ⟨g9, rfl⟩
          have G9 := G0.trans g9
          refine g_b_eq rfl (fun c81 => ?_) (fun c81 => ?_)
          · skip
            refine g_iconst rfl ?_
            refine g_iret rfl ?_
            rw [if_pos c11, if_pos c25, if_pos c40, if_pos c55]
            refine ⟨G9.fx eh0 (by omega) (fun q => q), ?_⟩
            first
              | rw [if_pos c81]
              | rw [if_neg c81]
          · skip
            refine g_iconst rfl ?_
            refine g_goto rfl ?_
            refine g_iret rfl ?_
            rw [if_pos c11, if_pos c25, if_pos c40, if_pos c55]
            refine ⟨G9.fx eh0 (by omega) (fun q => q), ?_⟩
            first
              | rw [if_pos c81]
              | rw [if_neg c81]
        · skip
          refine g_iconst rfl ?_
          refine g_iret rfl ?_
          first
            | (rw [if_neg c11]; exact ⟨FX.refl ci _, rfl⟩)
            | (rw [if_pos c11, if_neg c25]; exact ⟨FX.refl ci _, rfl⟩)
            | (rw [if_pos c11, if_pos c25, if_neg c40]; exact ⟨FX.refl ci _, rfl⟩)
            | (rw [if_pos c11, if_pos c25, if_pos c40, if_neg c55]; exact ⟨FX.refl ci _, rfl⟩)
set_option maxHeartbeats 4000000 in
theorem x_holds14 {w : aW} {d : Nat} (hd : 10 ≤ d) {h : aH} {c : Nat} (ci : CI h c) {S : aS} (xt : XT h c S) (ok : OkT S) (xn : XN (hV h) c S) (okn : OkN S) (tx : ∀ i < 12, hT h (w i) = (8, i)) (a : Int) (b : Int) (e : Int) (f : Int) : WP w d 209 [aO (some c), aI 14, aI a, aI b, aI e, aI f] h (RI (fun r h1 => FX h h1 c (fun _ => False) ∧ r = if isAS S 112 a then (if isAS S 112 b then (if isAS S 112 e then (if isAS S 112 f then (if (¬((p_cross_S ((tpT S a)) ((tpT S b))).1 = 0 ∧ (p_cross_S ((tpT S a)) ((tpT S b))).2.1 = 0 ∧ (p_cross_S ((tpT S a)) ((tpT S b))).2.2 = 0) ∧ ¬((p_cross_S ((tpT S a)) ((tpT S e))).1 = 0 ∧ (p_cross_S ((tpT S a)) ((tpT S e))).2.1 = 0 ∧ (p_cross_S ((tpT S a)) ((tpT S e))).2.2 = 0) ∧ ¬((p_cross_S ((tpT S a)) ((tpT S f))).1 = 0 ∧ (p_cross_S ((tpT S a)) ((tpT S f))).2.1 = 0 ∧ (p_cross_S ((tpT S a)) ((tpT S f))).2.2 = 0) ∧ ¬((p_cross_S ((tpT S b)) ((tpT S e))).1 = 0 ∧ (p_cross_S ((tpT S b)) ((tpT S e))).2.1 = 0 ∧ (p_cross_S ((tpT S b)) ((tpT S e))).2.2 = 0) ∧ ¬((p_cross_S ((tpT S b)) ((tpT S f))).1 = 0 ∧ (p_cross_S ((tpT S b)) ((tpT S f))).2.1 = 0 ∧ (p_cross_S ((tpT S b)) ((tpT S f))).2.2 = 0) ∧ ¬((p_cross_S ((tpT S e)) ((tpT S f))).1 = 0 ∧ (p_cross_S ((tpT S e)) ((tpT S f))).2.1 = 0 ∧ (p_cross_S ((tpT S e)) ((tpT S f))).2.2 = 0)) ∧ p_dot_S (p_cross_S (tpT S a) (tpT S b)) (tpT S e) = 0 ∧ p_dot_S (p_cross_S (tpT S a) (tpT S b)) (tpT S f) = 0 ∧ p_bra_S (tpT S a) (tpT S e) (p_cross_S (tpT S a) (tpT S b)) * p_bra_S (tpT S b) (tpT S f) (p_cross_S (tpT S a) (tpT S b)) + p_bra_S (tpT S a) (tpT S f) (p_cross_S (tpT S a) (tpT S b)) * p_bra_S (tpT S b) (tpT S e) (p_cross_S (tpT S a) (tpT S b)) = 0 then 1 else 0) else -1) else -1) else -1) else -1)) := by
  obtain ⟨d, rfl⟩ : ∃ d1, d = d1 + 1 := ⟨d - 1, by omega⟩
  refine WP.enter (cd := cd_X11_holds) rfl ?_
  have G0 := Gr.refl ci
  have hls : largs 0 [aO (some c), aI 14, aI a, aI b, aI e, aI f] = [(0, aO (some c)), (1, aI 14), (2, aI a), (3, aI b), (4, aI e), (5, aI f)] := rfl
  rw [hls]
  clear hls
  refine g_aload_n rfl rfl ?_
  refine g_ldcT rfl (by decide) ?_
  refine g_iload_n rfl rfl ?_
  refine g_callSI [aO (some (w 8)), aI 14] [aO (some c)] rfl rfl rfl rfl (Nat.le_of_ble_eq_true rfl) (x_sortAt (by omega) (tx 8 (by omega)) (by omega) 14) ?_
  rintro _ hq1 ⟨ehq1, rfl⟩
  rw [ehq1]
  clear ehq1 hq1
  refine g_top (v2 := aI 112) (congrArg aI (show chAt 8 14 = 112 by decide +kernel)) ?_
  refine g_iload_n rfl rfl ?_
  refine g_callVI [aI 112, aI a] [] rfl rfl rfl rfl (Nat.le_of_ble_eq_true rfl) (G0.cs.kd 0 (by omega) rfl) (x_isA (by omega) ci xt ok xn okn 112 a) ?_
  rintro _ hq2 ⟨ehq2, rfl⟩
  rw [ehq2]
  clear ehq2 hq2
  refine g_b_eq rfl (fun c11 => ?_) (fun c11 => ?_)
  · skip
    refine g_iconst rfl ?_
    refine g_iret rfl ?_
    first
      | (rw [if_neg c11]; exact ⟨FX.refl ci _, rfl⟩)
      | (rw [if_pos c11, if_neg c25]; exact ⟨FX.refl ci _, rfl⟩)
      | (rw [if_pos c11, if_pos c25, if_neg c40]; exact ⟨FX.refl ci _, rfl⟩)
      | (rw [if_pos c11, if_pos c25, if_pos c40, if_neg c55]; exact ⟨FX.refl ci _, rfl⟩)
  · skip
    refine g_aload_n rfl rfl ?_
    refine g_ldcT rfl (by decide) ?_
    refine g_iload_n rfl rfl ?_
    refine g_callSI [aO (some (w 9)), aI 14] [aO (some c)] rfl rfl rfl rfl (Nat.le_of_ble_eq_true rfl) (x_sortAt (by omega) (tx 9 (by omega)) (by omega) 14) ?_
    rintro _ hq3 ⟨ehq3, rfl⟩
    rw [ehq3]
    clear ehq3 hq3
    refine g_top (v2 := aI 112) (congrArg aI (show chAt 9 14 = 112 by decide +kernel)) ?_
    refine g_iload_n rfl rfl ?_
    refine g_callVI [aI 112, aI b] [] rfl rfl rfl rfl (Nat.le_of_ble_eq_true rfl) (G0.cs.kd 0 (by omega) rfl) (x_isA (by omega) ci xt ok xn okn 112 b) ?_
    rintro _ hq4 ⟨ehq4, rfl⟩
    rw [ehq4]
    clear ehq4 hq4
    refine g_b_eq rfl (fun c25 => ?_) (fun c25 => ?_)
    · skip
      refine g_iconst rfl ?_
      refine g_iret rfl ?_
      first
        | (rw [if_neg c11]; exact ⟨FX.refl ci _, rfl⟩)
        | (rw [if_pos c11, if_neg c25]; exact ⟨FX.refl ci _, rfl⟩)
        | (rw [if_pos c11, if_pos c25, if_neg c40]; exact ⟨FX.refl ci _, rfl⟩)
        | (rw [if_pos c11, if_pos c25, if_pos c40, if_neg c55]; exact ⟨FX.refl ci _, rfl⟩)
    · skip
      refine g_aload_n rfl rfl ?_
      refine g_ldcT rfl (by decide) ?_
      refine g_iload_n rfl rfl ?_
      refine g_callSI [aO (some (w 10)), aI 14] [aO (some c)] rfl rfl rfl rfl (Nat.le_of_ble_eq_true rfl) (x_sortAt (by omega) (tx 10 (by omega)) (by omega) 14) ?_
      rintro _ hq5 ⟨ehq5, rfl⟩
      rw [ehq5]
      clear ehq5 hq5
      refine g_top (v2 := aI 112) (congrArg aI (show chAt 10 14 = 112 by decide +kernel)) ?_
      refine g_iload rfl rfl ?_
      refine g_callVI [aI 112, aI e] [] rfl rfl rfl rfl (Nat.le_of_ble_eq_true rfl) (G0.cs.kd 0 (by omega) rfl) (x_isA (by omega) ci xt ok xn okn 112 e) ?_
      rintro _ hq6 ⟨ehq6, rfl⟩
      rw [ehq6]
      clear ehq6 hq6
      refine g_b_eq rfl (fun c40 => ?_) (fun c40 => ?_)
      · skip
        refine g_iconst rfl ?_
        refine g_iret rfl ?_
        first
          | (rw [if_neg c11]; exact ⟨FX.refl ci _, rfl⟩)
          | (rw [if_pos c11, if_neg c25]; exact ⟨FX.refl ci _, rfl⟩)
          | (rw [if_pos c11, if_pos c25, if_neg c40]; exact ⟨FX.refl ci _, rfl⟩)
          | (rw [if_pos c11, if_pos c25, if_pos c40, if_neg c55]; exact ⟨FX.refl ci _, rfl⟩)
      · skip
        refine g_aload_n rfl rfl ?_
        refine g_ldcT rfl (by decide) ?_
        refine g_iload_n rfl rfl ?_
        refine g_callSI [aO (some (w 11)), aI 14] [aO (some c)] rfl rfl rfl rfl (Nat.le_of_ble_eq_true rfl) (x_sortAt (by omega) (tx 11 (by omega)) (by omega) 14) ?_
        rintro _ hq7 ⟨ehq7, rfl⟩
        rw [ehq7]
        clear ehq7 hq7
        refine g_top (v2 := aI 112) (congrArg aI (show chAt 11 14 = 112 by decide +kernel)) ?_
        refine g_iload rfl rfl ?_
        refine g_callVI [aI 112, aI f] [] rfl rfl rfl rfl (Nat.le_of_ble_eq_true rfl) (G0.cs.kd 0 (by omega) rfl) (x_isA (by omega) ci xt ok xn okn 112 f) ?_
        rintro _ hq8 ⟨ehq8, rfl⟩
        rw [ehq8]
        clear ehq8 hq8
        refine g_b_ne rfl (fun c55 => ?_) (fun c55 => ?_)
        · skip
          refine g_aload_n rfl rfl ?_
          refine g_getR rfl (G0.cs.kd 0 (by omega) rfl) (G0.cs.rf 1 (by omega) rfl) ?_
          have u11 := c11
          unfold isAS at u11
          have u25 := c25
          unfold isAS at u25
          have u40 := c40
          unfold isAS at u40
          have u55 := c55
          unfold isAS at u55
          refine g_callVN [] [] rfl rfl rfl rfl (Nat.le_of_ble_eq_true rfl) (G0.cs.kd 1 (by omega) rfl) (x_reset (by omega) ci) ?_
          rintro _ rfl
          obtain ⟨h0, eh0⟩ : ∃ h0, h0 = hw h (vset (hV h) (c + 1) 1 0) := ⟨_, rfl⟩
          rw [← eh0]
          have ci0 := ci.reset
          have xt0 := xt.reset
          have xn0 := xn.reset
          rw [← eh0] at ci0 xt0 xn0
          have ht : hV h0 (c + 1) 1 ≤ 10 := by rw [eh0]; show vset _ _ _ _ _ _ ≤ _; rw [vset_eq]; omega
          clear ci xt xn
          have ci := ci0
          have xt := xt0
          have xn := xn0
          clear ci0 xt0 xn0
          have G0 := Gr.refl ci
          refine g_aload_n rfl rfl ?_
          refine g_getR rfl (G0.cs.kd 0 (by omega) rfl) (G0.cs.rf 15 (by omega) rfl) ?_
          refine g_iload_n rfl rfl ?_
          refine g_iload_n rfl rfl ?_
          refine g_iload_n rfl rfl ?_
          refine g_iload rfl rfl ?_
          refine g_iload rfl rfl ?_
          refine g_callVI [aI 14, aI a, aI b, aI e, aI f] [] rfl rfl rfl rfl (Nat.le_of_ble_eq_true rfl) (G0.cs.kd 10 (by omega) rfl) (o_so14 (by omega) G0.ci xt ok a (by omega) b (by omega) e (by omega) f (by omega)) ?_
          rintro _ h9 ⟨g9, rfl⟩
          have G9 := G0.trans g9
          refine g_b_eq rfl (fun c81 => ?_) (fun c81 => ?_)
          · skip
            refine g_iconst rfl ?_
            refine g_iret rfl ?_
            rw [if_pos c11, if_pos c25, if_pos c40, if_pos c55]
            refine ⟨G9.fx eh0 (by omega) (fun q => q), ?_⟩
            first
              | rw [if_pos c81]
              | rw [if_neg c81]
          · skip
            refine g_iconst rfl ?_
            refine g_goto rfl ?_
            refine g_iret rfl ?_
            rw [if_pos c11, if_pos c25, if_pos c40, if_pos c55]
            refine ⟨G9.fx eh0 (by omega) (fun q => q), ?_⟩
            first
              | rw [if_pos c81]
              | rw [if_neg c81]
        · skip
          refine g_iconst rfl ?_
          refine g_iret rfl ?_
          first
            | (rw [if_neg c11]; exact ⟨FX.refl ci _, rfl⟩)
            | (rw [if_pos c11, if_neg c25]; exact ⟨FX.refl ci _, rfl⟩)
            | (rw [if_pos c11, if_pos c25, if_neg c40]; exact ⟨FX.refl ci _, rfl⟩)
            | (rw [if_pos c11, if_pos c25, if_pos c40, if_neg c55]; exact ⟨FX.refl ci _, rfl⟩)
