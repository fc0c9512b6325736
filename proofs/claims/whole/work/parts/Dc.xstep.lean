/-! the class's faces of things, kind by kind: printed by wip/whole/dc.py -/
/-- what a call of a face leaves as it was: all but the rows told -/
def FX (h h1 : aH) (c : Nat) (T : Nat → Prop) : Prop := CI h1 c ∧ (hz h ≤ hz h1 ∧ hz h1 ≤ hz h + 1000) ∧ (hs h ≤ hs h1 ∧ hs h1 ≤ hs h + 6500) ∧ (∀ a < hz h, hT h1 a = hT h a) ∧ (∀ a < hz h, a ≠ c + 2 → hR h1 a = hR h a) ∧ ∀ a < hz h, a ≠ c + 1 → ((hT h a).1 ≠ 1 ∨ a < c + 67) → ¬ T a → hV h1 a = hV h a
def thT (c a : Nat) : Prop := a = c + 7 ∨ a = c + 8 ∨ a = c + 9
def nuT (c a : Nat) : Prop := a = c + 3 ∨ a = c + 4 ∨ a = c + 5
theorem FX.refl {h : aH} {c : Nat} (ci : CI h c) (T : Nat → Prop) : FX h h c T := ⟨ci, by omega, by omega, fun _ _ => rfl, fun _ _ _ => rfl, fun _ _ _ _ _ => rfl⟩
theorem CI.reset {h : aH} {c : Nat} (ci : CI h c) : CI (hw h (vset (hV h) (c + 1) 1 0)) c := by
  obtain ⟨i1, i2, i3, i4, i5⟩ := ci
  refine ⟨i1, i2, ?_, i4, i5⟩
  show 0 ≤ vset (hV h) (c + 1) 1 0 (c + 1) 1 ∧ vset (hV h) (c + 1) 1 0 (c + 1) 1 ≤ 400
  rw [vset_eq]
  omega
theorem FX_of {h h0 h2 h1 : aH} {c n : Nat} {T : Nat → Prop} (e0 : h0 = hw h (vset (hV h) (c + 1) 1 0)) (g : Gr h0 h2 c n) (hn : n ≤ 500) {V : Nat → Nat → Int} (e1 : h1 = hw h2 V) (hT1 : ¬ T (c + 1)) (f : ∀ a, ¬ T a → V a = hV h2 a) : FX h h1 c T := by
  obtain ⟨a1, a2, a3, a4, a5, a6, a7, a8⟩ := g
  subst e0 e1
  refine ⟨a1.put (by rw [f _ hT1]), ⟨a2.1, by show hz h2 ≤ _; have := a2.2; change hz h2 ≤ hz h + 2 * n at this; omega⟩, ⟨a3.1, by show hs h2 ≤ _; have := a3.2; change hs h2 ≤ hs h + 13 * n at this; omega⟩, a4, a5, fun a ha hc hk ht => ?_⟩
  show V a = hV h a
  rw [f a ht, a6 a ha hc hk]
  funext j
  show vset (hV h) (c + 1) 1 0 a j = hV h a j
  rw [vset_ne _ _ _ _ (by omega)]
theorem KT.fx {h h0 h1 : aH} {c n : Nat} (k : KT h0 h1 c n) (e0 : h0 = hw h (vset (hV h) (c + 1) 1 0)) (hn : n ≤ 500) : FX h h1 c (thT c) := by
  obtain ⟨h2, V, g, e1, f⟩ := k
  exact FX_of e0 g hn e1 (by unfold thT; omega) (fun a ha => f a (fun q => ha (Or.inl q)) (fun q => ha (Or.inr (Or.inl q))) (fun q => ha (Or.inr (Or.inr q))))
theorem Gr.fx {h h0 h1 : aH} {c n : Nat} (g : Gr h0 h1 c n) (e0 : h0 = hw h (vset (hV h) (c + 1) 1 0)) (hn : n ≤ 500) {T : Nat → Prop} (hT1 : ¬ T (c + 1)) : FX h h1 c T := FX_of e0 g hn (V := hV h1) rfl hT1 (fun _ _ => rfl)
theorem XT.reset {h : aH} {c : Nat} {S : aS} (x : XT h c S) : XT (hw h (vset (hV h) (c + 1) 1 0)) c S := by
  refine ⟨?_, fun i hi => ⟨?_, fun k hk => ?_⟩⟩
  · show vset _ _ _ _ _ _ = _
    rw [vset_ne _ _ _ _ (by omega)]; exact x.1
  · show vset _ _ _ _ _ _ = _
    rw [vset_ne _ _ _ _ (by omega)]; exact (x.2 i hi).1
  · show vset _ _ _ _ _ _ = _
    rw [vset_ne _ _ _ _ (by omega)]; exact (x.2 i hi).2 k hk
theorem XN.reset {h : aH} {c : Nat} {S : aS} (x : XN (hV h) c S) : XN (hV (hw h (vset (hV h) (c + 1) 1 0))) c S := by
  refine ⟨?_, fun i hi => ⟨?_, ?_⟩⟩
  · show vset _ _ _ _ _ _ = _
    rw [vset_ne _ _ _ _ (by omega)]; exact x.1
  · show vset _ _ _ _ _ _ = _
    rw [vset_ne _ _ _ _ (by omega)]; exact (x.2 i hi).1
  · show vset _ _ _ _ _ _ = _
    rw [vset_ne _ _ _ _ (by omega)]; exact (x.2 i hi).2
theorem x_reset {w : aW} {d : Nat} (hd : 1 ≤ d) {h : aH} {c : Nat} (ci : CI h c) : WP w d 158 [aO (some (c + 1))] h (RN (fun h1 => h1 = hw h (vset (hV h) (c + 1) 1 0))) := by
  obtain ⟨d, rfl⟩ : ∃ d1, d = d1 + 1 := ⟨d - 1, by omega⟩
  refine WP.enter (cd := cd_X7_reset) rfl ?_
  have hls : largs 0 [aO (some (c + 1))] = [(0, aO (some (c + 1)))] := rfl
  rw [hls]
  clear hls
  refine g_aload_n rfl rfl ?_
  refine g_iconst rfl ?_
  refine g_putI rfl (ci.cs.kd 1 (by omega) rfl) ?_
  refine g_vret rfl ?_
  rfl
theorem x_gl0 {w : aW} {d : Nat} (hd : 1 ≤ d) (h : aH) : WP w d 227 [aI 0] h (RI (fun r h1 => h1 = h ∧ r = 0)) := by
  obtain ⟨d, rfl⟩ : ∃ d1, d = d1 + 1 := ⟨d - 1, by omega⟩
  refine WP.enter (cd := cd_X11_givesLine) rfl ?_
  have hls : largs 0 [aI 0] = [(0, aI 0)] := rfl
  rw [hls]
  clear hls
  refine g_iload_n rfl rfl ?_
  refine g_iconst rfl ?_
  refine g_icmp_eq_f rfl (by omega) ?_
  refine g_iload_n rfl rfl ?_
  refine g_iconst rfl ?_
  refine g_icmp_eq_f rfl (by omega) ?_
  refine g_iload_n rfl rfl ?_
  refine g_bipush rfl ?_
  refine g_icmp_eq_f rfl (by omega) ?_
  refine g_iload_n rfl rfl ?_
  refine g_bipush rfl ?_
  refine g_icmp_eq_f rfl (by omega) ?_
  refine g_iload_n rfl rfl ?_
  refine g_bipush rfl ?_
  refine g_icmp_eq_f rfl (by omega) ?_
  refine g_iload_n rfl rfl ?_
  refine g_bipush rfl ?_
  refine g_icmp_lt_t rfl (by omega) ?_
  refine g_iconst rfl ?_
  refine g_zret rfl (by omega) ?_
  exact ⟨rfl, rfl⟩
set_option maxHeartbeats 4000000 in
theorem x_step0 {w : aW} {d : Nat} (hd : 10 ≤ d) {h : aH} {c : Nat} (ci : CI h c) {S : aS} (xt : XT h c S) (ok : OkT S) (xn : XN (hV h) c S) (okn : OkN S) (tx : ∀ i < 12, hT h (w i) = (8, i)) (a : Int) (b : Int) : WP w d 205 [aO (some c), aI 0, aI a, aI b] h (RI (fun r h1 => FX h h1 c (thT c) ∧ r = (if isAS S 110 a ∧ isAS S 110 b then keepP S 0 (some ((sNu S a.toNat).1 * (sNu S b.toNat).2, (sNu S b.toNat).1 * (sNu S a.toNat).2, (sNu S a.toNat).2 * (sNu S b.toNat).2)) else (-1, S)).1 ∧ XT h1 c (if isAS S 110 a ∧ isAS S 110 b then keepP S 0 (some ((sNu S a.toNat).1 * (sNu S b.toNat).2, (sNu S b.toNat).1 * (sNu S a.toNat).2, (sNu S a.toNat).2 * (sNu S b.toNat).2)) else (-1, S)).2)) := by
  obtain ⟨d, rfl⟩ : ∃ d1, d = d1 + 1 := ⟨d - 1, by omega⟩
  refine WP.enter (cd := cd_X11_step) rfl ?_
  have G0 := Gr.refl ci
  have hls : largs 0 [aO (some c), aI 0, aI a, aI b] = [(0, aO (some c)), (1, aI 0), (2, aI a), (3, aI b)] := rfl
  rw [hls]
  clear hls
  refine g_aload_n rfl rfl ?_
  refine g_ldcT rfl (by decide) ?_
  refine g_iload_n rfl rfl ?_
  refine g_callSI [aO (some (w 1)), aI 0] [aO (some c)] rfl rfl rfl rfl (Nat.le_of_ble_eq_true rfl) (x_sortAt (by omega) (tx 1 (by omega)) (by omega) 0) ?_
  rintro _ hq1 ⟨ehq1, rfl⟩
  rw [ehq1]
  clear ehq1 hq1
  refine g_top (v2 := aI 110) (congrArg aI (show chAt 1 0 = 110 by decide +kernel)) ?_
  refine g_iload_n rfl rfl ?_
  refine g_callVI [aI 110, aI a] [] rfl rfl rfl rfl (Nat.le_of_ble_eq_true rfl) (G0.cs.kd 0 (by omega) rfl) (x_isA (by omega) ci xt ok xn okn 110 a) ?_
  rintro _ hq2 ⟨ehq2, rfl⟩
  rw [ehq2]
  clear ehq2 hq2
  refine g_b_eq rfl (fun c11 => ?_) (fun c11 => ?_)
  · skip
    refine g_iconst rfl ?_
    refine g_iret rfl ?_
    first
      | (rw [if_neg (fun q => c11 q.1)]; exact ⟨FX.refl ci _, rfl, xt⟩)
      | (rw [if_neg (fun q => c25 q.2)]; exact ⟨FX.refl ci _, rfl, xt⟩)
  · skip
    refine g_aload_n rfl rfl ?_
    refine g_ldcT rfl (by decide) ?_
    refine g_iload_n rfl rfl ?_
    refine g_callSI [aO (some (w 2)), aI 0] [aO (some c)] rfl rfl rfl rfl (Nat.le_of_ble_eq_true rfl) (x_sortAt (by omega) (tx 2 (by omega)) (by omega) 0) ?_
    rintro _ hq3 ⟨ehq3, rfl⟩
    rw [ehq3]
    clear ehq3 hq3
    refine g_top (v2 := aI 110) (congrArg aI (show chAt 2 0 = 110 by decide +kernel)) ?_
    refine g_iload_n rfl rfl ?_
    refine g_callVI [aI 110, aI b] [] rfl rfl rfl rfl (Nat.le_of_ble_eq_true rfl) (G0.cs.kd 0 (by omega) rfl) (x_isA (by omega) ci xt ok xn okn 110 b) ?_
    rintro _ hq4 ⟨ehq4, rfl⟩
    rw [ehq4]
    clear ehq4 hq4
    refine g_b_ne rfl (fun c25 => ?_) (fun c25 => ?_)
    · skip
      refine g_aload_n rfl rfl ?_
      refine g_getR rfl (G0.cs.kd 0 (by omega) rfl) (G0.cs.rf 1 (by omega) rfl) ?_
      have u11 := c11
      unfold isAS at u11
      have u25 := c25
      unfold isAS at u25
      refine g_callVN [] [] rfl rfl rfl rfl (Nat.le_of_ble_eq_true rfl) (G0.cs.kd 1 (by omega) rfl) (x_reset (by omega) ci) ?_
      rintro _ rfl
      obtain ⟨h0, eh0⟩ : ∃ h0, h0 = hw h (vset (hV h) (c + 1) 1 0) := ⟨_, rfl⟩
      rw [← eh0]
      have ci0 := ci.reset
      have xt0 := xt.reset
      have xn0 := xn.reset
      rw [← eh0] at ci0 xt0 xn0
      have ht : hV h0 (c + 1) 1 ≤ 10 := by rw [eh0]; show vset _ _ _ _ _ _ ≤ _; rw [vset_eq]; omega
      clear ci xt xn
      have ci := ci0
      have xt := xt0
      have xn := xn0
      clear ci0 xt0 xn0
      have G0 := Gr.refl ci
      refine g_iload_n rfl rfl ?_
      refine g_bipush rfl ?_
      refine g_icmp_eq_f rfl (by omega) ?_
      refine g_iload_n rfl rfl ?_
      refine g_bipush rfl ?_
      refine g_icmp_ne_t rfl (by omega) ?_
      refine g_iload_n rfl rfl ?_
      refine g_callSI [aI 0] [] rfl rfl rfl rfl (Nat.le_of_ble_eq_true rfl) (x_gl0 (by omega) h0) ?_
      rintro _ hq ⟨ehq, rfl⟩
      rw [ehq]
      clear ehq hq
      refine g_if_eq_t rfl (by omega) ?_
      refine g_aload_n rfl rfl ?_
      refine g_getR rfl (G0.cs.kd 0 (by omega) rfl) (G0.cs.rf 11 (by omega) rfl) ?_
      refine g_iconst rfl ?_
      refine g_aload_n rfl rfl ?_
      refine g_iload_n rfl rfl ?_
      refine g_iload_n rfl rfl ?_
      refine g_iload_n rfl rfl ?_
      refine g_callVO [aI 0, aI a, aI b] [aI 0, aO (some (c + 7))] rfl rfl rfl rfl (Nat.le_of_ble_eq_true rfl) (G0.cs.kd 0 (by omega) rfl) (f_pt0 (by omega) G0.ci xt ok xn okn a (by omega) b (by omega)) ?_
      rintro r5 h5 ⟨g5, q5⟩
      have G5 := G0.trans g5
      refine g_callVI [aI 0, aO r5] [] rfl rfl rfl rfl (Nat.le_of_ble_eq_true rfl) (G5.cs.kd 7 (by omega) rfl) (t_keepO (by omega) G5.ci (g5.xt G0.ci xt) ok 0 q5 (by omega)) ?_
      rintro r9 h9 ⟨kt9, er9, xt9⟩
      refine g_iret rfl ?_
      rw [if_pos ⟨c11, c25⟩]
      exact ⟨(kt9.gr G5).fx eh0 (by omega), er9, xt9⟩
    · skip
      refine g_iconst rfl ?_
      refine g_iret rfl ?_
      first
        | (rw [if_neg (fun q => c11 q.1)]; exact ⟨FX.refl ci _, rfl, xt⟩)
        | (rw [if_neg (fun q => c25 q.2)]; exact ⟨FX.refl ci _, rfl, xt⟩)
theorem x_gl1 {w : aW} {d : Nat} (hd : 1 ≤ d) (h : aH) : WP w d 227 [aI 1] h (RI (fun r h1 => h1 = h ∧ r = 1)) := by
  obtain ⟨d, rfl⟩ : ∃ d1, d = d1 + 1 := ⟨d - 1, by omega⟩
  refine WP.enter (cd := cd_X11_givesLine) rfl ?_
  have hls : largs 0 [aI 1] = [(0, aI 1)] := rfl
  rw [hls]
  clear hls
  refine g_iload_n rfl rfl ?_
  refine g_iconst rfl ?_
  refine g_icmp_eq_t rfl (by omega) ?_
  refine g_iconst rfl ?_
  refine g_goto rfl ?_
  refine g_zret rfl (by omega) ?_
  exact ⟨rfl, rfl⟩
set_option maxHeartbeats 4000000 in
theorem x_step1 {w : aW} {d : Nat} (hd : 10 ≤ d) {h : aH} {c : Nat} (ci : CI h c) {S : aS} (xt : XT h c S) (ok : OkT S) (xn : XN (hV h) c S) (okn : OkN S) (tx : ∀ i < 12, hT h (w i) = (8, i)) (a : Int) (b : Int) : WP w d 205 [aO (some c), aI 1, aI a, aI b] h (RI (fun r h1 => FX h h1 c (thT c) ∧ r = (if isAS S 112 a ∧ isAS S 112 b then keepP S 1 (p_common_O (tpT S a) (tpT S b)) else (-1, S)).1 ∧ XT h1 c (if isAS S 112 a ∧ isAS S 112 b then keepP S 1 (p_common_O (tpT S a) (tpT S b)) else (-1, S)).2)) := by
  obtain ⟨d, rfl⟩ : ∃ d1, d = d1 + 1 := ⟨d - 1, by omega⟩
  refine WP.enter (cd := cd_X11_step) rfl ?_
  have G0 := Gr.refl ci
  have hls : largs 0 [aO (some c), aI 1, aI a, aI b] = [(0, aO (some c)), (1, aI 1), (2, aI a), (3, aI b)] := rfl
  rw [hls]
  clear hls
  refine g_aload_n rfl rfl ?_
  refine g_ldcT rfl (by decide) ?_
  refine g_iload_n rfl rfl ?_
  refine g_callSI [aO (some (w 1)), aI 1] [aO (some c)] rfl rfl rfl rfl (Nat.le_of_ble_eq_true rfl) (x_sortAt (by omega) (tx 1 (by omega)) (by omega) 1) ?_
  rintro _ hq1 ⟨ehq1, rfl⟩
  rw [ehq1]
  clear ehq1 hq1
  refine g_top (v2 := aI 112) (congrArg aI (show chAt 1 1 = 112 by decide +kernel)) ?_
  refine g_iload_n rfl rfl ?_
  refine g_callVI [aI 112, aI a] [] rfl rfl rfl rfl (Nat.le_of_ble_eq_true rfl) (G0.cs.kd 0 (by omega) rfl) (x_isA (by omega) ci xt ok xn okn 112 a) ?_
  rintro _ hq2 ⟨ehq2, rfl⟩
  rw [ehq2]
  clear ehq2 hq2
  refine g_b_eq rfl (fun c11 => ?_) (fun c11 => ?_)
  · skip
    refine g_iconst rfl ?_
    refine g_iret rfl ?_
    first
      | (rw [if_neg (fun q => c11 q.1)]; exact ⟨FX.refl ci _, rfl, xt⟩)
      | (rw [if_neg (fun q => c25 q.2)]; exact ⟨FX.refl ci _, rfl, xt⟩)
  · skip
    refine g_aload_n rfl rfl ?_
    refine g_ldcT rfl (by decide) ?_
    refine g_iload_n rfl rfl ?_
    refine g_callSI [aO (some (w 2)), aI 1] [aO (some c)] rfl rfl rfl rfl (Nat.le_of_ble_eq_true rfl) (x_sortAt (by omega) (tx 2 (by omega)) (by omega) 1) ?_
    rintro _ hq3 ⟨ehq3, rfl⟩
    rw [ehq3]
    clear ehq3 hq3
    refine g_top (v2 := aI 112) (congrArg aI (show chAt 2 1 = 112 by decide +kernel)) ?_
    refine g_iload_n rfl rfl ?_
    refine g_callVI [aI 112, aI b] [] rfl rfl rfl rfl (Nat.le_of_ble_eq_true rfl) (G0.cs.kd 0 (by omega) rfl) (x_isA (by omega) ci xt ok xn okn 112 b) ?_
    rintro _ hq4 ⟨ehq4, rfl⟩
    rw [ehq4]
    clear ehq4 hq4
    refine g_b_ne rfl (fun c25 => ?_) (fun c25 => ?_)
    · skip
      refine g_aload_n rfl rfl ?_
      refine g_getR rfl (G0.cs.kd 0 (by omega) rfl) (G0.cs.rf 1 (by omega) rfl) ?_
      have u11 := c11
      unfold isAS at u11
      have u25 := c25
      unfold isAS at u25
      refine g_callVN [] [] rfl rfl rfl rfl (Nat.le_of_ble_eq_true rfl) (G0.cs.kd 1 (by omega) rfl) (x_reset (by omega) ci) ?_
      rintro _ rfl
      obtain ⟨h0, eh0⟩ : ∃ h0, h0 = hw h (vset (hV h) (c + 1) 1 0) := ⟨_, rfl⟩
      rw [← eh0]
      have ci0 := ci.reset
      have xt0 := xt.reset
      have xn0 := xn.reset
      rw [← eh0] at ci0 xt0 xn0
      have ht : hV h0 (c + 1) 1 ≤ 10 := by rw [eh0]; show vset _ _ _ _ _ _ ≤ _; rw [vset_eq]; omega
      clear ci xt xn
      have ci := ci0
      have xt := xt0
      have xn := xn0
      clear ci0 xt0 xn0
      have G0 := Gr.refl ci
      refine g_iload_n rfl rfl ?_
      refine g_bipush rfl ?_
      refine g_icmp_eq_f rfl (by omega) ?_
      refine g_iload_n rfl rfl ?_
      refine g_bipush rfl ?_
      refine g_icmp_ne_t rfl (by omega) ?_
      refine g_iload_n rfl rfl ?_
      refine g_callSI [aI 1] [] rfl rfl rfl rfl (Nat.le_of_ble_eq_true rfl) (x_gl1 (by omega) h0) ?_
      rintro _ hq ⟨ehq, rfl⟩
      rw [ehq]
      clear ehq hq
      refine g_if_eq_f rfl (by omega) ?_
      refine g_aload_n rfl rfl ?_
      refine g_getR rfl (G0.cs.kd 0 (by omega) rfl) (G0.cs.rf 11 (by omega) rfl) ?_
      refine g_iconst rfl ?_
      refine g_aload_n rfl rfl ?_
      refine g_iload_n rfl rfl ?_
      refine g_iload_n rfl rfl ?_
      refine g_iload_n rfl rfl ?_
      refine g_callVO [aI 1, aI a, aI b] [aI 1, aO (some (c + 7))] rfl rfl rfl rfl (Nat.le_of_ble_eq_true rfl) (G0.cs.kd 0 (by omega) rfl) (f_ln1 (by omega) G0.ci xt ok xn okn a (by omega) b (by omega)) ?_
      rintro r5 h5 ⟨g5, q5⟩
      have G5 := G0.trans g5
      refine g_callVI [aI 1, aO r5] [] rfl rfl rfl rfl (Nat.le_of_ble_eq_true rfl) (G5.cs.kd 7 (by omega) rfl) (t_keepO (by omega) G5.ci (g5.xt G0.ci xt) ok 1 q5 (by omega)) ?_
      rintro r9 h9 ⟨kt9, er9, xt9⟩
      refine g_iret rfl ?_
      rw [if_pos ⟨c11, c25⟩]
      exact ⟨(kt9.gr G5).fx eh0 (by omega), er9, xt9⟩
    · skip
      refine g_iconst rfl ?_
      refine g_iret rfl ?_
      first
        | (rw [if_neg (fun q => c11 q.1)]; exact ⟨FX.refl ci _, rfl, xt⟩)
        | (rw [if_neg (fun q => c25 q.2)]; exact ⟨FX.refl ci _, rfl, xt⟩)
theorem x_gl2 {w : aW} {d : Nat} (hd : 1 ≤ d) (h : aH) : WP w d 227 [aI 2] h (RI (fun r h1 => h1 = h ∧ r = 0)) := by
  obtain ⟨d, rfl⟩ : ∃ d1, d = d1 + 1 := ⟨d - 1, by omega⟩
  refine WP.enter (cd := cd_X11_givesLine) rfl ?_
  have hls : largs 0 [aI 2] = [(0, aI 2)] := rfl
  rw [hls]
  clear hls
  refine g_iload_n rfl rfl ?_
  refine g_iconst rfl ?_
  refine g_icmp_eq_f rfl (by omega) ?_
  refine g_iload_n rfl rfl ?_
  refine g_iconst rfl ?_
  refine g_icmp_eq_f rfl (by omega) ?_
  refine g_iload_n rfl rfl ?_
  refine g_bipush rfl ?_
  refine g_icmp_eq_f rfl (by omega) ?_
  refine g_iload_n rfl rfl ?_
  refine g_bipush rfl ?_
  refine g_icmp_eq_f rfl (by omega) ?_
  refine g_iload_n rfl rfl ?_
  refine g_bipush rfl ?_
  refine g_icmp_eq_f rfl (by omega) ?_
  refine g_iload_n rfl rfl ?_
  refine g_bipush rfl ?_
  refine g_icmp_lt_t rfl (by omega) ?_
  refine g_iconst rfl ?_
  refine g_zret rfl (by omega) ?_
  exact ⟨rfl, rfl⟩
set_option maxHeartbeats 4000000 in
theorem x_step2 {w : aW} {d : Nat} (hd : 10 ≤ d) {h : aH} {c : Nat} (ci : CI h c) {S : aS} (xt : XT h c S) (ok : OkT S) (xn : XN (hV h) c S) (okn : OkN S) (tx : ∀ i < 12, hT h (w i) = (8, i)) (a : Int) (b : Int) : WP w d 205 [aO (some c), aI 2, aI a, aI b] h (RI (fun r h1 => FX h h1 c (thT c) ∧ r = (if isAS S 108 a ∧ isAS S 108 b then keepP S 0 (p_common_O (tpT S a) (tpT S b)) else (-1, S)).1 ∧ XT h1 c (if isAS S 108 a ∧ isAS S 108 b then keepP S 0 (p_common_O (tpT S a) (tpT S b)) else (-1, S)).2)) := by
  obtain ⟨d, rfl⟩ : ∃ d1, d = d1 + 1 := ⟨d - 1, by omega⟩
  refine WP.enter (cd := cd_X11_step) rfl ?_
  have G0 := Gr.refl ci
  have hls : largs 0 [aO (some c), aI 2, aI a, aI b] = [(0, aO (some c)), (1, aI 2), (2, aI a), (3, aI b)] := rfl
  rw [hls]
  clear hls
  refine g_aload_n rfl rfl ?_
  refine g_ldcT rfl (by decide) ?_
  refine g_iload_n rfl rfl ?_
  refine g_callSI [aO (some (w 1)), aI 2] [aO (some c)] rfl rfl rfl rfl (Nat.le_of_ble_eq_true rfl) (x_sortAt (by omega) (tx 1 (by omega)) (by omega) 2) ?_
  rintro _ hq1 ⟨ehq1, rfl⟩
  rw [ehq1]
  clear ehq1 hq1
  refine g_top (v2 := aI 108) (congrArg aI (show chAt 1 2 = 108 by decide +kernel)) ?_
  refine g_iload_n rfl rfl ?_
  refine g_callVI [aI 108, aI a] [] rfl rfl rfl rfl (Nat.le_of_ble_eq_true rfl) (G0.cs.kd 0 (by omega) rfl) (x_isA (by omega) ci xt ok xn okn 108 a) ?_
  rintro _ hq2 ⟨ehq2, rfl⟩
  rw [ehq2]
  clear ehq2 hq2
  refine g_b_eq rfl (fun c11 => ?_) (fun c11 => ?_)
  · skip
    refine g_iconst rfl ?_
    refine g_iret rfl ?_
    first
      | (rw [if_neg (fun q => c11 q.1)]; exact ⟨FX.refl ci _, rfl, xt⟩)
      | (rw [if_neg (fun q => c25 q.2)]; exact ⟨FX.refl ci _, rfl, xt⟩)
  · skip
    refine g_aload_n rfl rfl ?_
    refine g_ldcT rfl (by decide) ?_
    refine g_iload_n rfl rfl ?_
    refine g_callSI [aO (some (w 2)), aI 2] [aO (some c)] rfl rfl rfl rfl (Nat.le_of_ble_eq_true rfl) (x_sortAt (by omega) (tx 2 (by omega)) (by omega) 2) ?_
    rintro _ hq3 ⟨ehq3, rfl⟩
    rw [ehq3]
    clear ehq3 hq3
    refine g_top (v2 := aI 108) (congrArg aI (show chAt 2 2 = 108 by decide +kernel)) ?_
    refine g_iload_n rfl rfl ?_
    refine g_callVI [aI 108, aI b] [] rfl rfl rfl rfl (Nat.le_of_ble_eq_true rfl) (G0.cs.kd 0 (by omega) rfl) (x_isA (by omega) ci xt ok xn okn 108 b) ?_
    rintro _ hq4 ⟨ehq4, rfl⟩
    rw [ehq4]
    clear ehq4 hq4
    refine g_b_ne rfl (fun c25 => ?_) (fun c25 => ?_)
    · skip
      refine g_aload_n rfl rfl ?_
      refine g_getR rfl (G0.cs.kd 0 (by omega) rfl) (G0.cs.rf 1 (by omega) rfl) ?_
      have u11 := c11
      unfold isAS at u11
      have u25 := c25
      unfold isAS at u25
      refine g_callVN [] [] rfl rfl rfl rfl (Nat.le_of_ble_eq_true rfl) (G0.cs.kd 1 (by omega) rfl) (x_reset (by omega) ci) ?_
      rintro _ rfl
      obtain ⟨h0, eh0⟩ : ∃ h0, h0 = hw h (vset (hV h) (c + 1) 1 0) := ⟨_, rfl⟩
      rw [← eh0]
      have ci0 := ci.reset
      have xt0 := xt.reset
      have xn0 := xn.reset
      rw [← eh0] at ci0 xt0 xn0
      have ht : hV h0 (c + 1) 1 ≤ 10 := by rw [eh0]; show vset _ _ _ _ _ _ ≤ _; rw [vset_eq]; omega
      clear ci xt xn
      have ci := ci0
      have xt := xt0
      have xn := xn0
      clear ci0 xt0 xn0
      have G0 := Gr.refl ci
      refine g_iload_n rfl rfl ?_
      refine g_bipush rfl ?_
      refine g_icmp_eq_f rfl (by omega) ?_
      refine g_iload_n rfl rfl ?_
      refine g_bipush rfl ?_
      refine g_icmp_ne_t rfl (by omega) ?_
      refine g_iload_n rfl rfl ?_
      refine g_callSI [aI 2] [] rfl rfl rfl rfl (Nat.le_of_ble_eq_true rfl) (x_gl2 (by omega) h0) ?_
      rintro _ hq ⟨ehq, rfl⟩
      rw [ehq]
      clear ehq hq
      refine g_if_eq_t rfl (by omega) ?_
      refine g_aload_n rfl rfl ?_
      refine g_getR rfl (G0.cs.kd 0 (by omega) rfl) (G0.cs.rf 11 (by omega) rfl) ?_
      refine g_iconst rfl ?_
      refine g_aload_n rfl rfl ?_
      refine g_iload_n rfl rfl ?_
      refine g_iload_n rfl rfl ?_
      refine g_iload_n rfl rfl ?_
      refine g_callVO [aI 2, aI a, aI b] [aI 0, aO (some (c + 7))] rfl rfl rfl rfl (Nat.le_of_ble_eq_true rfl) (G0.cs.kd 0 (by omega) rfl) (f_pt2 (by omega) G0.ci xt ok xn okn a (by omega) b (by omega)) ?_
      rintro r5 h5 ⟨g5, q5⟩
      have G5 := G0.trans g5
      refine g_callVI [aI 0, aO r5] [] rfl rfl rfl rfl (Nat.le_of_ble_eq_true rfl) (G5.cs.kd 7 (by omega) rfl) (t_keepO (by omega) G5.ci (g5.xt G0.ci xt) ok 0 q5 (by omega)) ?_
      rintro r9 h9 ⟨kt9, er9, xt9⟩
      refine g_iret rfl ?_
      rw [if_pos ⟨c11, c25⟩]
      exact ⟨(kt9.gr G5).fx eh0 (by omega), er9, xt9⟩
    · skip
      refine g_iconst rfl ?_
      refine g_iret rfl ?_
      first
        | (rw [if_neg (fun q => c11 q.1)]; exact ⟨FX.refl ci _, rfl, xt⟩)
        | (rw [if_neg (fun q => c25 q.2)]; exact ⟨FX.refl ci _, rfl, xt⟩)
theorem x_gl3 {w : aW} {d : Nat} (hd : 1 ≤ d) (h : aH) : WP w d 227 [aI 3] h (RI (fun r h1 => h1 = h ∧ r = 0)) := by
  obtain ⟨d, rfl⟩ : ∃ d1, d = d1 + 1 := ⟨d - 1, by omega⟩
  refine WP.enter (cd := cd_X11_givesLine) rfl ?_
  have hls : largs 0 [aI 3] = [(0, aI 3)] := rfl
  rw [hls]
  clear hls
  refine g_iload_n rfl rfl ?_
  refine g_iconst rfl ?_
  refine g_icmp_eq_f rfl (by omega) ?_
  refine g_iload_n rfl rfl ?_
  refine g_iconst rfl ?_
  refine g_icmp_eq_f rfl (by omega) ?_
  refine g_iload_n rfl rfl ?_
  refine g_bipush rfl ?_
  refine g_icmp_eq_f rfl (by omega) ?_
  refine g_iload_n rfl rfl ?_
  refine g_bipush rfl ?_
  refine g_icmp_eq_f rfl (by omega) ?_
  refine g_iload_n rfl rfl ?_
  refine g_bipush rfl ?_
  refine g_icmp_eq_f rfl (by omega) ?_
  refine g_iload_n rfl rfl ?_
  refine g_bipush rfl ?_
  refine g_icmp_lt_t rfl (by omega) ?_
  refine g_iconst rfl ?_
  refine g_zret rfl (by omega) ?_
  exact ⟨rfl, rfl⟩
set_option maxHeartbeats 4000000 in
theorem x_step3 {w : aW} {d : Nat} (hd : 10 ≤ d) {h : aH} {c : Nat} (ci : CI h c) {S : aS} (xt : XT h c S) (ok : OkT S) (xn : XN (hV h) c S) (okn : OkN S) (tx : ∀ i < 12, hT h (w i) = (8, i)) (a : Int) (b : Int) : WP w d 205 [aO (some c), aI 3, aI a, aI b] h (RI (fun r h1 => FX h h1 c (thT c) ∧ r = (if isAS S 112 a ∧ isAS S 112 b then keepP S 0 (p_middle_O (tpT S a) (tpT S b)) else (-1, S)).1 ∧ XT h1 c (if isAS S 112 a ∧ isAS S 112 b then keepP S 0 (p_middle_O (tpT S a) (tpT S b)) else (-1, S)).2)) := by
  obtain ⟨d, rfl⟩ : ∃ d1, d = d1 + 1 := ⟨d - 1, by omega⟩
  refine WP.enter (cd := cd_X11_step) rfl ?_
  have G0 := Gr.refl ci
  have hls : largs 0 [aO (some c), aI 3, aI a, aI b] = [(0, aO (some c)), (1, aI 3), (2, aI a), (3, aI b)] := rfl
  rw [hls]
  clear hls
  refine g_aload_n rfl rfl ?_
  refine g_ldcT rfl (by decide) ?_
  refine g_iload_n rfl rfl ?_
  refine g_callSI [aO (some (w 1)), aI 3] [aO (some c)] rfl rfl rfl rfl (Nat.le_of_ble_eq_true rfl) (x_sortAt (by omega) (tx 1 (by omega)) (by omega) 3) ?_
  rintro _ hq1 ⟨ehq1, rfl⟩
  rw [ehq1]
  clear ehq1 hq1
  refine g_top (v2 := aI 112) (congrArg aI (show chAt 1 3 = 112 by decide +kernel)) ?_
  refine g_iload_n rfl rfl ?_
  refine g_callVI [aI 112, aI a] [] rfl rfl rfl rfl (Nat.le_of_ble_eq_true rfl) (G0.cs.kd 0 (by omega) rfl) (x_isA (by omega) ci xt ok xn okn 112 a) ?_
  rintro _ hq2 ⟨ehq2, rfl⟩
  rw [ehq2]
  clear ehq2 hq2
  refine g_b_eq rfl (fun c11 => ?_) (fun c11 => ?_)
  · skip
    refine g_iconst rfl ?_
    refine g_iret rfl ?_
    first
      | (rw [if_neg (fun q => c11 q.1)]; exact ⟨FX.refl ci _, rfl, xt⟩)
      | (rw [if_neg (fun q => c25 q.2)]; exact ⟨FX.refl ci _, rfl, xt⟩)
  · skip
    refine g_aload_n rfl rfl ?_
    refine g_ldcT rfl (by decide) ?_
    refine g_iload_n rfl rfl ?_
    refine g_callSI [aO (some (w 2)), aI 3] [aO (some c)] rfl rfl rfl rfl (Nat.le_of_ble_eq_true rfl) (x_sortAt (by omega) (tx 2 (by omega)) (by omega) 3) ?_
    rintro _ hq3 ⟨ehq3, rfl⟩
    rw [ehq3]
    clear ehq3 hq3
    refine g_top (v2 := aI 112) (congrArg aI (show chAt 2 3 = 112 by decide +kernel)) ?_
    refine g_iload_n rfl rfl ?_
    refine g_callVI [aI 112, aI b] [] rfl rfl rfl rfl (Nat.le_of_ble_eq_true rfl) (G0.cs.kd 0 (by omega) rfl) (x_isA (by omega) ci xt ok xn okn 112 b) ?_
    rintro _ hq4 ⟨ehq4, rfl⟩
    rw [ehq4]
    clear ehq4 hq4
    refine g_b_ne rfl (fun c25 => ?_) (fun c25 => ?_)
    · skip
      refine g_aload_n rfl rfl ?_
      refine g_getR rfl (G0.cs.kd 0 (by omega) rfl) (G0.cs.rf 1 (by omega) rfl) ?_
      have u11 := c11
      unfold isAS at u11
      have u25 := c25
      unfold isAS at u25
      refine g_callVN [] [] rfl rfl rfl rfl (Nat.le_of_ble_eq_true rfl) (G0.cs.kd 1 (by omega) rfl) (x_reset (by omega) ci) ?_
      rintro _ rfl
      obtain ⟨h0, eh0⟩ : ∃ h0, h0 = hw h (vset (hV h) (c + 1) 1 0) := ⟨_, rfl⟩
      rw [← eh0]
      have ci0 := ci.reset
      have xt0 := xt.reset
      have xn0 := xn.reset
      rw [← eh0] at ci0 xt0 xn0
      have ht : hV h0 (c + 1) 1 ≤ 10 := by rw [eh0]; show vset _ _ _ _ _ _ ≤ _; rw [vset_eq]; omega
      clear ci xt xn
      have ci := ci0
      have xt := xt0
      have xn := xn0
      clear ci0 xt0 xn0
      have G0 := Gr.refl ci
      refine g_iload_n rfl rfl ?_
      refine g_bipush rfl ?_
      refine g_icmp_eq_f rfl (by omega) ?_
      refine g_iload_n rfl rfl ?_
      refine g_bipush rfl ?_
      refine g_icmp_ne_t rfl (by omega) ?_
      refine g_iload_n rfl rfl ?_
      refine g_callSI [aI 3] [] rfl rfl rfl rfl (Nat.le_of_ble_eq_true rfl) (x_gl3 (by omega) h0) ?_
      rintro _ hq ⟨ehq, rfl⟩
      rw [ehq]
      clear ehq hq
      refine g_if_eq_t rfl (by omega) ?_
      refine g_aload_n rfl rfl ?_
      refine g_getR rfl (G0.cs.kd 0 (by omega) rfl) (G0.cs.rf 11 (by omega) rfl) ?_
      refine g_iconst rfl ?_
      refine g_aload_n rfl rfl ?_
      refine g_iload_n rfl rfl ?_
      refine g_iload_n rfl rfl ?_
      refine g_iload_n rfl rfl ?_
      refine g_callVO [aI 3, aI a, aI b] [aI 0, aO (some (c + 7))] rfl rfl rfl rfl (Nat.le_of_ble_eq_true rfl) (G0.cs.kd 0 (by omega) rfl) (f_pt3 (by omega) G0.ci xt ok xn okn a (by omega) b (by omega)) ?_
      rintro r5 h5 ⟨g5, q5⟩
      have G5 := G0.trans g5
      refine g_callVI [aI 0, aO r5] [] rfl rfl rfl rfl (Nat.le_of_ble_eq_true rfl) (G5.cs.kd 7 (by omega) rfl) (t_keepO (by omega) G5.ci (g5.xt G0.ci xt) ok 0 q5 (by omega)) ?_
      rintro r9 h9 ⟨kt9, er9, xt9⟩
      refine g_iret rfl ?_
      rw [if_pos ⟨c11, c25⟩]
      exact ⟨(kt9.gr G5).fx eh0 (by omega), er9, xt9⟩
    · skip
      refine g_iconst rfl ?_
      refine g_iret rfl ?_
      first
        | (rw [if_neg (fun q => c11 q.1)]; exact ⟨FX.refl ci _, rfl, xt⟩)
        | (rw [if_neg (fun q => c25 q.2)]; exact ⟨FX.refl ci _, rfl, xt⟩)
theorem x_gl4 {w : aW} {d : Nat} (hd : 1 ≤ d) (h : aH) : WP w d 227 [aI 4] h (RI (fun r h1 => h1 = h ∧ r = 0)) := by
  obtain ⟨d, rfl⟩ : ∃ d1, d = d1 + 1 := ⟨d - 1, by omega⟩
  refine WP.enter (cd := cd_X11_givesLine) rfl ?_
  have hls : largs 0 [aI 4] = [(0, aI 4)] := rfl
  rw [hls]
  clear hls
  refine g_iload_n rfl rfl ?_
  refine g_iconst rfl ?_
  refine g_icmp_eq_f rfl (by omega) ?_
  refine g_iload_n rfl rfl ?_
  refine g_iconst rfl ?_
  refine g_icmp_eq_f rfl (by omega) ?_
  refine g_iload_n rfl rfl ?_
  refine g_bipush rfl ?_
  refine g_icmp_eq_f rfl (by omega) ?_
  refine g_iload_n rfl rfl ?_
  refine g_bipush rfl ?_
  refine g_icmp_eq_f rfl (by omega) ?_
  refine g_iload_n rfl rfl ?_
  refine g_bipush rfl ?_
  refine g_icmp_eq_f rfl (by omega) ?_
  refine g_iload_n rfl rfl ?_
  refine g_bipush rfl ?_
  refine g_icmp_lt_t rfl (by omega) ?_
  refine g_iconst rfl ?_
  refine g_zret rfl (by omega) ?_
  exact ⟨rfl, rfl⟩
set_option maxHeartbeats 4000000 in
theorem x_step4 {w : aW} {d : Nat} (hd : 10 ≤ d) {h : aH} {c : Nat} (ci : CI h c) {S : aS} (xt : XT h c S) (ok : OkT S) (xn : XN (hV h) c S) (okn : OkN S) (tx : ∀ i < 12, hT h (w i) = (8, i)) (a : Int) (b : Int) : WP w d 205 [aO (some c), aI 4, aI a, aI b] h (RI (fun r h1 => FX h h1 c (thT c) ∧ r = (if isAS S 112 a ∧ isAS S 108 b then keepP S 0 (p_foot_O (tpT S a) (tpT S b)) else (-1, S)).1 ∧ XT h1 c (if isAS S 112 a ∧ isAS S 108 b then keepP S 0 (p_foot_O (tpT S a) (tpT S b)) else (-1, S)).2)) := by
  obtain ⟨d, rfl⟩ : ∃ d1, d = d1 + 1 := ⟨d - 1, by omega⟩
  refine WP.enter (cd := cd_X11_step) rfl ?_
  have G0 := Gr.refl ci
  have hls : largs 0 [aO (some c), aI 4, aI a, aI b] = [(0, aO (some c)), (1, aI 4), (2, aI a), (3, aI b)] := rfl
  rw [hls]
  clear hls
  refine g_aload_n rfl rfl ?_
  refine g_ldcT rfl (by decide) ?_
  refine g_iload_n rfl rfl ?_
  refine g_callSI [aO (some (w 1)), aI 4] [aO (some c)] rfl rfl rfl rfl (Nat.le_of_ble_eq_true rfl) (x_sortAt (by omega) (tx 1 (by omega)) (by omega) 4) ?_
  rintro _ hq1 ⟨ehq1, rfl⟩
  rw [ehq1]
  clear ehq1 hq1
  refine g_top (v2 := aI 112) (congrArg aI (show chAt 1 4 = 112 by decide +kernel)) ?_
  refine g_iload_n rfl rfl ?_
  refine g_callVI [aI 112, aI a] [] rfl rfl rfl rfl (Nat.le_of_ble_eq_true rfl) (G0.cs.kd 0 (by omega) rfl) (x_isA (by omega) ci xt ok xn okn 112 a) ?_
  rintro _ hq2 ⟨ehq2, rfl⟩
  rw [ehq2]
  clear ehq2 hq2
  refine g_b_eq rfl (fun c11 => ?_) (fun c11 => ?_)
  · skip
    refine g_iconst rfl ?_
    refine g_iret rfl ?_
    first
      | (rw [if_neg (fun q => c11 q.1)]; exact ⟨FX.refl ci _, rfl, xt⟩)
      | (rw [if_neg (fun q => c25 q.2)]; exact ⟨FX.refl ci _, rfl, xt⟩)
  · skip
    refine g_aload_n rfl rfl ?_
    refine g_ldcT rfl (by decide) ?_
    refine g_iload_n rfl rfl ?_
    refine g_callSI [aO (some (w 2)), aI 4] [aO (some c)] rfl rfl rfl rfl (Nat.le_of_ble_eq_true rfl) (x_sortAt (by omega) (tx 2 (by omega)) (by omega) 4) ?_
    rintro _ hq3 ⟨ehq3, rfl⟩
    rw [ehq3]
    clear ehq3 hq3
    refine g_top (v2 := aI 108) (congrArg aI (show chAt 2 4 = 108 by decide +kernel)) ?_
    refine g_iload_n rfl rfl ?_
    refine g_callVI [aI 108, aI b] [] rfl rfl rfl rfl (Nat.le_of_ble_eq_true rfl) (G0.cs.kd 0 (by omega) rfl) (x_isA (by omega) ci xt ok xn okn 108 b) ?_
    rintro _ hq4 ⟨ehq4, rfl⟩
    rw [ehq4]
    clear ehq4 hq4
    refine g_b_ne rfl (fun c25 => ?_) (fun c25 => ?_)
    · skip
      refine g_aload_n rfl rfl ?_
      refine g_getR rfl (G0.cs.kd 0 (by omega) rfl) (G0.cs.rf 1 (by omega) rfl) ?_
      have u11 := c11
      unfold isAS at u11
      have u25 := c25
      unfold isAS at u25
      refine g_callVN [] [] rfl rfl rfl rfl (Nat.le_of_ble_eq_true rfl) (G0.cs.kd 1 (by omega) rfl) (x_reset (by omega) ci) ?_
      rintro _ rfl
      obtain ⟨h0, eh0⟩ : ∃ h0, h0 = hw h (vset (hV h) (c + 1) 1 0) := ⟨_, rfl⟩
      rw [← eh0]
      have ci0 := ci.reset
      have xt0 := xt.reset
      have xn0 := xn.reset
      rw [← eh0] at ci0 xt0 xn0
      have ht : hV h0 (c + 1) 1 ≤ 10 := by rw [eh0]; show vset _ _ _ _ _ _ ≤ _; rw [vset_eq]; omega
      clear ci xt xn
      have ci := ci0
      have xt := xt0
      have xn := xn0
      clear ci0 xt0 xn0
      have G0 := Gr.refl ci
      refine g_iload_n rfl rfl ?_
      refine g_bipush rfl ?_
      refine g_icmp_eq_f rfl (by omega) ?_
      refine g_iload_n rfl rfl ?_
      refine g_bipush rfl ?_
      refine g_icmp_ne_t rfl (by omega) ?_
      refine g_iload_n rfl rfl ?_
      refine g_callSI [aI 4] [] rfl rfl rfl rfl (Nat.le_of_ble_eq_true rfl) (x_gl4 (by omega) h0) ?_
      rintro _ hq ⟨ehq, rfl⟩
      rw [ehq]
      clear ehq hq
      refine g_if_eq_t rfl (by omega) ?_
      refine g_aload_n rfl rfl ?_
      refine g_getR rfl (G0.cs.kd 0 (by omega) rfl) (G0.cs.rf 11 (by omega) rfl) ?_
      refine g_iconst rfl ?_
      refine g_aload_n rfl rfl ?_
      refine g_iload_n rfl rfl ?_
      refine g_iload_n rfl rfl ?_
      refine g_iload_n rfl rfl ?_
      refine g_callVO [aI 4, aI a, aI b] [aI 0, aO (some (c + 7))] rfl rfl rfl rfl (Nat.le_of_ble_eq_true rfl) (G0.cs.kd 0 (by omega) rfl) (f_pt4 (by omega) G0.ci xt ok xn okn a (by omega) b (by omega)) ?_
      rintro r5 h5 ⟨g5, q5⟩
      have G5 := G0.trans g5
      refine g_callVI [aI 0, aO r5] [] rfl rfl rfl rfl (Nat.le_of_ble_eq_true rfl) (G5.cs.kd 7 (by omega) rfl) (t_keepO (by omega) G5.ci (g5.xt G0.ci xt) ok 0 q5 (by omega)) ?_
      rintro r9 h9 ⟨kt9, er9, xt9⟩
      refine g_iret rfl ?_
      rw [if_pos ⟨c11, c25⟩]
      exact ⟨(kt9.gr G5).fx eh0 (by omega), er9, xt9⟩
    · skip
      refine g_iconst rfl ?_
      refine g_iret rfl ?_
      first
        | (rw [if_neg (fun q => c11 q.1)]; exact ⟨FX.refl ci _, rfl, xt⟩)
        | (rw [if_neg (fun q => c25 q.2)]; exact ⟨FX.refl ci _, rfl, xt⟩)
theorem x_gl5 {w : aW} {d : Nat} (hd : 1 ≤ d) (h : aH) : WP w d 227 [aI 5] h (RI (fun r h1 => h1 = h ∧ r = 1)) := by
  obtain ⟨d, rfl⟩ : ∃ d1, d = d1 + 1 := ⟨d - 1, by omega⟩
  refine WP.enter (cd := cd_X11_givesLine) rfl ?_
  have hls : largs 0 [aI 5] = [(0, aI 5)] := rfl
  rw [hls]
  clear hls
  refine g_iload_n rfl rfl ?_
  refine g_iconst rfl ?_
  refine g_icmp_eq_f rfl (by omega) ?_
  refine g_iload_n rfl rfl ?_
  refine g_iconst rfl ?_
  refine g_icmp_eq_t rfl (by omega) ?_
  refine g_iconst rfl ?_
  refine g_goto rfl ?_
  refine g_zret rfl (by omega) ?_
  exact ⟨rfl, rfl⟩
set_option maxHeartbeats 4000000 in
theorem x_step5 {w : aW} {d : Nat} (hd : 10 ≤ d) {h : aH} {c : Nat} (ci : CI h c) {S : aS} (xt : XT h c S) (ok : OkT S) (xn : XN (hV h) c S) (okn : OkN S) (tx : ∀ i < 12, hT h (w i) = (8, i)) (a : Int) (b : Int) : WP w d 205 [aO (some c), aI 5, aI a, aI b] h (RI (fun r h1 => FX h h1 c (thT c) ∧ r = (if isAS S 112 a ∧ isAS S 108 b then keepP S 1 (p_along_O (tpT S a) (tpT S b)) else (-1, S)).1 ∧ XT h1 c (if isAS S 112 a ∧ isAS S 108 b then keepP S 1 (p_along_O (tpT S a) (tpT S b)) else (-1, S)).2)) := by
  obtain ⟨d, rfl⟩ : ∃ d1, d = d1 + 1 := ⟨d - 1, by omega⟩
  refine WP.enter (cd := cd_X11_step) rfl ?_
  have G0 := Gr.refl ci
  have hls : largs 0 [aO (some c), aI 5, aI a, aI b] = [(0, aO (some c)), (1, aI 5), (2, aI a), (3, aI b)] := rfl
  rw [hls]
  clear hls
  refine g_aload_n rfl rfl ?_
  refine g_ldcT rfl (by decide) ?_
  refine g_iload_n rfl rfl ?_
  refine g_callSI [aO (some (w 1)), aI 5] [aO (some c)] rfl rfl rfl rfl (Nat.le_of_ble_eq_true rfl) (x_sortAt (by omega) (tx 1 (by omega)) (by omega) 5) ?_
  rintro _ hq1 ⟨ehq1, rfl⟩
  rw [ehq1]
  clear ehq1 hq1
  refine g_top (v2 := aI 112) (congrArg aI (show chAt 1 5 = 112 by decide +kernel)) ?_
  refine g_iload_n rfl rfl ?_
  refine g_callVI [aI 112, aI a] [] rfl rfl rfl rfl (Nat.le_of_ble_eq_true rfl) (G0.cs.kd 0 (by omega) rfl) (x_isA (by omega) ci xt ok xn okn 112 a) ?_
  rintro _ hq2 ⟨ehq2, rfl⟩
  rw [ehq2]
  clear ehq2 hq2
  refine g_b_eq rfl (fun c11 => ?_) (fun c11 => ?_)
  · skip
    refine g_iconst rfl ?_
    refine g_iret rfl ?_
    first
      | (rw [if_neg (fun q => c11 q.1)]; exact ⟨FX.refl ci _, rfl, xt⟩)
      | (rw [if_neg (fun q => c25 q.2)]; exact ⟨FX.refl ci _, rfl, xt⟩)
  · skip
    refine g_aload_n rfl rfl ?_
    refine g_ldcT rfl (by decide) ?_
    refine g_iload_n rfl rfl ?_
    refine g_callSI [aO (some (w 2)), aI 5] [aO (some c)] rfl rfl rfl rfl (Nat.le_of_ble_eq_true rfl) (x_sortAt (by omega) (tx 2 (by omega)) (by omega) 5) ?_
    rintro _ hq3 ⟨ehq3, rfl⟩
    rw [ehq3]
    clear ehq3 hq3
    refine g_top (v2 := aI 108) (congrArg aI (show chAt 2 5 = 108 by decide +kernel)) ?_
    refine g_iload_n rfl rfl ?_
    refine g_callVI [aI 108, aI b] [] rfl rfl rfl rfl (Nat.le_of_ble_eq_true rfl) (G0.cs.kd 0 (by omega) rfl) (x_isA (by omega) ci xt ok xn okn 108 b) ?_
    rintro _ hq4 ⟨ehq4, rfl⟩
    rw [ehq4]
    clear ehq4 hq4
    refine g_b_ne rfl (fun c25 => ?_) (fun c25 => ?_)
    · skip
      refine g_aload_n rfl rfl ?_
      refine g_getR rfl (G0.cs.kd 0 (by omega) rfl) (G0.cs.rf 1 (by omega) rfl) ?_
      have u11 := c11
      unfold isAS at u11
      have u25 := c25
      unfold isAS at u25
      refine g_callVN [] [] rfl rfl rfl rfl (Nat.le_of_ble_eq_true rfl) (G0.cs.kd 1 (by omega) rfl) (x_reset (by omega) ci) ?_
      rintro _ rfl
      obtain ⟨h0, eh0⟩ : ∃ h0, h0 = hw h (vset (hV h) (c + 1) 1 0) := ⟨_, rfl⟩
      rw [← eh0]
      have ci0 := ci.reset
      have xt0 := xt.reset
      have xn0 := xn.reset
      rw [← eh0] at ci0 xt0 xn0
      have ht : hV h0 (c + 1) 1 ≤ 10 := by rw [eh0]; show vset _ _ _ _ _ _ ≤ _; rw [vset_eq]; omega
      clear ci xt xn
      have ci := ci0
      have xt := xt0
      have xn := xn0
      clear ci0 xt0 xn0
      have G0 := Gr.refl ci
      refine g_iload_n rfl rfl ?_
      refine g_bipush rfl ?_
      refine g_icmp_eq_f rfl (by omega) ?_
      refine g_iload_n rfl rfl ?_
      refine g_bipush rfl ?_
      refine g_icmp_ne_t rfl (by omega) ?_
      refine g_iload_n rfl rfl ?_
      refine g_callSI [aI 5] [] rfl rfl rfl rfl (Nat.le_of_ble_eq_true rfl) (x_gl5 (by omega) h0) ?_
      rintro _ hq ⟨ehq, rfl⟩
      rw [ehq]
      clear ehq hq
      refine g_if_eq_f rfl (by omega) ?_
      refine g_aload_n rfl rfl ?_
      refine g_getR rfl (G0.cs.kd 0 (by omega) rfl) (G0.cs.rf 11 (by omega) rfl) ?_
      refine g_iconst rfl ?_
      refine g_aload_n rfl rfl ?_
      refine g_iload_n rfl rfl ?_
      refine g_iload_n rfl rfl ?_
      refine g_iload_n rfl rfl ?_
      refine g_callVO [aI 5, aI a, aI b] [aI 1, aO (some (c + 7))] rfl rfl rfl rfl (Nat.le_of_ble_eq_true rfl) (G0.cs.kd 0 (by omega) rfl) (f_ln5 (by omega) G0.ci xt ok xn okn a (by omega) b (by omega)) ?_
      rintro r5 h5 ⟨g5, q5⟩
      have G5 := G0.trans g5
      refine g_callVI [aI 1, aO r5] [] rfl rfl rfl rfl (Nat.le_of_ble_eq_true rfl) (G5.cs.kd 7 (by omega) rfl) (t_keepO (by omega) G5.ci (g5.xt G0.ci xt) ok 1 q5 (by omega)) ?_
      rintro r9 h9 ⟨kt9, er9, xt9⟩
      refine g_iret rfl ?_
      rw [if_pos ⟨c11, c25⟩]
      exact ⟨(kt9.gr G5).fx eh0 (by omega), er9, xt9⟩
    · skip
      refine g_iconst rfl ?_
      refine g_iret rfl ?_
      first
        | (rw [if_neg (fun q => c11 q.1)]; exact ⟨FX.refl ci _, rfl, xt⟩)
        | (rw [if_neg (fun q => c25 q.2)]; exact ⟨FX.refl ci _, rfl, xt⟩)
theorem x_gl6 {w : aW} {d : Nat} (hd : 1 ≤ d) (h : aH) : WP w d 227 [aI 6] h (RI (fun r h1 => h1 = h ∧ r = 1)) := by
  obtain ⟨d, rfl⟩ : ∃ d1, d = d1 + 1 := ⟨d - 1, by omega⟩
  refine WP.enter (cd := cd_X11_givesLine) rfl ?_
  have hls : largs 0 [aI 6] = [(0, aI 6)] := rfl
  rw [hls]
  clear hls
  refine g_iload_n rfl rfl ?_
  refine g_iconst rfl ?_
  refine g_icmp_eq_f rfl (by omega) ?_
  refine g_iload_n rfl rfl ?_
  refine g_iconst rfl ?_
  refine g_icmp_eq_f rfl (by omega) ?_
  refine g_iload_n rfl rfl ?_
  refine g_bipush rfl ?_
  refine g_icmp_eq_t rfl (by omega) ?_
  refine g_iconst rfl ?_
  refine g_goto rfl ?_
  refine g_zret rfl (by omega) ?_
  exact ⟨rfl, rfl⟩
set_option maxHeartbeats 4000000 in
theorem x_step6 {w : aW} {d : Nat} (hd : 10 ≤ d) {h : aH} {c : Nat} (ci : CI h c) {S : aS} (xt : XT h c S) (ok : OkT S) (xn : XN (hV h) c S) (okn : OkN S) (tx : ∀ i < 12, hT h (w i) = (8, i)) (a : Int) (b : Int) : WP w d 205 [aO (some c), aI 6, aI a, aI b] h (RI (fun r h1 => FX h h1 c (thT c) ∧ r = (if isAS S 112 a ∧ isAS S 108 b then keepP S 1 (p_across_O (tpT S a) (tpT S b)) else (-1, S)).1 ∧ XT h1 c (if isAS S 112 a ∧ isAS S 108 b then keepP S 1 (p_across_O (tpT S a) (tpT S b)) else (-1, S)).2)) := by
  obtain ⟨d, rfl⟩ : ∃ d1, d = d1 + 1 := ⟨d - 1, by omega⟩
  refine WP.enter (cd := cd_X11_step) rfl ?_
  have G0 := Gr.refl ci
  have hls : largs 0 [aO (some c), aI 6, aI a, aI b] = [(0, aO (some c)), (1, aI 6), (2, aI a), (3, aI b)] := rfl
  rw [hls]
  clear hls
  refine g_aload_n rfl rfl ?_
  refine g_ldcT rfl (by decide) ?_
  refine g_iload_n rfl rfl ?_
  refine g_callSI [aO (some (w 1)), aI 6] [aO (some c)] rfl rfl rfl rfl (Nat.le_of_ble_eq_true rfl) (x_sortAt (by omega) (tx 1 (by omega)) (by omega) 6) ?_
  rintro _ hq1 ⟨ehq1, rfl⟩
  rw [ehq1]
  clear ehq1 hq1
  refine g_top (v2 := aI 112) (congrArg aI (show chAt 1 6 = 112 by decide +kernel)) ?_
  refine g_iload_n rfl rfl ?_
  refine g_callVI [aI 112, aI a] [] rfl rfl rfl rfl (Nat.le_of_ble_eq_true rfl) (G0.cs.kd 0 (by omega) rfl) (x_isA (by omega) ci xt ok xn okn 112 a) ?_
  rintro _ hq2 ⟨ehq2, rfl⟩
  rw [ehq2]
  clear ehq2 hq2
  refine g_b_eq rfl (fun c11 => ?_) (fun c11 => ?_)
  · skip
    refine g_iconst rfl ?_
    refine g_iret rfl ?_
    first
      | (rw [if_neg (fun q => c11 q.1)]; exact ⟨FX.refl ci _, rfl, xt⟩)
      | (rw [if_neg (fun q => c25 q.2)]; exact ⟨FX.refl ci _, rfl, xt⟩)
  · skip
    refine g_aload_n rfl rfl ?_
    refine g_ldcT rfl (by decide) ?_
    refine g_iload_n rfl rfl ?_
    refine g_callSI [aO (some (w 2)), aI 6] [aO (some c)] rfl rfl rfl rfl (Nat.le_of_ble_eq_true rfl) (x_sortAt (by omega) (tx 2 (by omega)) (by omega) 6) ?_
    rintro _ hq3 ⟨ehq3, rfl⟩
    rw [ehq3]
    clear ehq3 hq3
    refine g_top (v2 := aI 108) (congrArg aI (show chAt 2 6 = 108 by decide +kernel)) ?_
    refine g_iload_n rfl rfl ?_
    refine g_callVI [aI 108, aI b] [] rfl rfl rfl rfl (Nat.le_of_ble_eq_true rfl) (G0.cs.kd 0 (by omega) rfl) (x_isA (by omega) ci xt ok xn okn 108 b) ?_
    rintro _ hq4 ⟨ehq4, rfl⟩
    rw [ehq4]
    clear ehq4 hq4
    refine g_b_ne rfl (fun c25 => ?_) (fun c25 => ?_)
    · skip
      refine g_aload_n rfl rfl ?_
      refine g_getR rfl (G0.cs.kd 0 (by omega) rfl) (G0.cs.rf 1 (by omega) rfl) ?_
      have u11 := c11
      unfold isAS at u11
      have u25 := c25
      unfold isAS at u25
      refine g_callVN [] [] rfl rfl rfl rfl (Nat.le_of_ble_eq_true rfl) (G0.cs.kd 1 (by omega) rfl) (x_reset (by omega) ci) ?_
      rintro _ rfl
      obtain ⟨h0, eh0⟩ : ∃ h0, h0 = hw h (vset (hV h) (c + 1) 1 0) := ⟨_, rfl⟩
      rw [← eh0]
      have ci0 := ci.reset
      have xt0 := xt.reset
      have xn0 := xn.reset
      rw [← eh0] at ci0 xt0 xn0
      have ht : hV h0 (c + 1) 1 ≤ 10 := by rw [eh0]; show vset _ _ _ _ _ _ ≤ _; rw [vset_eq]; omega
      clear ci xt xn
      have ci := ci0
      have xt := xt0
      have xn := xn0
      clear ci0 xt0 xn0
      have G0 := Gr.refl ci
      refine g_iload_n rfl rfl ?_
      refine g_bipush rfl ?_
      refine g_icmp_eq_f rfl (by omega) ?_
      refine g_iload_n rfl rfl ?_
      refine g_bipush rfl ?_
      refine g_icmp_ne_t rfl (by omega) ?_
      refine g_iload_n rfl rfl ?_
      refine g_callSI [aI 6] [] rfl rfl rfl rfl (Nat.le_of_ble_eq_true rfl) (x_gl6 (by omega) h0) ?_
      rintro _ hq ⟨ehq, rfl⟩
      rw [ehq]
      clear ehq hq
      refine g_if_eq_f rfl (by omega) ?_
      refine g_aload_n rfl rfl ?_
      refine g_getR rfl (G0.cs.kd 0 (by omega) rfl) (G0.cs.rf 11 (by omega) rfl) ?_
      refine g_iconst rfl ?_
      refine g_aload_n rfl rfl ?_
      refine g_iload_n rfl rfl ?_
      refine g_iload_n rfl rfl ?_
      refine g_iload_n rfl rfl ?_
      refine g_callVO [aI 6, aI a, aI b] [aI 1, aO (some (c + 7))] rfl rfl rfl rfl (Nat.le_of_ble_eq_true rfl) (G0.cs.kd 0 (by omega) rfl) (f_ln6 (by omega) G0.ci xt ok xn okn a (by omega) b (by omega)) ?_
      rintro r5 h5 ⟨g5, q5⟩
      have G5 := G0.trans g5
      refine g_callVI [aI 1, aO r5] [] rfl rfl rfl rfl (Nat.le_of_ble_eq_true rfl) (G5.cs.kd 7 (by omega) rfl) (t_keepO (by omega) G5.ci (g5.xt G0.ci xt) ok 1 q5 (by omega)) ?_
      rintro r9 h9 ⟨kt9, er9, xt9⟩
      refine g_iret rfl ?_
      rw [if_pos ⟨c11, c25⟩]
      exact ⟨(kt9.gr G5).fx eh0 (by omega), er9, xt9⟩
    · skip
      refine g_iconst rfl ?_
      refine g_iret rfl ?_
      first
        | (rw [if_neg (fun q => c11 q.1)]; exact ⟨FX.refl ci _, rfl, xt⟩)
        | (rw [if_neg (fun q => c25 q.2)]; exact ⟨FX.refl ci _, rfl, xt⟩)
theorem x_gl7 {w : aW} {d : Nat} (hd : 1 ≤ d) (h : aH) : WP w d 227 [aI 7] h (RI (fun r h1 => h1 = h ∧ r = 0)) := by
  obtain ⟨d, rfl⟩ : ∃ d1, d = d1 + 1 := ⟨d - 1, by omega⟩
  refine WP.enter (cd := cd_X11_givesLine) rfl ?_
  have hls : largs 0 [aI 7] = [(0, aI 7)] := rfl
  rw [hls]
  clear hls
  refine g_iload_n rfl rfl ?_
  refine g_iconst rfl ?_
  refine g_icmp_eq_f rfl (by omega) ?_
  refine g_iload_n rfl rfl ?_
  refine g_iconst rfl ?_
  refine g_icmp_eq_f rfl (by omega) ?_
  refine g_iload_n rfl rfl ?_
  refine g_bipush rfl ?_
  refine g_icmp_eq_f rfl (by omega) ?_
  refine g_iload_n rfl rfl ?_
  refine g_bipush rfl ?_
  refine g_icmp_eq_f rfl (by omega) ?_
  refine g_iload_n rfl rfl ?_
  refine g_bipush rfl ?_
  refine g_icmp_eq_f rfl (by omega) ?_
  refine g_iload_n rfl rfl ?_
  refine g_bipush rfl ?_
  refine g_icmp_lt_t rfl (by omega) ?_
  refine g_iconst rfl ?_
  refine g_zret rfl (by omega) ?_
  exact ⟨rfl, rfl⟩
set_option maxHeartbeats 4000000 in
theorem x_step7 {w : aW} {d : Nat} (hd : 10 ≤ d) {h : aH} {c : Nat} (ci : CI h c) {S : aS} (xt : XT h c S) (ok : OkT S) (xn : XN (hV h) c S) (okn : OkN S) (tx : ∀ i < 12, hT h (w i) = (8, i)) (a : Int) (b : Int) : WP w d 205 [aO (some c), aI 7, aI a, aI b] h (RI (fun r h1 => FX h h1 c (thT c) ∧ r = (if isAS S 112 a ∧ isAS S 108 b then keepP S 0 (p_mirr_O (tpT S a) (tpT S b)) else (-1, S)).1 ∧ XT h1 c (if isAS S 112 a ∧ isAS S 108 b then keepP S 0 (p_mirr_O (tpT S a) (tpT S b)) else (-1, S)).2)) := by
  obtain ⟨d, rfl⟩ : ∃ d1, d = d1 + 1 := ⟨d - 1, by omega⟩
  refine WP.enter (cd := cd_X11_step) rfl ?_
  have G0 := Gr.refl ci
  have hls : largs 0 [aO (some c), aI 7, aI a, aI b] = [(0, aO (some c)), (1, aI 7), (2, aI a), (3, aI b)] := rfl
  rw [hls]
  clear hls
  refine g_aload_n rfl rfl ?_
  refine g_ldcT rfl (by decide) ?_
  refine g_iload_n rfl rfl ?_
  refine g_callSI [aO (some (w 1)), aI 7] [aO (some c)] rfl rfl rfl rfl (Nat.le_of_ble_eq_true rfl) (x_sortAt (by omega) (tx 1 (by omega)) (by omega) 7) ?_
  rintro _ hq1 ⟨ehq1, rfl⟩
  rw [ehq1]
  clear ehq1 hq1
  refine g_top (v2 := aI 112) (congrArg aI (show chAt 1 7 = 112 by decide +kernel)) ?_
  refine g_iload_n rfl rfl ?_
  refine g_callVI [aI 112, aI a] [] rfl rfl rfl rfl (Nat.le_of_ble_eq_true rfl) (G0.cs.kd 0 (by omega) rfl) (x_isA (by omega) ci xt ok xn okn 112 a) ?_
  rintro _ hq2 ⟨ehq2, rfl⟩
  rw [ehq2]
  clear ehq2 hq2
  refine g_b_eq rfl (fun c11 => ?_) (fun c11 => ?_)
  · skip
    refine g_iconst rfl ?_
    refine g_iret rfl ?_
    first
      | (rw [if_neg (fun q => c11 q.1)]; exact ⟨FX.refl ci _, rfl, xt⟩)
      | (rw [if_neg (fun q => c25 q.2)]; exact ⟨FX.refl ci _, rfl, xt⟩)
  · skip
    refine g_aload_n rfl rfl ?_
    refine g_ldcT rfl (by decide) ?_
    refine g_iload_n rfl rfl ?_
    refine g_callSI [aO (some (w 2)), aI 7] [aO (some c)] rfl rfl rfl rfl (Nat.le_of_ble_eq_true rfl) (x_sortAt (by omega) (tx 2 (by omega)) (by omega) 7) ?_
    rintro _ hq3 ⟨ehq3, rfl⟩
    rw [ehq3]
    clear ehq3 hq3
    refine g_top (v2 := aI 108) (congrArg aI (show chAt 2 7 = 108 by decide +kernel)) ?_
    refine g_iload_n rfl rfl ?_
    refine g_callVI [aI 108, aI b] [] rfl rfl rfl rfl (Nat.le_of_ble_eq_true rfl) (G0.cs.kd 0 (by omega) rfl) (x_isA (by omega) ci xt ok xn okn 108 b) ?_
    rintro _ hq4 ⟨ehq4, rfl⟩
    rw [ehq4]
    clear ehq4 hq4
    refine g_b_ne rfl (fun c25 => ?_) (fun c25 => ?_)
    · skip
      refine g_aload_n rfl rfl ?_
      refine g_getR rfl (G0.cs.kd 0 (by omega) rfl) (G0.cs.rf 1 (by omega) rfl) ?_
      have u11 := c11
      unfold isAS at u11
      have u25 := c25
      unfold isAS at u25
      refine g_callVN [] [] rfl rfl rfl rfl (Nat.le_of_ble_eq_true rfl) (G0.cs.kd 1 (by omega) rfl) (x_reset (by omega) ci) ?_
      rintro _ rfl
      obtain ⟨h0, eh0⟩ : ∃ h0, h0 = hw h (vset (hV h) (c + 1) 1 0) := ⟨_, rfl⟩
      rw [← eh0]
      have ci0 := ci.reset
      have xt0 := xt.reset
      have xn0 := xn.reset
      rw [← eh0] at ci0 xt0 xn0
      have ht : hV h0 (c + 1) 1 ≤ 10 := by rw [eh0]; show vset _ _ _ _ _ _ ≤ _; rw [vset_eq]; omega
      clear ci xt xn
      have ci := ci0
      have xt := xt0
      have xn := xn0
      clear ci0 xt0 xn0
      have G0 := Gr.refl ci
      refine g_iload_n rfl rfl ?_
      refine g_bipush rfl ?_
      refine g_icmp_eq_f rfl (by omega) ?_
      refine g_iload_n rfl rfl ?_
      refine g_bipush rfl ?_
      refine g_icmp_ne_t rfl (by omega) ?_
      refine g_iload_n rfl rfl ?_
      refine g_callSI [aI 7] [] rfl rfl rfl rfl (Nat.le_of_ble_eq_true rfl) (x_gl7 (by omega) h0) ?_
      rintro _ hq ⟨ehq, rfl⟩
      rw [ehq]
      clear ehq hq
      refine g_if_eq_t rfl (by omega) ?_
      refine g_aload_n rfl rfl ?_
      refine g_getR rfl (G0.cs.kd 0 (by omega) rfl) (G0.cs.rf 11 (by omega) rfl) ?_
      refine g_iconst rfl ?_
      refine g_aload_n rfl rfl ?_
      refine g_iload_n rfl rfl ?_
      refine g_iload_n rfl rfl ?_
      refine g_iload_n rfl rfl ?_
      refine g_callVO [aI 7, aI a, aI b] [aI 0, aO (some (c + 7))] rfl rfl rfl rfl (Nat.le_of_ble_eq_true rfl) (G0.cs.kd 0 (by omega) rfl) (f_pt7 (by omega) G0.ci xt ok xn okn a (by omega) b (by omega)) ?_
      rintro r5 h5 ⟨g5, q5⟩
      have G5 := G0.trans g5
      refine g_callVI [aI 0, aO r5] [] rfl rfl rfl rfl (Nat.le_of_ble_eq_true rfl) (G5.cs.kd 7 (by omega) rfl) (t_keepO (by omega) G5.ci (g5.xt G0.ci xt) ok 0 q5 (by omega)) ?_
      rintro r9 h9 ⟨kt9, er9, xt9⟩
      refine g_iret rfl ?_
      rw [if_pos ⟨c11, c25⟩]
      exact ⟨(kt9.gr G5).fx eh0 (by omega), er9, xt9⟩
    · skip
      refine g_iconst rfl ?_
      refine g_iret rfl ?_
      first
        | (rw [if_neg (fun q => c11 q.1)]; exact ⟨FX.refl ci _, rfl, xt⟩)
        | (rw [if_neg (fun q => c25 q.2)]; exact ⟨FX.refl ci _, rfl, xt⟩)
theorem x_gl8 {w : aW} {d : Nat} (hd : 1 ≤ d) (h : aH) : WP w d 227 [aI 8] h (RI (fun r h1 => h1 = h ∧ r = 0)) := by
  obtain ⟨d, rfl⟩ : ∃ d1, d = d1 + 1 := ⟨d - 1, by omega⟩
  refine WP.enter (cd := cd_X11_givesLine) rfl ?_
  have hls : largs 0 [aI 8] = [(0, aI 8)] := rfl
  rw [hls]
  clear hls
  refine g_iload_n rfl rfl ?_
  refine g_iconst rfl ?_
  refine g_icmp_eq_f rfl (by omega) ?_
  refine g_iload_n rfl rfl ?_
  refine g_iconst rfl ?_
  refine g_icmp_eq_f rfl (by omega) ?_
  refine g_iload_n rfl rfl ?_
  refine g_bipush rfl ?_
  refine g_icmp_eq_f rfl (by omega) ?_
  refine g_iload_n rfl rfl ?_
  refine g_bipush rfl ?_
  refine g_icmp_eq_f rfl (by omega) ?_
  refine g_iload_n rfl rfl ?_
  refine g_bipush rfl ?_
  refine g_icmp_eq_f rfl (by omega) ?_
  refine g_iload_n rfl rfl ?_
  refine g_bipush rfl ?_
  refine g_icmp_lt_t rfl (by omega) ?_
  refine g_iconst rfl ?_
  refine g_zret rfl (by omega) ?_
  exact ⟨rfl, rfl⟩
set_option maxHeartbeats 4000000 in
theorem x_step8 {w : aW} {d : Nat} (hd : 10 ≤ d) {h : aH} {c : Nat} (ci : CI h c) {S : aS} (xt : XT h c S) (ok : OkT S) (xn : XN (hV h) c S) (okn : OkN S) (tx : ∀ i < 12, hT h (w i) = (8, i)) (a : Int) (b : Int) : WP w d 205 [aO (some c), aI 8, aI a, aI b] h (RI (fun r h1 => FX h h1 c (thT c) ∧ r = (if isAS S 112 a ∧ isAS S 99 b then keepP S 0 (p_inv_O (tpT S a) (tpR S b)) else (-1, S)).1 ∧ XT h1 c (if isAS S 112 a ∧ isAS S 99 b then keepP S 0 (p_inv_O (tpT S a) (tpR S b)) else (-1, S)).2)) := by
  obtain ⟨d, rfl⟩ : ∃ d1, d = d1 + 1 := ⟨d - 1, by omega⟩
  refine WP.enter (cd := cd_X11_step) rfl ?_
  have G0 := Gr.refl ci
  have hls : largs 0 [aO (some c), aI 8, aI a, aI b] = [(0, aO (some c)), (1, aI 8), (2, aI a), (3, aI b)] := rfl
  rw [hls]
  clear hls
  refine g_aload_n rfl rfl ?_
  refine g_ldcT rfl (by decide) ?_
  refine g_iload_n rfl rfl ?_
  refine g_callSI [aO (some (w 1)), aI 8] [aO (some c)] rfl rfl rfl rfl (Nat.le_of_ble_eq_true rfl) (x_sortAt (by omega) (tx 1 (by omega)) (by omega) 8) ?_
  rintro _ hq1 ⟨ehq1, rfl⟩
  rw [ehq1]
  clear ehq1 hq1
  refine g_top (v2 := aI 112) (congrArg aI (show chAt 1 8 = 112 by decide +kernel)) ?_
  refine g_iload_n rfl rfl ?_
  refine g_callVI [aI 112, aI a] [] rfl rfl rfl rfl (Nat.le_of_ble_eq_true rfl) (G0.cs.kd 0 (by omega) rfl) (x_isA (by omega) ci xt ok xn okn 112 a) ?_
  rintro _ hq2 ⟨ehq2, rfl⟩
  rw [ehq2]
  clear ehq2 hq2
  refine g_b_eq rfl (fun c11 => ?_) (fun c11 => ?_)
  · skip
    refine g_iconst rfl ?_
    refine g_iret rfl ?_
    first
      | (rw [if_neg (fun q => c11 q.1)]; exact ⟨FX.refl ci _, rfl, xt⟩)
      | (rw [if_neg (fun q => c25 q.2)]; exact ⟨FX.refl ci _, rfl, xt⟩)
  · skip
    refine g_aload_n rfl rfl ?_
    refine g_ldcT rfl (by decide) ?_
    refine g_iload_n rfl rfl ?_
    refine g_callSI [aO (some (w 2)), aI 8] [aO (some c)] rfl rfl rfl rfl (Nat.le_of_ble_eq_true rfl) (x_sortAt (by omega) (tx 2 (by omega)) (by omega) 8) ?_
    rintro _ hq3 ⟨ehq3, rfl⟩
    rw [ehq3]
    clear ehq3 hq3
    refine g_top (v2 := aI 99) (congrArg aI (show chAt 2 8 = 99 by decide +kernel)) ?_
    refine g_iload_n rfl rfl ?_
    refine g_callVI [aI 99, aI b] [] rfl rfl rfl rfl (Nat.le_of_ble_eq_true rfl) (G0.cs.kd 0 (by omega) rfl) (x_isA (by omega) ci xt ok xn okn 99 b) ?_
    rintro _ hq4 ⟨ehq4, rfl⟩
    rw [ehq4]
    clear ehq4 hq4
    refine g_b_ne rfl (fun c25 => ?_) (fun c25 => ?_)
    · skip
      refine g_aload_n rfl rfl ?_
      refine g_getR rfl (G0.cs.kd 0 (by omega) rfl) (G0.cs.rf 1 (by omega) rfl) ?_
      have u11 := c11
      unfold isAS at u11
      have u25 := c25
      unfold isAS at u25
      refine g_callVN [] [] rfl rfl rfl rfl (Nat.le_of_ble_eq_true rfl) (G0.cs.kd 1 (by omega) rfl) (x_reset (by omega) ci) ?_
      rintro _ rfl
      obtain ⟨h0, eh0⟩ : ∃ h0, h0 = hw h (vset (hV h) (c + 1) 1 0) := ⟨_, rfl⟩
      rw [← eh0]
      have ci0 := ci.reset
      have xt0 := xt.reset
      have xn0 := xn.reset
      rw [← eh0] at ci0 xt0 xn0
      have ht : hV h0 (c + 1) 1 ≤ 10 := by rw [eh0]; show vset _ _ _ _ _ _ ≤ _; rw [vset_eq]; omega
      clear ci xt xn
      have ci := ci0
      have xt := xt0
      have xn := xn0
      clear ci0 xt0 xn0
      have G0 := Gr.refl ci
      refine g_iload_n rfl rfl ?_
      refine g_bipush rfl ?_
      refine g_icmp_eq_f rfl (by omega) ?_
      refine g_iload_n rfl rfl ?_
      refine g_bipush rfl ?_
      refine g_icmp_ne_t rfl (by omega) ?_
      refine g_iload_n rfl rfl ?_
      refine g_callSI [aI 8] [] rfl rfl rfl rfl (Nat.le_of_ble_eq_true rfl) (x_gl8 (by omega) h0) ?_
      rintro _ hq ⟨ehq, rfl⟩
      rw [ehq]
      clear ehq hq
      refine g_if_eq_t rfl (by omega) ?_
      refine g_aload_n rfl rfl ?_
      refine g_getR rfl (G0.cs.kd 0 (by omega) rfl) (G0.cs.rf 11 (by omega) rfl) ?_
      refine g_iconst rfl ?_
      refine g_aload_n rfl rfl ?_
      refine g_iload_n rfl rfl ?_
      refine g_iload_n rfl rfl ?_
      refine g_iload_n rfl rfl ?_
      refine g_callVO [aI 8, aI a, aI b] [aI 0, aO (some (c + 7))] rfl rfl rfl rfl (Nat.le_of_ble_eq_true rfl) (G0.cs.kd 0 (by omega) rfl) (f_pt8 (by omega) G0.ci xt ok xn okn a (by omega) b (by omega)) ?_
      rintro r5 h5 ⟨g5, q5⟩
      have G5 := G0.trans g5
      refine g_callVI [aI 0, aO r5] [] rfl rfl rfl rfl (Nat.le_of_ble_eq_true rfl) (G5.cs.kd 7 (by omega) rfl) (t_keepO (by omega) G5.ci (g5.xt G0.ci xt) ok 0 q5 (by omega)) ?_
      rintro r9 h9 ⟨kt9, er9, xt9⟩
      refine g_iret rfl ?_
      rw [if_pos ⟨c11, c25⟩]
      exact ⟨(kt9.gr G5).fx eh0 (by omega), er9, xt9⟩
    · skip
      refine g_iconst rfl ?_
      refine g_iret rfl ?_
      first
        | (rw [if_neg (fun q => c11 q.1)]; exact ⟨FX.refl ci _, rfl, xt⟩)
        | (rw [if_neg (fun q => c25 q.2)]; exact ⟨FX.refl ci _, rfl, xt⟩)
theorem x_gl9 {w : aW} {d : Nat} (hd : 1 ≤ d) (h : aH) : WP w d 227 [aI 9] h (RI (fun r h1 => h1 = h ∧ r = 1)) := by
  obtain ⟨d, rfl⟩ : ∃ d1, d = d1 + 1 := ⟨d - 1, by omega⟩
  refine WP.enter (cd := cd_X11_givesLine) rfl ?_
  have hls : largs 0 [aI 9] = [(0, aI 9)] := rfl
  rw [hls]
  clear hls
  refine g_iload_n rfl rfl ?_
  refine g_iconst rfl ?_
  refine g_icmp_eq_f rfl (by omega) ?_
  refine g_iload_n rfl rfl ?_
  refine g_iconst rfl ?_
  refine g_icmp_eq_f rfl (by omega) ?_
  refine g_iload_n rfl rfl ?_
  refine g_bipush rfl ?_
  refine g_icmp_eq_f rfl (by omega) ?_
  refine g_iload_n rfl rfl ?_
  refine g_bipush rfl ?_
  refine g_icmp_eq_t rfl (by omega) ?_
  refine g_iconst rfl ?_
  refine g_goto rfl ?_
  refine g_zret rfl (by omega) ?_
  exact ⟨rfl, rfl⟩
set_option maxHeartbeats 4000000 in
theorem x_step9 {w : aW} {d : Nat} (hd : 10 ≤ d) {h : aH} {c : Nat} (ci : CI h c) {S : aS} (xt : XT h c S) (ok : OkT S) (xn : XN (hV h) c S) (okn : OkN S) (tx : ∀ i < 12, hT h (w i) = (8, i)) (a : Int) (b : Int) : WP w d 205 [aO (some c), aI 9, aI a, aI b] h (RI (fun r h1 => FX h h1 c (thT c) ∧ r = (if isAS S 112 a ∧ isAS S 99 b then keepP S 1 (some (p_polar_S (tpT S a) (tpR S b))) else (-1, S)).1 ∧ XT h1 c (if isAS S 112 a ∧ isAS S 99 b then keepP S 1 (some (p_polar_S (tpT S a) (tpR S b))) else (-1, S)).2)) := by
  obtain ⟨d, rfl⟩ : ∃ d1, d = d1 + 1 := ⟨d - 1, by omega⟩
  refine WP.enter (cd := cd_X11_step) rfl ?_
  have G0 := Gr.refl ci
  have hls : largs 0 [aO (some c), aI 9, aI a, aI b] = [(0, aO (some c)), (1, aI 9), (2, aI a), (3, aI b)] := rfl
  rw [hls]
  clear hls
  refine g_aload_n rfl rfl ?_
  refine g_ldcT rfl (by decide) ?_
  refine g_iload_n rfl rfl ?_
  refine g_callSI [aO (some (w 1)), aI 9] [aO (some c)] rfl rfl rfl rfl (Nat.le_of_ble_eq_true rfl) (x_sortAt (by omega) (tx 1 (by omega)) (by omega) 9) ?_
  rintro _ hq1 ⟨ehq1, rfl⟩
  rw [ehq1]
  clear ehq1 hq1
  refine g_top (v2 := aI 112) (congrArg aI (show chAt 1 9 = 112 by decide +kernel)) ?_
  refine g_iload_n rfl rfl ?_
  refine g_callVI [aI 112, aI a] [] rfl rfl rfl rfl (Nat.le_of_ble_eq_true rfl) (G0.cs.kd 0 (by omega) rfl) (x_isA (by omega) ci xt ok xn okn 112 a) ?_
  rintro _ hq2 ⟨ehq2, rfl⟩
  rw [ehq2]
  clear ehq2 hq2
  refine g_b_eq rfl (fun c11 => ?_) (fun c11 => ?_)
  · skip
    refine g_iconst rfl ?_
    refine g_iret rfl ?_
    first
      | (rw [if_neg (fun q => c11 q.1)]; exact ⟨FX.refl ci _, rfl, xt⟩)
      | (rw [if_neg (fun q => c25 q.2)]; exact ⟨FX.refl ci _, rfl, xt⟩)
  · skip
    refine g_aload_n rfl rfl ?_
    refine g_ldcT rfl (by decide) ?_
    refine g_iload_n rfl rfl ?_
    refine g_callSI [aO (some (w 2)), aI 9] [aO (some c)] rfl rfl rfl rfl (Nat.le_of_ble_eq_true rfl) (x_sortAt (by omega) (tx 2 (by omega)) (by omega) 9) ?_
    rintro _ hq3 ⟨ehq3, rfl⟩
    rw [ehq3]
    clear ehq3 hq3
    refine g_top (v2 := aI 99) (congrArg aI (show chAt 2 9 = 99 by decide +kernel)) ?_
    refine g_iload_n rfl rfl ?_
    refine g_callVI [aI 99, aI b] [] rfl rfl rfl rfl (Nat.le_of_ble_eq_true rfl) (G0.cs.kd 0 (by omega) rfl) (x_isA (by omega) ci xt ok xn okn 99 b) ?_
    rintro _ hq4 ⟨ehq4, rfl⟩
    rw [ehq4]
    clear ehq4 hq4
    refine g_b_ne rfl (fun c25 => ?_) (fun c25 => ?_)
    · skip
      refine g_aload_n rfl rfl ?_
      refine g_getR rfl (G0.cs.kd 0 (by omega) rfl) (G0.cs.rf 1 (by omega) rfl) ?_
      have u11 := c11
      unfold isAS at u11
      have u25 := c25
      unfold isAS at u25
      refine g_callVN [] [] rfl rfl rfl rfl (Nat.le_of_ble_eq_true rfl) (G0.cs.kd 1 (by omega) rfl) (x_reset (by omega) ci) ?_
      rintro _ rfl
      obtain ⟨h0, eh0⟩ : ∃ h0, h0 = hw h (vset (hV h) (c + 1) 1 0) := ⟨_, rfl⟩
      rw [← eh0]
      have ci0 := ci.reset
      have xt0 := xt.reset
      have xn0 := xn.reset
      rw [← eh0] at ci0 xt0 xn0
      have ht : hV h0 (c + 1) 1 ≤ 10 := by rw [eh0]; show vset _ _ _ _ _ _ ≤ _; rw [vset_eq]; omega
      clear ci xt xn
      have ci := ci0
      have xt := xt0
      have xn := xn0
      clear ci0 xt0 xn0
      have G0 := Gr.refl ci
      refine g_iload_n rfl rfl ?_
      refine g_bipush rfl ?_
      refine g_icmp_eq_f rfl (by omega) ?_
      refine g_iload_n rfl rfl ?_
      refine g_bipush rfl ?_
      refine g_icmp_ne_t rfl (by omega) ?_
      refine g_iload_n rfl rfl ?_
      refine g_callSI [aI 9] [] rfl rfl rfl rfl (Nat.le_of_ble_eq_true rfl) (x_gl9 (by omega) h0) ?_
      rintro _ hq ⟨ehq, rfl⟩
      rw [ehq]
      clear ehq hq
      refine g_if_eq_f rfl (by omega) ?_
      refine g_aload_n rfl rfl ?_
      refine g_getR rfl (G0.cs.kd 0 (by omega) rfl) (G0.cs.rf 11 (by omega) rfl) ?_
      refine g_iconst rfl ?_
      refine g_aload_n rfl rfl ?_
      refine g_iload_n rfl rfl ?_
      refine g_iload_n rfl rfl ?_
      refine g_iload_n rfl rfl ?_
      refine g_callVO [aI 9, aI a, aI b] [aI 1, aO (some (c + 7))] rfl rfl rfl rfl (Nat.le_of_ble_eq_true rfl) (G0.cs.kd 0 (by omega) rfl) (f_ln9 (by omega) G0.ci xt ok xn okn a (by omega) b (by omega)) ?_
      rintro r5 h5 ⟨g5, q5⟩
      have G5 := G0.trans g5
      refine g_callVI [aI 1, aO r5] [] rfl rfl rfl rfl (Nat.le_of_ble_eq_true rfl) (G5.cs.kd 7 (by omega) rfl) (t_keepO (by omega) G5.ci (g5.xt G0.ci xt) ok 1 q5 (by omega)) ?_
      rintro r9 h9 ⟨kt9, er9, xt9⟩
      refine g_iret rfl ?_
      rw [if_pos ⟨c11, c25⟩]
      exact ⟨(kt9.gr G5).fx eh0 (by omega), er9, xt9⟩
    · skip
      refine g_iconst rfl ?_
      refine g_iret rfl ?_
      first
        | (rw [if_neg (fun q => c11 q.1)]; exact ⟨FX.refl ci _, rfl, xt⟩)
        | (rw [if_neg (fun q => c25 q.2)]; exact ⟨FX.refl ci _, rfl, xt⟩)
theorem x_gl10 {w : aW} {d : Nat} (hd : 1 ≤ d) (h : aH) : WP w d 227 [aI 10] h (RI (fun r h1 => h1 = h ∧ r = 0)) := by
  obtain ⟨d, rfl⟩ : ∃ d1, d = d1 + 1 := ⟨d - 1, by omega⟩
  refine WP.enter (cd := cd_X11_givesLine) rfl ?_
  have hls : largs 0 [aI 10] = [(0, aI 10)] := rfl
  rw [hls]
  clear hls
  refine g_iload_n rfl rfl ?_
  refine g_iconst rfl ?_
  refine g_icmp_eq_f rfl (by omega) ?_
  refine g_iload_n rfl rfl ?_
  refine g_iconst rfl ?_
  refine g_icmp_eq_f rfl (by omega) ?_
  refine g_iload_n rfl rfl ?_
  refine g_bipush rfl ?_
  refine g_icmp_eq_f rfl (by omega) ?_
  refine g_iload_n rfl rfl ?_
  refine g_bipush rfl ?_
  refine g_icmp_eq_f rfl (by omega) ?_
  refine g_iload_n rfl rfl ?_
  refine g_bipush rfl ?_
  refine g_icmp_eq_f rfl (by omega) ?_
  refine g_iload_n rfl rfl ?_
  refine g_bipush rfl ?_
  refine g_icmp_lt_t rfl (by omega) ?_
  refine g_iconst rfl ?_
  refine g_zret rfl (by omega) ?_
  exact ⟨rfl, rfl⟩
set_option maxHeartbeats 4000000 in
theorem x_step10 {w : aW} {d : Nat} (hd : 10 ≤ d) {h : aH} {c : Nat} (ci : CI h c) {S : aS} (xt : XT h c S) (ok : OkT S) (xn : XN (hV h) c S) (okn : OkN S) (tx : ∀ i < 12, hT h (w i) = (8, i)) (a : Int) (b : Int) : WP w d 205 [aO (some c), aI 10, aI a, aI b] h (RI (fun r h1 => FX h h1 c (thT c) ∧ r = (if isAS S 108 a ∧ isAS S 99 b then keepP S 0 (some (p_pole_S (tpT S a) (tpR S b))) else (-1, S)).1 ∧ XT h1 c (if isAS S 108 a ∧ isAS S 99 b then keepP S 0 (some (p_pole_S (tpT S a) (tpR S b))) else (-1, S)).2)) := by
  obtain ⟨d, rfl⟩ : ∃ d1, d = d1 + 1 := ⟨d - 1, by omega⟩
  refine WP.enter (cd := cd_X11_step) rfl ?_
  have G0 := Gr.refl ci
  have hls : largs 0 [aO (some c), aI 10, aI a, aI b] = [(0, aO (some c)), (1, aI 10), (2, aI a), (3, aI b)] := rfl
  rw [hls]
  clear hls
  refine g_aload_n rfl rfl ?_
  refine g_ldcT rfl (by decide) ?_
  refine g_iload_n rfl rfl ?_
  refine g_callSI [aO (some (w 1)), aI 10] [aO (some c)] rfl rfl rfl rfl (Nat.le_of_ble_eq_true rfl) (x_sortAt (by omega) (tx 1 (by omega)) (by omega) 10) ?_
  rintro _ hq1 ⟨ehq1, rfl⟩
  rw [ehq1]
  clear ehq1 hq1
  refine g_top (v2 := aI 108) (congrArg aI (show chAt 1 10 = 108 by decide +kernel)) ?_
  refine g_iload_n rfl rfl ?_
  refine g_callVI [aI 108, aI a] [] rfl rfl rfl rfl (Nat.le_of_ble_eq_true rfl) (G0.cs.kd 0 (by omega) rfl) (x_isA (by omega) ci xt ok xn okn 108 a) ?_
  rintro _ hq2 ⟨ehq2, rfl⟩
  rw [ehq2]
  clear ehq2 hq2
  refine g_b_eq rfl (fun c11 => ?_) (fun c11 => ?_)
  · skip
    refine g_iconst rfl ?_
    refine g_iret rfl ?_
    first
      | (rw [if_neg (fun q => c11 q.1)]; exact ⟨FX.refl ci _, rfl, xt⟩)
      | (rw [if_neg (fun q => c25 q.2)]; exact ⟨FX.refl ci _, rfl, xt⟩)
  · skip
    refine g_aload_n rfl rfl ?_
    refine g_ldcT rfl (by decide) ?_
    refine g_iload_n rfl rfl ?_
    refine g_callSI [aO (some (w 2)), aI 10] [aO (some c)] rfl rfl rfl rfl (Nat.le_of_ble_eq_true rfl) (x_sortAt (by omega) (tx 2 (by omega)) (by omega) 10) ?_
    rintro _ hq3 ⟨ehq3, rfl⟩
    rw [ehq3]
    clear ehq3 hq3
    refine g_top (v2 := aI 99) (congrArg aI (show chAt 2 10 = 99 by decide +kernel)) ?_
    refine g_iload_n rfl rfl ?_
    refine g_callVI [aI 99, aI b] [] rfl rfl rfl rfl (Nat.le_of_ble_eq_true rfl) (G0.cs.kd 0 (by omega) rfl) (x_isA (by omega) ci xt ok xn okn 99 b) ?_
    rintro _ hq4 ⟨ehq4, rfl⟩
    rw [ehq4]
    clear ehq4 hq4
    refine g_b_ne rfl (fun c25 => ?_) (fun c25 => ?_)
    · skip
      refine g_aload_n rfl rfl ?_
      refine g_getR rfl (G0.cs.kd 0 (by omega) rfl) (G0.cs.rf 1 (by omega) rfl) ?_
      have u11 := c11
      unfold isAS at u11
      have u25 := c25
      unfold isAS at u25
      refine g_callVN [] [] rfl rfl rfl rfl (Nat.le_of_ble_eq_true rfl) (G0.cs.kd 1 (by omega) rfl) (x_reset (by omega) ci) ?_
      rintro _ rfl
      obtain ⟨h0, eh0⟩ : ∃ h0, h0 = hw h (vset (hV h) (c + 1) 1 0) := ⟨_, rfl⟩
      rw [← eh0]
      have ci0 := ci.reset
      have xt0 := xt.reset
      have xn0 := xn.reset
      rw [← eh0] at ci0 xt0 xn0
      have ht : hV h0 (c + 1) 1 ≤ 10 := by rw [eh0]; show vset _ _ _ _ _ _ ≤ _; rw [vset_eq]; omega
      clear ci xt xn
      have ci := ci0
      have xt := xt0
      have xn := xn0
      clear ci0 xt0 xn0
      have G0 := Gr.refl ci
      refine g_iload_n rfl rfl ?_
      refine g_bipush rfl ?_
      refine g_icmp_eq_f rfl (by omega) ?_
      refine g_iload_n rfl rfl ?_
      refine g_bipush rfl ?_
      refine g_icmp_ne_t rfl (by omega) ?_
      refine g_iload_n rfl rfl ?_
      refine g_callSI [aI 10] [] rfl rfl rfl rfl (Nat.le_of_ble_eq_true rfl) (x_gl10 (by omega) h0) ?_
      rintro _ hq ⟨ehq, rfl⟩
      rw [ehq]
      clear ehq hq
      refine g_if_eq_t rfl (by omega) ?_
      refine g_aload_n rfl rfl ?_
      refine g_getR rfl (G0.cs.kd 0 (by omega) rfl) (G0.cs.rf 11 (by omega) rfl) ?_
      refine g_iconst rfl ?_
      refine g_aload_n rfl rfl ?_
      refine g_iload_n rfl rfl ?_
      refine g_iload_n rfl rfl ?_
      refine g_iload_n rfl rfl ?_
      refine g_callVO [aI 10, aI a, aI b] [aI 0, aO (some (c + 7))] rfl rfl rfl rfl (Nat.le_of_ble_eq_true rfl) (G0.cs.kd 0 (by omega) rfl) (f_pt10 (by omega) G0.ci xt ok xn okn a (by omega) b (by omega)) ?_
      rintro r5 h5 ⟨g5, q5⟩
      have G5 := G0.trans g5
      refine g_callVI [aI 0, aO r5] [] rfl rfl rfl rfl (Nat.le_of_ble_eq_true rfl) (G5.cs.kd 7 (by omega) rfl) (t_keepO (by omega) G5.ci (g5.xt G0.ci xt) ok 0 q5 (by omega)) ?_
      rintro r9 h9 ⟨kt9, er9, xt9⟩
      refine g_iret rfl ?_
      rw [if_pos ⟨c11, c25⟩]
      exact ⟨(kt9.gr G5).fx eh0 (by omega), er9, xt9⟩
    · skip
      refine g_iconst rfl ?_
      refine g_iret rfl ?_
      first
        | (rw [if_neg (fun q => c11 q.1)]; exact ⟨FX.refl ci _, rfl, xt⟩)
        | (rw [if_neg (fun q => c25 q.2)]; exact ⟨FX.refl ci _, rfl, xt⟩)
theorem x_gl11 {w : aW} {d : Nat} (hd : 1 ≤ d) (h : aH) : WP w d 227 [aI 11] h (RI (fun r h1 => h1 = h ∧ r = 1)) := by
  obtain ⟨d, rfl⟩ : ∃ d1, d = d1 + 1 := ⟨d - 1, by omega⟩
  refine WP.enter (cd := cd_X11_givesLine) rfl ?_
  have hls : largs 0 [aI 11] = [(0, aI 11)] := rfl
  rw [hls]
  clear hls
  refine g_iload_n rfl rfl ?_
  refine g_iconst rfl ?_
  refine g_icmp_eq_f rfl (by omega) ?_
  refine g_iload_n rfl rfl ?_
  refine g_iconst rfl ?_
  refine g_icmp_eq_f rfl (by omega) ?_
  refine g_iload_n rfl rfl ?_
  refine g_bipush rfl ?_
  refine g_icmp_eq_f rfl (by omega) ?_
  refine g_iload_n rfl rfl ?_
  refine g_bipush rfl ?_
  refine g_icmp_eq_f rfl (by omega) ?_
  refine g_iload_n rfl rfl ?_
  refine g_bipush rfl ?_
  refine g_icmp_eq_t rfl (by omega) ?_
  refine g_iconst rfl ?_
  refine g_goto rfl ?_
  refine g_zret rfl (by omega) ?_
  exact ⟨rfl, rfl⟩
set_option maxHeartbeats 4000000 in
theorem x_step11 {w : aW} {d : Nat} (hd : 10 ≤ d) {h : aH} {c : Nat} (ci : CI h c) {S : aS} (xt : XT h c S) (ok : OkT S) (xn : XN (hV h) c S) (okn : OkN S) (tx : ∀ i < 12, hT h (w i) = (8, i)) (a : Int) (b : Int) : WP w d 205 [aO (some c), aI 11, aI a, aI b] h (RI (fun r h1 => FX h h1 c (thT c) ∧ r = (if isAS S 99 a ∧ isAS S 99 b then keepP S 1 (p_power_O (tpR S a) (tpR S b)) else (-1, S)).1 ∧ XT h1 c (if isAS S 99 a ∧ isAS S 99 b then keepP S 1 (p_power_O (tpR S a) (tpR S b)) else (-1, S)).2)) := by
  obtain ⟨d, rfl⟩ : ∃ d1, d = d1 + 1 := ⟨d - 1, by omega⟩
  refine WP.enter (cd := cd_X11_step) rfl ?_
  have G0 := Gr.refl ci
  have hls : largs 0 [aO (some c), aI 11, aI a, aI b] = [(0, aO (some c)), (1, aI 11), (2, aI a), (3, aI b)] := rfl
  rw [hls]
  clear hls
  refine g_aload_n rfl rfl ?_
  refine g_ldcT rfl (by decide) ?_
  refine g_iload_n rfl rfl ?_
  refine g_callSI [aO (some (w 1)), aI 11] [aO (some c)] rfl rfl rfl rfl (Nat.le_of_ble_eq_true rfl) (x_sortAt (by omega) (tx 1 (by omega)) (by omega) 11) ?_
  rintro _ hq1 ⟨ehq1, rfl⟩
  rw [ehq1]
  clear ehq1 hq1
  refine g_top (v2 := aI 99) (congrArg aI (show chAt 1 11 = 99 by decide +kernel)) ?_
  refine g_iload_n rfl rfl ?_
  refine g_callVI [aI 99, aI a] [] rfl rfl rfl rfl (Nat.le_of_ble_eq_true rfl) (G0.cs.kd 0 (by omega) rfl) (x_isA (by omega) ci xt ok xn okn 99 a) ?_
  rintro _ hq2 ⟨ehq2, rfl⟩
  rw [ehq2]
  clear ehq2 hq2
  refine g_b_eq rfl (fun c11 => ?_) (fun c11 => ?_)
  · skip
    refine g_iconst rfl ?_
    refine g_iret rfl ?_
    first
      | (rw [if_neg (fun q => c11 q.1)]; exact ⟨FX.refl ci _, rfl, xt⟩)
      | (rw [if_neg (fun q => c25 q.2)]; exact ⟨FX.refl ci _, rfl, xt⟩)
  · skip
    refine g_aload_n rfl rfl ?_
    refine g_ldcT rfl (by decide) ?_
    refine g_iload_n rfl rfl ?_
    refine g_callSI [aO (some (w 2)), aI 11] [aO (some c)] rfl rfl rfl rfl (Nat.le_of_ble_eq_true rfl) (x_sortAt (by omega) (tx 2 (by omega)) (by omega) 11) ?_
    rintro _ hq3 ⟨ehq3, rfl⟩
    rw [ehq3]
    clear ehq3 hq3
    refine g_top (v2 := aI 99) (congrArg aI (show chAt 2 11 = 99 by decide +kernel)) ?_
    refine g_iload_n rfl rfl ?_
    refine g_callVI [aI 99, aI b] [] rfl rfl rfl rfl (Nat.le_of_ble_eq_true rfl) (G0.cs.kd 0 (by omega) rfl) (x_isA (by omega) ci xt ok xn okn 99 b) ?_
    rintro _ hq4 ⟨ehq4, rfl⟩
    rw [ehq4]
    clear ehq4 hq4
    refine g_b_ne rfl (fun c25 => ?_) (fun c25 => ?_)
    · skip
      refine g_aload_n rfl rfl ?_
      refine g_getR rfl (G0.cs.kd 0 (by omega) rfl) (G0.cs.rf 1 (by omega) rfl) ?_
      have u11 := c11
      unfold isAS at u11
      have u25 := c25
      unfold isAS at u25
      refine g_callVN [] [] rfl rfl rfl rfl (Nat.le_of_ble_eq_true rfl) (G0.cs.kd 1 (by omega) rfl) (x_reset (by omega) ci) ?_
      rintro _ rfl
      obtain ⟨h0, eh0⟩ : ∃ h0, h0 = hw h (vset (hV h) (c + 1) 1 0) := ⟨_, rfl⟩
      rw [← eh0]
      have ci0 := ci.reset
      have xt0 := xt.reset
      have xn0 := xn.reset
      rw [← eh0] at ci0 xt0 xn0
      have ht : hV h0 (c + 1) 1 ≤ 10 := by rw [eh0]; show vset _ _ _ _ _ _ ≤ _; rw [vset_eq]; omega
      clear ci xt xn
      have ci := ci0
      have xt := xt0
      have xn := xn0
      clear ci0 xt0 xn0
      have G0 := Gr.refl ci
      refine g_iload_n rfl rfl ?_
      refine g_bipush rfl ?_
      refine g_icmp_eq_f rfl (by omega) ?_
      refine g_iload_n rfl rfl ?_
      refine g_bipush rfl ?_
      refine g_icmp_ne_t rfl (by omega) ?_
      refine g_iload_n rfl rfl ?_
      refine g_callSI [aI 11] [] rfl rfl rfl rfl (Nat.le_of_ble_eq_true rfl) (x_gl11 (by omega) h0) ?_
      rintro _ hq ⟨ehq, rfl⟩
      rw [ehq]
      clear ehq hq
      refine g_if_eq_f rfl (by omega) ?_
      refine g_aload_n rfl rfl ?_
      refine g_getR rfl (G0.cs.kd 0 (by omega) rfl) (G0.cs.rf 11 (by omega) rfl) ?_
      refine g_iconst rfl ?_
      refine g_aload_n rfl rfl ?_
      refine g_iload_n rfl rfl ?_
      refine g_iload_n rfl rfl ?_
      refine g_iload_n rfl rfl ?_
      refine g_callVO [aI 11, aI a, aI b] [aI 1, aO (some (c + 7))] rfl rfl rfl rfl (Nat.le_of_ble_eq_true rfl) (G0.cs.kd 0 (by omega) rfl) (f_ln11 (by omega) G0.ci xt ok xn okn a (by omega) b (by omega)) ?_
      rintro r5 h5 ⟨g5, q5⟩
      have G5 := G0.trans g5
      refine g_callVI [aI 1, aO r5] [] rfl rfl rfl rfl (Nat.le_of_ble_eq_true rfl) (G5.cs.kd 7 (by omega) rfl) (t_keepO (by omega) G5.ci (g5.xt G0.ci xt) ok 1 q5 (by omega)) ?_
      rintro r9 h9 ⟨kt9, er9, xt9⟩
      refine g_iret rfl ?_
      rw [if_pos ⟨c11, c25⟩]
      exact ⟨(kt9.gr G5).fx eh0 (by omega), er9, xt9⟩
    · skip
      refine g_iconst rfl ?_
      refine g_iret rfl ?_
      first
        | (rw [if_neg (fun q => c11 q.1)]; exact ⟨FX.refl ci _, rfl, xt⟩)
        | (rw [if_neg (fun q => c25 q.2)]; exact ⟨FX.refl ci _, rfl, xt⟩)
theorem x_gl12 {w : aW} {d : Nat} (hd : 1 ≤ d) (h : aH) : WP w d 227 [aI 12] h (RI (fun r h1 => h1 = h ∧ r = 0)) := by
  obtain ⟨d, rfl⟩ : ∃ d1, d = d1 + 1 := ⟨d - 1, by omega⟩
  refine WP.enter (cd := cd_X11_givesLine) rfl ?_
  have hls : largs 0 [aI 12] = [(0, aI 12)] := rfl
  rw [hls]
  clear hls
  refine g_iload_n rfl rfl ?_
  refine g_iconst rfl ?_
  refine g_icmp_eq_f rfl (by omega) ?_
  refine g_iload_n rfl rfl ?_
  refine g_iconst rfl ?_
  refine g_icmp_eq_f rfl (by omega) ?_
  refine g_iload_n rfl rfl ?_
  refine g_bipush rfl ?_
  refine g_icmp_eq_f rfl (by omega) ?_
  refine g_iload_n rfl rfl ?_
  refine g_bipush rfl ?_
  refine g_icmp_eq_f rfl (by omega) ?_
  refine g_iload_n rfl rfl ?_
  refine g_bipush rfl ?_
  refine g_icmp_eq_f rfl (by omega) ?_
  refine g_iload_n rfl rfl ?_
  refine g_bipush rfl ?_
  refine g_icmp_lt_t rfl (by omega) ?_
  refine g_iconst rfl ?_
  refine g_zret rfl (by omega) ?_
  exact ⟨rfl, rfl⟩
set_option maxHeartbeats 4000000 in
theorem x_step12 {w : aW} {d : Nat} (hd : 10 ≤ d) {h : aH} {c : Nat} (ci : CI h c) {S : aS} (xt : XT h c S) (ok : OkT S) (xn : XN (hV h) c S) (okn : OkN S) (tx : ∀ i < 12, hT h (w i) = (8, i)) (a : Int) (b : Int) : WP w d 205 [aO (some c), aI 12, aI a, aI b] h (RI (fun r h1 => FX h h1 c (thT c) ∧ r = (if isAS S 112 a ∧ isAS S 112 b then keepC S (p_around_O (tpT S a) (tpT S b)) else (-1, S)).1 ∧ XT h1 c (if isAS S 112 a ∧ isAS S 112 b then keepC S (p_around_O (tpT S a) (tpT S b)) else (-1, S)).2)) := by
  obtain ⟨d, rfl⟩ : ∃ d1, d = d1 + 1 := ⟨d - 1, by omega⟩
  refine WP.enter (cd := cd_X11_step) rfl ?_
  have G0 := Gr.refl ci
  have hls : largs 0 [aO (some c), aI 12, aI a, aI b] = [(0, aO (some c)), (1, aI 12), (2, aI a), (3, aI b)] := rfl
  rw [hls]
  clear hls
  refine g_aload_n rfl rfl ?_
  refine g_ldcT rfl (by decide) ?_
  refine g_iload_n rfl rfl ?_
  refine g_callSI [aO (some (w 1)), aI 12] [aO (some c)] rfl rfl rfl rfl (Nat.le_of_ble_eq_true rfl) (x_sortAt (by omega) (tx 1 (by omega)) (by omega) 12) ?_
  rintro _ hq1 ⟨ehq1, rfl⟩
  rw [ehq1]
  clear ehq1 hq1
  refine g_top (v2 := aI 112) (congrArg aI (show chAt 1 12 = 112 by decide +kernel)) ?_
  refine g_iload_n rfl rfl ?_
  refine g_callVI [aI 112, aI a] [] rfl rfl rfl rfl (Nat.le_of_ble_eq_true rfl) (G0.cs.kd 0 (by omega) rfl) (x_isA (by omega) ci xt ok xn okn 112 a) ?_
  rintro _ hq2 ⟨ehq2, rfl⟩
  rw [ehq2]
  clear ehq2 hq2
  refine g_b_eq rfl (fun c11 => ?_) (fun c11 => ?_)
  · skip
    refine g_iconst rfl ?_
    refine g_iret rfl ?_
    first
      | (rw [if_neg (fun q => c11 q.1)]; exact ⟨FX.refl ci _, rfl, xt⟩)
      | (rw [if_neg (fun q => c25 q.2)]; exact ⟨FX.refl ci _, rfl, xt⟩)
  · skip
    refine g_aload_n rfl rfl ?_
    refine g_ldcT rfl (by decide) ?_
    refine g_iload_n rfl rfl ?_
    refine g_callSI [aO (some (w 2)), aI 12] [aO (some c)] rfl rfl rfl rfl (Nat.le_of_ble_eq_true rfl) (x_sortAt (by omega) (tx 2 (by omega)) (by omega) 12) ?_
    rintro _ hq3 ⟨ehq3, rfl⟩
    rw [ehq3]
    clear ehq3 hq3
    refine g_top (v2 := aI 112) (congrArg aI (show chAt 2 12 = 112 by decide +kernel)) ?_
    refine g_iload_n rfl rfl ?_
    refine g_callVI [aI 112, aI b] [] rfl rfl rfl rfl (Nat.le_of_ble_eq_true rfl) (G0.cs.kd 0 (by omega) rfl) (x_isA (by omega) ci xt ok xn okn 112 b) ?_
    rintro _ hq4 ⟨ehq4, rfl⟩
    rw [ehq4]
    clear ehq4 hq4
    refine g_b_ne rfl (fun c25 => ?_) (fun c25 => ?_)
    · skip
      refine g_aload_n rfl rfl ?_
      refine g_getR rfl (G0.cs.kd 0 (by omega) rfl) (G0.cs.rf 1 (by omega) rfl) ?_
      have u11 := c11
      unfold isAS at u11
      have u25 := c25
      unfold isAS at u25
      refine g_callVN [] [] rfl rfl rfl rfl (Nat.le_of_ble_eq_true rfl) (G0.cs.kd 1 (by omega) rfl) (x_reset (by omega) ci) ?_
      rintro _ rfl
      obtain ⟨h0, eh0⟩ : ∃ h0, h0 = hw h (vset (hV h) (c + 1) 1 0) := ⟨_, rfl⟩
      rw [← eh0]
      have ci0 := ci.reset
      have xt0 := xt.reset
      have xn0 := xn.reset
      rw [← eh0] at ci0 xt0 xn0
      have ht : hV h0 (c + 1) 1 ≤ 10 := by rw [eh0]; show vset _ _ _ _ _ _ ≤ _; rw [vset_eq]; omega
      clear ci xt xn
      have ci := ci0
      have xt := xt0
      have xn := xn0
      clear ci0 xt0 xn0
      have G0 := Gr.refl ci
      refine g_iload_n rfl rfl ?_
      refine g_bipush rfl ?_
      refine g_icmp_eq_t rfl (by omega) ?_
      refine g_aload_n rfl rfl ?_
      refine g_getR rfl (G0.cs.kd 0 (by omega) rfl) (G0.cs.rf 11 (by omega) rfl) ?_
      refine g_aload_n rfl rfl ?_
      refine g_iload_n rfl rfl ?_
      refine g_iload_n rfl rfl ?_
      refine g_iload_n rfl rfl ?_
      refine g_callVO [aI 12, aI a, aI b] [aO (some (c + 7))] rfl rfl rfl rfl (Nat.le_of_ble_eq_true rfl) (G0.cs.kd 0 (by omega) rfl) (f_rg12 (by omega) G0.ci xt ok xn okn a (by omega) b (by omega)) ?_
      rintro r5 h5 ⟨g5, q5⟩
      have G5 := G0.trans g5
      refine g_callVI [aO r5] [] rfl rfl rfl rfl (Nat.le_of_ble_eq_true rfl) (G5.cs.kd 7 (by omega) rfl) (t_keepCO (by omega) G5.ci (g5.xt G0.ci xt) ok q5 (by omega)) ?_
      rintro r9 h9 ⟨kt9, er9, xt9⟩
      refine g_iret rfl ?_
      rw [if_pos ⟨c11, c25⟩]
      exact ⟨(kt9.gr G5).fx eh0 (by omega), er9, xt9⟩
    · skip
      refine g_iconst rfl ?_
      refine g_iret rfl ?_
      first
        | (rw [if_neg (fun q => c11 q.1)]; exact ⟨FX.refl ci _, rfl, xt⟩)
        | (rw [if_neg (fun q => c25 q.2)]; exact ⟨FX.refl ci _, rfl, xt⟩)
theorem x_gl13 {w : aW} {d : Nat} (hd : 1 ≤ d) (h : aH) : WP w d 227 [aI 13] h (RI (fun r h1 => h1 = h ∧ r = 0)) := by
  obtain ⟨d, rfl⟩ : ∃ d1, d = d1 + 1 := ⟨d - 1, by omega⟩
  refine WP.enter (cd := cd_X11_givesLine) rfl ?_
  have hls : largs 0 [aI 13] = [(0, aI 13)] := rfl
  rw [hls]
  clear hls
  refine g_iload_n rfl rfl ?_
  refine g_iconst rfl ?_
  refine g_icmp_eq_f rfl (by omega) ?_
  refine g_iload_n rfl rfl ?_
  refine g_iconst rfl ?_
  refine g_icmp_eq_f rfl (by omega) ?_
  refine g_iload_n rfl rfl ?_
  refine g_bipush rfl ?_
  refine g_icmp_eq_f rfl (by omega) ?_
  refine g_iload_n rfl rfl ?_
  refine g_bipush rfl ?_
  refine g_icmp_eq_f rfl (by omega) ?_
  refine g_iload_n rfl rfl ?_
  refine g_bipush rfl ?_
  refine g_icmp_eq_f rfl (by omega) ?_
  refine g_iload_n rfl rfl ?_
  refine g_bipush rfl ?_
  refine g_icmp_lt_t rfl (by omega) ?_
  refine g_iconst rfl ?_
  refine g_zret rfl (by omega) ?_
  exact ⟨rfl, rfl⟩
set_option maxHeartbeats 4000000 in
theorem x_step13 {w : aW} {d : Nat} (hd : 10 ≤ d) {h : aH} {c : Nat} (ci : CI h c) {S : aS} (xt : XT h c S) (ok : OkT S) (xn : XN (hV h) c S) (okn : OkN S) (tx : ∀ i < 12, hT h (w i) = (8, i)) (a : Int) (b : Int) : WP w d 205 [aO (some c), aI 13, aI a, aI b] h (RI (fun r h1 => FX h h1 c (thT c) ∧ r = (if isAS S 112 a ∧ isAS S 112 b then keepC S (p_over_O (tpT S a) (tpT S b)) else (-1, S)).1 ∧ XT h1 c (if isAS S 112 a ∧ isAS S 112 b then keepC S (p_over_O (tpT S a) (tpT S b)) else (-1, S)).2)) := by
  obtain ⟨d, rfl⟩ : ∃ d1, d = d1 + 1 := ⟨d - 1, by omega⟩
  refine WP.enter (cd := cd_X11_step) rfl ?_
  have G0 := Gr.refl ci
  have hls : largs 0 [aO (some c), aI 13, aI a, aI b] = [(0, aO (some c)), (1, aI 13), (2, aI a), (3, aI b)] := rfl
  rw [hls]
  clear hls
  refine g_aload_n rfl rfl ?_
  refine g_ldcT rfl (by decide) ?_
  refine g_iload_n rfl rfl ?_
  refine g_callSI [aO (some (w 1)), aI 13] [aO (some c)] rfl rfl rfl rfl (Nat.le_of_ble_eq_true rfl) (x_sortAt (by omega) (tx 1 (by omega)) (by omega) 13) ?_
  rintro _ hq1 ⟨ehq1, rfl⟩
  rw [ehq1]
  clear ehq1 hq1
  refine g_top (v2 := aI 112) (congrArg aI (show chAt 1 13 = 112 by decide +kernel)) ?_
  refine g_iload_n rfl rfl ?_
  refine g_callVI [aI 112, aI a] [] rfl rfl rfl rfl (Nat.le_of_ble_eq_true rfl) (G0.cs.kd 0 (by omega) rfl) (x_isA (by omega) ci xt ok xn okn 112 a) ?_
  rintro _ hq2 ⟨ehq2, rfl⟩
  rw [ehq2]
  clear ehq2 hq2
  refine g_b_eq rfl (fun c11 => ?_) (fun c11 => ?_)
  · skip
    refine g_iconst rfl ?_
    refine g_iret rfl ?_
    first
      | (rw [if_neg (fun q => c11 q.1)]; exact ⟨FX.refl ci _, rfl, xt⟩)
      | (rw [if_neg (fun q => c25 q.2)]; exact ⟨FX.refl ci _, rfl, xt⟩)
  · skip
    refine g_aload_n rfl rfl ?_
    refine g_ldcT rfl (by decide) ?_
    refine g_iload_n rfl rfl ?_
    refine g_callSI [aO (some (w 2)), aI 13] [aO (some c)] rfl rfl rfl rfl (Nat.le_of_ble_eq_true rfl) (x_sortAt (by omega) (tx 2 (by omega)) (by omega) 13) ?_
    rintro _ hq3 ⟨ehq3, rfl⟩
    rw [ehq3]
    clear ehq3 hq3
    refine g_top (v2 := aI 112) (congrArg aI (show chAt 2 13 = 112 by decide +kernel)) ?_
    refine g_iload_n rfl rfl ?_
    refine g_callVI [aI 112, aI b] [] rfl rfl rfl rfl (Nat.le_of_ble_eq_true rfl) (G0.cs.kd 0 (by omega) rfl) (x_isA (by omega) ci xt ok xn okn 112 b) ?_
    rintro _ hq4 ⟨ehq4, rfl⟩
    rw [ehq4]
    clear ehq4 hq4
    refine g_b_ne rfl (fun c25 => ?_) (fun c25 => ?_)
    · skip
      refine g_aload_n rfl rfl ?_
      refine g_getR rfl (G0.cs.kd 0 (by omega) rfl) (G0.cs.rf 1 (by omega) rfl) ?_
      have u11 := c11
      unfold isAS at u11
      have u25 := c25
      unfold isAS at u25
      refine g_callVN [] [] rfl rfl rfl rfl (Nat.le_of_ble_eq_true rfl) (G0.cs.kd 1 (by omega) rfl) (x_reset (by omega) ci) ?_
      rintro _ rfl
      obtain ⟨h0, eh0⟩ : ∃ h0, h0 = hw h (vset (hV h) (c + 1) 1 0) := ⟨_, rfl⟩
      rw [← eh0]
      have ci0 := ci.reset
      have xt0 := xt.reset
      have xn0 := xn.reset
      rw [← eh0] at ci0 xt0 xn0
      have ht : hV h0 (c + 1) 1 ≤ 10 := by rw [eh0]; show vset _ _ _ _ _ _ ≤ _; rw [vset_eq]; omega
      clear ci xt xn
      have ci := ci0
      have xt := xt0
      have xn := xn0
      clear ci0 xt0 xn0
      have G0 := Gr.refl ci
      refine g_iload_n rfl rfl ?_
      refine g_bipush rfl ?_
      refine g_icmp_eq_f rfl (by omega) ?_
      refine g_iload_n rfl rfl ?_
      refine g_bipush rfl ?_
      refine g_icmp_ne_f rfl (by omega) ?_
      refine g_aload_n rfl rfl ?_
      refine g_getR rfl (G0.cs.kd 0 (by omega) rfl) (G0.cs.rf 11 (by omega) rfl) ?_
      refine g_aload_n rfl rfl ?_
      refine g_iload_n rfl rfl ?_
      refine g_iload_n rfl rfl ?_
      refine g_iload_n rfl rfl ?_
      refine g_callVO [aI 13, aI a, aI b] [aO (some (c + 7))] rfl rfl rfl rfl (Nat.le_of_ble_eq_true rfl) (G0.cs.kd 0 (by omega) rfl) (f_rg13 (by omega) G0.ci xt ok xn okn a (by omega) b (by omega)) ?_
      rintro r5 h5 ⟨g5, q5⟩
      have G5 := G0.trans g5
      refine g_callVI [aO r5] [] rfl rfl rfl rfl (Nat.le_of_ble_eq_true rfl) (G5.cs.kd 7 (by omega) rfl) (t_keepCO (by omega) G5.ci (g5.xt G0.ci xt) ok q5 (by omega)) ?_
      rintro r9 h9 ⟨kt9, er9, xt9⟩
      refine g_iret rfl ?_
      rw [if_pos ⟨c11, c25⟩]
      exact ⟨(kt9.gr G5).fx eh0 (by omega), er9, xt9⟩
    · skip
      refine g_iconst rfl ?_
      refine g_iret rfl ?_
      first
        | (rw [if_neg (fun q => c11 q.1)]; exact ⟨FX.refl ci _, rfl, xt⟩)
        | (rw [if_neg (fun q => c25 q.2)]; exact ⟨FX.refl ci _, rfl, xt⟩)
theorem x_gl14 {w : aW} {d : Nat} (hd : 1 ≤ d) (h : aH) : WP w d 227 [aI 14] h (RI (fun r h1 => h1 = h ∧ r = 0)) := by
  obtain ⟨d, rfl⟩ : ∃ d1, d = d1 + 1 := ⟨d - 1, by omega⟩
  refine WP.enter (cd := cd_X11_givesLine) rfl ?_
  have hls : largs 0 [aI 14] = [(0, aI 14)] := rfl
  rw [hls]
  clear hls
  refine g_iload_n rfl rfl ?_
  refine g_iconst rfl ?_
  refine g_icmp_eq_f rfl (by omega) ?_
  refine g_iload_n rfl rfl ?_
  refine g_iconst rfl ?_
  refine g_icmp_eq_f rfl (by omega) ?_
  refine g_iload_n rfl rfl ?_
  refine g_bipush rfl ?_
  refine g_icmp_eq_f rfl (by omega) ?_
  refine g_iload_n rfl rfl ?_
  refine g_bipush rfl ?_
  refine g_icmp_eq_f rfl (by omega) ?_
  refine g_iload_n rfl rfl ?_
  refine g_bipush rfl ?_
  refine g_icmp_eq_f rfl (by omega) ?_
  refine g_iload_n rfl rfl ?_
  refine g_bipush rfl ?_
  refine g_icmp_lt_t rfl (by omega) ?_
  refine g_iconst rfl ?_
  refine g_zret rfl (by omega) ?_
  exact ⟨rfl, rfl⟩
set_option maxHeartbeats 4000000 in
theorem x_step14 {w : aW} {d : Nat} (hd : 10 ≤ d) {h : aH} {c : Nat} (ci : CI h c) {S : aS} (xt : XT h c S) (ok : OkT S) (xn : XN (hV h) c S) (okn : OkN S) (tx : ∀ i < 12, hT h (w i) = (8, i)) (a : Int) (b : Int) : WP w d 205 [aO (some c), aI 14, aI a, aI b] h (RI (fun r h1 => FX h h1 c (thT c) ∧ r = (if isAS S 108 a ∧ isAS S 99 b then keepP S 0 (p_cro_O false (tpT S a) (tpR S b)) else (-1, S)).1 ∧ XT h1 c (if isAS S 108 a ∧ isAS S 99 b then keepP S 0 (p_cro_O false (tpT S a) (tpR S b)) else (-1, S)).2)) := by
  obtain ⟨d, rfl⟩ : ∃ d1, d = d1 + 1 := ⟨d - 1, by omega⟩
  refine WP.enter (cd := cd_X11_step) rfl ?_
  have G0 := Gr.refl ci
  have hls : largs 0 [aO (some c), aI 14, aI a, aI b] = [(0, aO (some c)), (1, aI 14), (2, aI a), (3, aI b)] := rfl
  rw [hls]
  clear hls
  refine g_aload_n rfl rfl ?_
  refine g_ldcT rfl (by decide) ?_
  refine g_iload_n rfl rfl ?_
  refine g_callSI [aO (some (w 1)), aI 14] [aO (some c)] rfl rfl rfl rfl (Nat.le_of_ble_eq_true rfl) (x_sortAt (by omega) (tx 1 (by omega)) (by omega) 14) ?_
  rintro _ hq1 ⟨ehq1, rfl⟩
  rw [ehq1]
  clear ehq1 hq1
  refine g_top (v2 := aI 108) (congrArg aI (show chAt 1 14 = 108 by decide +kernel)) ?_
  refine g_iload_n rfl rfl ?_
  refine g_callVI [aI 108, aI a] [] rfl rfl rfl rfl (Nat.le_of_ble_eq_true rfl) (G0.cs.kd 0 (by omega) rfl) (x_isA (by omega) ci xt ok xn okn 108 a) ?_
  rintro _ hq2 ⟨ehq2, rfl⟩
  rw [ehq2]
  clear ehq2 hq2
  refine g_b_eq rfl (fun c11 => ?_) (fun c11 => ?_)
  · skip
    refine g_iconst rfl ?_
    refine g_iret rfl ?_
    first
      | (rw [if_neg (fun q => c11 q.1)]; exact ⟨FX.refl ci _, rfl, xt⟩)
      | (rw [if_neg (fun q => c25 q.2)]; exact ⟨FX.refl ci _, rfl, xt⟩)
  · skip
    refine g_aload_n rfl rfl ?_
    refine g_ldcT rfl (by decide) ?_
    refine g_iload_n rfl rfl ?_
    refine g_callSI [aO (some (w 2)), aI 14] [aO (some c)] rfl rfl rfl rfl (Nat.le_of_ble_eq_true rfl) (x_sortAt (by omega) (tx 2 (by omega)) (by omega) 14) ?_
    rintro _ hq3 ⟨ehq3, rfl⟩
    rw [ehq3]
    clear ehq3 hq3
    refine g_top (v2 := aI 99) (congrArg aI (show chAt 2 14 = 99 by decide +kernel)) ?_
    refine g_iload_n rfl rfl ?_
    refine g_callVI [aI 99, aI b] [] rfl rfl rfl rfl (Nat.le_of_ble_eq_true rfl) (G0.cs.kd 0 (by omega) rfl) (x_isA (by omega) ci xt ok xn okn 99 b) ?_
    rintro _ hq4 ⟨ehq4, rfl⟩
    rw [ehq4]
    clear ehq4 hq4
    refine g_b_ne rfl (fun c25 => ?_) (fun c25 => ?_)
    · skip
      refine g_aload_n rfl rfl ?_
      refine g_getR rfl (G0.cs.kd 0 (by omega) rfl) (G0.cs.rf 1 (by omega) rfl) ?_
      have u11 := c11
      unfold isAS at u11
      have u25 := c25
      unfold isAS at u25
      refine g_callVN [] [] rfl rfl rfl rfl (Nat.le_of_ble_eq_true rfl) (G0.cs.kd 1 (by omega) rfl) (x_reset (by omega) ci) ?_
      rintro _ rfl
      obtain ⟨h0, eh0⟩ : ∃ h0, h0 = hw h (vset (hV h) (c + 1) 1 0) := ⟨_, rfl⟩
      rw [← eh0]
      have ci0 := ci.reset
      have xt0 := xt.reset
      have xn0 := xn.reset
      rw [← eh0] at ci0 xt0 xn0
      have ht : hV h0 (c + 1) 1 ≤ 10 := by rw [eh0]; show vset _ _ _ _ _ _ ≤ _; rw [vset_eq]; omega
      clear ci xt xn
      have ci := ci0
      have xt := xt0
      have xn := xn0
      clear ci0 xt0 xn0
      have G0 := Gr.refl ci
      refine g_iload_n rfl rfl ?_
      refine g_bipush rfl ?_
      refine g_icmp_eq_f rfl (by omega) ?_
      refine g_iload_n rfl rfl ?_
      refine g_bipush rfl ?_
      refine g_icmp_ne_t rfl (by omega) ?_
      refine g_iload_n rfl rfl ?_
      refine g_callSI [aI 14] [] rfl rfl rfl rfl (Nat.le_of_ble_eq_true rfl) (x_gl14 (by omega) h0) ?_
      rintro _ hq ⟨ehq, rfl⟩
      rw [ehq]
      clear ehq hq
      refine g_if_eq_t rfl (by omega) ?_
      refine g_aload_n rfl rfl ?_
      refine g_getR rfl (G0.cs.kd 0 (by omega) rfl) (G0.cs.rf 11 (by omega) rfl) ?_
      refine g_iconst rfl ?_
      refine g_aload_n rfl rfl ?_
      refine g_iload_n rfl rfl ?_
      refine g_iload_n rfl rfl ?_
      refine g_iload_n rfl rfl ?_
      refine g_callVO [aI 14, aI a, aI b] [aI 0, aO (some (c + 7))] rfl rfl rfl rfl (Nat.le_of_ble_eq_true rfl) (G0.cs.kd 0 (by omega) rfl) (f_pt14 (by omega) G0.ci xt ok xn okn a (by omega) b (by omega) (by omega)) ?_
      rintro r5 h5 ⟨g5, q5⟩
      have G5 := G0.trans g5
      refine g_callVI [aI 0, aO r5] [] rfl rfl rfl rfl (Nat.le_of_ble_eq_true rfl) (G5.cs.kd 7 (by omega) rfl) (t_keepO (by omega) G5.ci (g5.xt G0.ci xt) ok 0 q5 (by omega)) ?_
      rintro r9 h9 ⟨kt9, er9, xt9⟩
      refine g_iret rfl ?_
      rw [if_pos ⟨c11, c25⟩]
      exact ⟨(kt9.gr G5).fx eh0 (by omega), er9, xt9⟩
    · skip
      refine g_iconst rfl ?_
      refine g_iret rfl ?_
      first
        | (rw [if_neg (fun q => c11 q.1)]; exact ⟨FX.refl ci _, rfl, xt⟩)
        | (rw [if_neg (fun q => c25 q.2)]; exact ⟨FX.refl ci _, rfl, xt⟩)
theorem x_gl15 {w : aW} {d : Nat} (hd : 1 ≤ d) (h : aH) : WP w d 227 [aI 15] h (RI (fun r h1 => h1 = h ∧ r = 0)) := by
  obtain ⟨d, rfl⟩ : ∃ d1, d = d1 + 1 := ⟨d - 1, by omega⟩
  refine WP.enter (cd := cd_X11_givesLine) rfl ?_
  have hls : largs 0 [aI 15] = [(0, aI 15)] := rfl
  rw [hls]
  clear hls
  refine g_iload_n rfl rfl ?_
  refine g_iconst rfl ?_
  refine g_icmp_eq_f rfl (by omega) ?_
  refine g_iload_n rfl rfl ?_
  refine g_iconst rfl ?_
  refine g_icmp_eq_f rfl (by omega) ?_
  refine g_iload_n rfl rfl ?_
  refine g_bipush rfl ?_
  refine g_icmp_eq_f rfl (by omega) ?_
  refine g_iload_n rfl rfl ?_
  refine g_bipush rfl ?_
  refine g_icmp_eq_f rfl (by omega) ?_
  refine g_iload_n rfl rfl ?_
  refine g_bipush rfl ?_
  refine g_icmp_eq_f rfl (by omega) ?_
  refine g_iload_n rfl rfl ?_
  refine g_bipush rfl ?_
  refine g_icmp_lt_t rfl (by omega) ?_
  refine g_iconst rfl ?_
  refine g_zret rfl (by omega) ?_
  exact ⟨rfl, rfl⟩
set_option maxHeartbeats 4000000 in
theorem x_step15 {w : aW} {d : Nat} (hd : 10 ≤ d) {h : aH} {c : Nat} (ci : CI h c) {S : aS} (xt : XT h c S) (ok : OkT S) (xn : XN (hV h) c S) (okn : OkN S) (tx : ∀ i < 12, hT h (w i) = (8, i)) (a : Int) (b : Int) : WP w d 205 [aO (some c), aI 15, aI a, aI b] h (RI (fun r h1 => FX h h1 c (thT c) ∧ r = (if isAS S 108 a ∧ isAS S 99 b then keepP S 0 (p_cro_O true (tpT S a) (tpR S b)) else (-1, S)).1 ∧ XT h1 c (if isAS S 108 a ∧ isAS S 99 b then keepP S 0 (p_cro_O true (tpT S a) (tpR S b)) else (-1, S)).2)) := by
  obtain ⟨d, rfl⟩ : ∃ d1, d = d1 + 1 := ⟨d - 1, by omega⟩
  refine WP.enter (cd := cd_X11_step) rfl ?_
  have G0 := Gr.refl ci
  have hls : largs 0 [aO (some c), aI 15, aI a, aI b] = [(0, aO (some c)), (1, aI 15), (2, aI a), (3, aI b)] := rfl
  rw [hls]
  clear hls
  refine g_aload_n rfl rfl ?_
  refine g_ldcT rfl (by decide) ?_
  refine g_iload_n rfl rfl ?_
  refine g_callSI [aO (some (w 1)), aI 15] [aO (some c)] rfl rfl rfl rfl (Nat.le_of_ble_eq_true rfl) (x_sortAt (by omega) (tx 1 (by omega)) (by omega) 15) ?_
  rintro _ hq1 ⟨ehq1, rfl⟩
  rw [ehq1]
  clear ehq1 hq1
  refine g_top (v2 := aI 108) (congrArg aI (show chAt 1 15 = 108 by decide +kernel)) ?_
  refine g_iload_n rfl rfl ?_
  refine g_callVI [aI 108, aI a] [] rfl rfl rfl rfl (Nat.le_of_ble_eq_true rfl) (G0.cs.kd 0 (by omega) rfl) (x_isA (by omega) ci xt ok xn okn 108 a) ?_
  rintro _ hq2 ⟨ehq2, rfl⟩
  rw [ehq2]
  clear ehq2 hq2
  refine g_b_eq rfl (fun c11 => ?_) (fun c11 => ?_)
  · skip
    refine g_iconst rfl ?_
    refine g_iret rfl ?_
    first
      | (rw [if_neg (fun q => c11 q.1)]; exact ⟨FX.refl ci _, rfl, xt⟩)
      | (rw [if_neg (fun q => c25 q.2)]; exact ⟨FX.refl ci _, rfl, xt⟩)
  · skip
    refine g_aload_n rfl rfl ?_
    refine g_ldcT rfl (by decide) ?_
    refine g_iload_n rfl rfl ?_
    refine g_callSI [aO (some (w 2)), aI 15] [aO (some c)] rfl rfl rfl rfl (Nat.le_of_ble_eq_true rfl) (x_sortAt (by omega) (tx 2 (by omega)) (by omega) 15) ?_
    rintro _ hq3 ⟨ehq3, rfl⟩
    rw [ehq3]
    clear ehq3 hq3
    refine g_top (v2 := aI 99) (congrArg aI (show chAt 2 15 = 99 by decide +kernel)) ?_
    refine g_iload_n rfl rfl ?_
    refine g_callVI [aI 99, aI b] [] rfl rfl rfl rfl (Nat.le_of_ble_eq_true rfl) (G0.cs.kd 0 (by omega) rfl) (x_isA (by omega) ci xt ok xn okn 99 b) ?_
    rintro _ hq4 ⟨ehq4, rfl⟩
    rw [ehq4]
    clear ehq4 hq4
    refine g_b_ne rfl (fun c25 => ?_) (fun c25 => ?_)
    · skip
      refine g_aload_n rfl rfl ?_
      refine g_getR rfl (G0.cs.kd 0 (by omega) rfl) (G0.cs.rf 1 (by omega) rfl) ?_
      have u11 := c11
      unfold isAS at u11
      have u25 := c25
      unfold isAS at u25
      refine g_callVN [] [] rfl rfl rfl rfl (Nat.le_of_ble_eq_true rfl) (G0.cs.kd 1 (by omega) rfl) (x_reset (by omega) ci) ?_
      rintro _ rfl
      obtain ⟨h0, eh0⟩ : ∃ h0, h0 = hw h (vset (hV h) (c + 1) 1 0) := ⟨_, rfl⟩
      rw [← eh0]
      have ci0 := ci.reset
      have xt0 := xt.reset
      have xn0 := xn.reset
      rw [← eh0] at ci0 xt0 xn0
      have ht : hV h0 (c + 1) 1 ≤ 10 := by rw [eh0]; show vset _ _ _ _ _ _ ≤ _; rw [vset_eq]; omega
      clear ci xt xn
      have ci := ci0
      have xt := xt0
      have xn := xn0
      clear ci0 xt0 xn0
      have G0 := Gr.refl ci
      refine g_iload_n rfl rfl ?_
      refine g_bipush rfl ?_
      refine g_icmp_eq_f rfl (by omega) ?_
      refine g_iload_n rfl rfl ?_
      refine g_bipush rfl ?_
      refine g_icmp_ne_t rfl (by omega) ?_
      refine g_iload_n rfl rfl ?_
      refine g_callSI [aI 15] [] rfl rfl rfl rfl (Nat.le_of_ble_eq_true rfl) (x_gl15 (by omega) h0) ?_
      rintro _ hq ⟨ehq, rfl⟩
      rw [ehq]
      clear ehq hq
      refine g_if_eq_t rfl (by omega) ?_
      refine g_aload_n rfl rfl ?_
      refine g_getR rfl (G0.cs.kd 0 (by omega) rfl) (G0.cs.rf 11 (by omega) rfl) ?_
      refine g_iconst rfl ?_
      refine g_aload_n rfl rfl ?_
      refine g_iload_n rfl rfl ?_
      refine g_iload_n rfl rfl ?_
      refine g_iload_n rfl rfl ?_
      refine g_callVO [aI 15, aI a, aI b] [aI 0, aO (some (c + 7))] rfl rfl rfl rfl (Nat.le_of_ble_eq_true rfl) (G0.cs.kd 0 (by omega) rfl) (f_pt15 (by omega) G0.ci xt ok xn okn a (by omega) b (by omega) (by omega)) ?_
      rintro r5 h5 ⟨g5, q5⟩
      have G5 := G0.trans g5
      refine g_callVI [aI 0, aO r5] [] rfl rfl rfl rfl (Nat.le_of_ble_eq_true rfl) (G5.cs.kd 7 (by omega) rfl) (t_keepO (by omega) G5.ci (g5.xt G0.ci xt) ok 0 q5 (by omega)) ?_
      rintro r9 h9 ⟨kt9, er9, xt9⟩
      refine g_iret rfl ?_
      rw [if_pos ⟨c11, c25⟩]
      exact ⟨(kt9.gr G5).fx eh0 (by omega), er9, xt9⟩
    · skip
      refine g_iconst rfl ?_
      refine g_iret rfl ?_
      first
        | (rw [if_neg (fun q => c11 q.1)]; exact ⟨FX.refl ci _, rfl, xt⟩)
        | (rw [if_neg (fun q => c25 q.2)]; exact ⟨FX.refl ci _, rfl, xt⟩)
theorem x_gl16 {w : aW} {d : Nat} (hd : 1 ≤ d) (h : aH) : WP w d 227 [aI 16] h (RI (fun r h1 => h1 = h ∧ r = 0)) := by
  obtain ⟨d, rfl⟩ : ∃ d1, d = d1 + 1 := ⟨d - 1, by omega⟩
  refine WP.enter (cd := cd_X11_givesLine) rfl ?_
  have hls : largs 0 [aI 16] = [(0, aI 16)] := rfl
  rw [hls]
  clear hls
  refine g_iload_n rfl rfl ?_
  refine g_iconst rfl ?_
  refine g_icmp_eq_f rfl (by omega) ?_
  refine g_iload_n rfl rfl ?_
  refine g_iconst rfl ?_
  refine g_icmp_eq_f rfl (by omega) ?_
  refine g_iload_n rfl rfl ?_
  refine g_bipush rfl ?_
  refine g_icmp_eq_f rfl (by omega) ?_
  refine g_iload_n rfl rfl ?_
  refine g_bipush rfl ?_
  refine g_icmp_eq_f rfl (by omega) ?_
  refine g_iload_n rfl rfl ?_
  refine g_bipush rfl ?_
  refine g_icmp_eq_f rfl (by omega) ?_
  refine g_iload_n rfl rfl ?_
  refine g_bipush rfl ?_
  refine g_icmp_lt_t rfl (by omega) ?_
  refine g_iconst rfl ?_
  refine g_zret rfl (by omega) ?_
  exact ⟨rfl, rfl⟩
set_option maxHeartbeats 4000000 in
theorem x_step16 {w : aW} {d : Nat} (hd : 10 ≤ d) {h : aH} {c : Nat} (ci : CI h c) {S : aS} (xt : XT h c S) (ok : OkT S) (xn : XN (hV h) c S) (okn : OkN S) (tx : ∀ i < 12, hT h (w i) = (8, i)) (a : Int) (b : Int) : WP w d 205 [aO (some c), aI 16, aI a, aI b] h (RI (fun r h1 => FX h h1 c (thT c) ∧ r = (if isAS S 99 a ∧ isAS S 99 b then keepP S 0 (p_rc_O false (tpR S a) (tpR S b)) else (-1, S)).1 ∧ XT h1 c (if isAS S 99 a ∧ isAS S 99 b then keepP S 0 (p_rc_O false (tpR S a) (tpR S b)) else (-1, S)).2)) := by
  obtain ⟨d, rfl⟩ : ∃ d1, d = d1 + 1 := ⟨d - 1, by omega⟩
  refine WP.enter (cd := cd_X11_step) rfl ?_
  have G0 := Gr.refl ci
  have hls : largs 0 [aO (some c), aI 16, aI a, aI b] = [(0, aO (some c)), (1, aI 16), (2, aI a), (3, aI b)] := rfl
  rw [hls]
  clear hls
  refine g_aload_n rfl rfl ?_
  refine g_ldcT rfl (by decide) ?_
  refine g_iload_n rfl rfl ?_
  refine g_callSI [aO (some (w 1)), aI 16] [aO (some c)] rfl rfl rfl rfl (Nat.le_of_ble_eq_true rfl) (x_sortAt (by omega) (tx 1 (by omega)) (by omega) 16) ?_
  rintro _ hq1 ⟨ehq1, rfl⟩
  rw [ehq1]
  clear ehq1 hq1
  refine g_top (v2 := aI 99) (congrArg aI (show chAt 1 16 = 99 by decide +kernel)) ?_
  refine g_iload_n rfl rfl ?_
  refine g_callVI [aI 99, aI a] [] rfl rfl rfl rfl (Nat.le_of_ble_eq_true rfl) (G0.cs.kd 0 (by omega) rfl) (x_isA (by omega) ci xt ok xn okn 99 a) ?_
  rintro _ hq2 ⟨ehq2, rfl⟩
  rw [ehq2]
  clear ehq2 hq2
  refine g_b_eq rfl (fun c11 => ?_) (fun c11 => ?_)
  · skip
    refine g_iconst rfl ?_
    refine g_iret rfl ?_
    first
      | (rw [if_neg (fun q => c11 q.1)]; exact ⟨FX.refl ci _, rfl, xt⟩)
      | (rw [if_neg (fun q => c25 q.2)]; exact ⟨FX.refl ci _, rfl, xt⟩)
  · skip
    refine g_aload_n rfl rfl ?_
    refine g_ldcT rfl (by decide) ?_
    refine g_iload_n rfl rfl ?_
    refine g_callSI [aO (some (w 2)), aI 16] [aO (some c)] rfl rfl rfl rfl (Nat.le_of_ble_eq_true rfl) (x_sortAt (by omega) (tx 2 (by omega)) (by omega) 16) ?_
    rintro _ hq3 ⟨ehq3, rfl⟩
    rw [ehq3]
    clear ehq3 hq3
    refine g_top (v2 := aI 99) (congrArg aI (show chAt 2 16 = 99 by decide +kernel)) ?_
    refine g_iload_n rfl rfl ?_
    refine g_callVI [aI 99, aI b] [] rfl rfl rfl rfl (Nat.le_of_ble_eq_true rfl) (G0.cs.kd 0 (by omega) rfl) (x_isA (by omega) ci xt ok xn okn 99 b) ?_
    rintro _ hq4 ⟨ehq4, rfl⟩
    rw [ehq4]
    clear ehq4 hq4
    refine g_b_ne rfl (fun c25 => ?_) (fun c25 => ?_)
    · skip
      refine g_aload_n rfl rfl ?_
      refine g_getR rfl (G0.cs.kd 0 (by omega) rfl) (G0.cs.rf 1 (by omega) rfl) ?_
      have u11 := c11
      unfold isAS at u11
      have u25 := c25
      unfold isAS at u25
      refine g_callVN [] [] rfl rfl rfl rfl (Nat.le_of_ble_eq_true rfl) (G0.cs.kd 1 (by omega) rfl) (x_reset (by omega) ci) ?_
      rintro _ rfl
      obtain ⟨h0, eh0⟩ : ∃ h0, h0 = hw h (vset (hV h) (c + 1) 1 0) := ⟨_, rfl⟩
      rw [← eh0]
      have ci0 := ci.reset
      have xt0 := xt.reset
      have xn0 := xn.reset
      rw [← eh0] at ci0 xt0 xn0
      have ht : hV h0 (c + 1) 1 ≤ 10 := by rw [eh0]; show vset _ _ _ _ _ _ ≤ _; rw [vset_eq]; omega
      clear ci xt xn
      have ci := ci0
      have xt := xt0
      have xn := xn0
      clear ci0 xt0 xn0
      have G0 := Gr.refl ci
      refine g_iload_n rfl rfl ?_
      refine g_bipush rfl ?_
      refine g_icmp_eq_f rfl (by omega) ?_
      refine g_iload_n rfl rfl ?_
      refine g_bipush rfl ?_
      refine g_icmp_ne_t rfl (by omega) ?_
      refine g_iload_n rfl rfl ?_
      refine g_callSI [aI 16] [] rfl rfl rfl rfl (Nat.le_of_ble_eq_true rfl) (x_gl16 (by omega) h0) ?_
      rintro _ hq ⟨ehq, rfl⟩
      rw [ehq]
      clear ehq hq
      refine g_if_eq_t rfl (by omega) ?_
      refine g_aload_n rfl rfl ?_
      refine g_getR rfl (G0.cs.kd 0 (by omega) rfl) (G0.cs.rf 11 (by omega) rfl) ?_
      refine g_iconst rfl ?_
      refine g_aload_n rfl rfl ?_
      refine g_iload_n rfl rfl ?_
      refine g_iload_n rfl rfl ?_
      refine g_iload_n rfl rfl ?_
      refine g_callVO [aI 16, aI a, aI b] [aI 0, aO (some (c + 7))] rfl rfl rfl rfl (Nat.le_of_ble_eq_true rfl) (G0.cs.kd 0 (by omega) rfl) (f_pt16 (by omega) G0.ci xt ok xn okn a (by omega) b (by omega) (by omega)) ?_
      rintro r5 h5 ⟨g5, q5⟩
      have G5 := G0.trans g5
      refine g_callVI [aI 0, aO r5] [] rfl rfl rfl rfl (Nat.le_of_ble_eq_true rfl) (G5.cs.kd 7 (by omega) rfl) (t_keepO (by omega) G5.ci (g5.xt G0.ci xt) ok 0 q5 (by omega)) ?_
      rintro r9 h9 ⟨kt9, er9, xt9⟩
      refine g_iret rfl ?_
      rw [if_pos ⟨c11, c25⟩]
      exact ⟨(kt9.gr G5).fx eh0 (by omega), er9, xt9⟩
    · skip
      refine g_iconst rfl ?_
      refine g_iret rfl ?_
      first
        | (rw [if_neg (fun q => c11 q.1)]; exact ⟨FX.refl ci _, rfl, xt⟩)
        | (rw [if_neg (fun q => c25 q.2)]; exact ⟨FX.refl ci _, rfl, xt⟩)
theorem x_gl17 {w : aW} {d : Nat} (hd : 1 ≤ d) (h : aH) : WP w d 227 [aI 17] h (RI (fun r h1 => h1 = h ∧ r = 0)) := by
  obtain ⟨d, rfl⟩ : ∃ d1, d = d1 + 1 := ⟨d - 1, by omega⟩
  refine WP.enter (cd := cd_X11_givesLine) rfl ?_
  have hls : largs 0 [aI 17] = [(0, aI 17)] := rfl
  rw [hls]
  clear hls
  refine g_iload_n rfl rfl ?_
  refine g_iconst rfl ?_
  refine g_icmp_eq_f rfl (by omega) ?_
  refine g_iload_n rfl rfl ?_
  refine g_iconst rfl ?_
  refine g_icmp_eq_f rfl (by omega) ?_
  refine g_iload_n rfl rfl ?_
  refine g_bipush rfl ?_
  refine g_icmp_eq_f rfl (by omega) ?_
  refine g_iload_n rfl rfl ?_
  refine g_bipush rfl ?_
  refine g_icmp_eq_f rfl (by omega) ?_
  refine g_iload_n rfl rfl ?_
  refine g_bipush rfl ?_
  refine g_icmp_eq_f rfl (by omega) ?_
  refine g_iload_n rfl rfl ?_
  refine g_bipush rfl ?_
  refine g_icmp_lt_t rfl (by omega) ?_
  refine g_iconst rfl ?_
  refine g_zret rfl (by omega) ?_
  exact ⟨rfl, rfl⟩
set_option maxHeartbeats 4000000 in
theorem x_step17 {w : aW} {d : Nat} (hd : 10 ≤ d) {h : aH} {c : Nat} (ci : CI h c) {S : aS} (xt : XT h c S) (ok : OkT S) (xn : XN (hV h) c S) (okn : OkN S) (tx : ∀ i < 12, hT h (w i) = (8, i)) (a : Int) (b : Int) : WP w d 205 [aO (some c), aI 17, aI a, aI b] h (RI (fun r h1 => FX h h1 c (thT c) ∧ r = (if isAS S 99 a ∧ isAS S 99 b then keepP S 0 (p_rc_O true (tpR S a) (tpR S b)) else (-1, S)).1 ∧ XT h1 c (if isAS S 99 a ∧ isAS S 99 b then keepP S 0 (p_rc_O true (tpR S a) (tpR S b)) else (-1, S)).2)) := by
  obtain ⟨d, rfl⟩ : ∃ d1, d = d1 + 1 := ⟨d - 1, by omega⟩
  refine WP.enter (cd := cd_X11_step) rfl ?_
  have G0 := Gr.refl ci
  have hls : largs 0 [aO (some c), aI 17, aI a, aI b] = [(0, aO (some c)), (1, aI 17), (2, aI a), (3, aI b)] := rfl
  rw [hls]
  clear hls
  refine g_aload_n rfl rfl ?_
  refine g_ldcT rfl (by decide) ?_
  refine g_iload_n rfl rfl ?_
  refine g_callSI [aO (some (w 1)), aI 17] [aO (some c)] rfl rfl rfl rfl (Nat.le_of_ble_eq_true rfl) (x_sortAt (by omega) (tx 1 (by omega)) (by omega) 17) ?_
  rintro _ hq1 ⟨ehq1, rfl⟩
  rw [ehq1]
  clear ehq1 hq1
  refine g_top (v2 := aI 99) (congrArg aI (show chAt 1 17 = 99 by decide +kernel)) ?_
  refine g_iload_n rfl rfl ?_
  refine g_callVI [aI 99, aI a] [] rfl rfl rfl rfl (Nat.le_of_ble_eq_true rfl) (G0.cs.kd 0 (by omega) rfl) (x_isA (by omega) ci xt ok xn okn 99 a) ?_
  rintro _ hq2 ⟨ehq2, rfl⟩
  rw [ehq2]
  clear ehq2 hq2
  refine g_b_eq rfl (fun c11 => ?_) (fun c11 => ?_)
  · skip
    refine g_iconst rfl ?_
    refine g_iret rfl ?_
    first
      | (rw [if_neg (fun q => c11 q.1)]; exact ⟨FX.refl ci _, rfl, xt⟩)
      | (rw [if_neg (fun q => c25 q.2)]; exact ⟨FX.refl ci _, rfl, xt⟩)
  · skip
    refine g_aload_n rfl rfl ?_
    refine g_ldcT rfl (by decide) ?_
    refine g_iload_n rfl rfl ?_
    refine g_callSI [aO (some (w 2)), aI 17] [aO (some c)] rfl rfl rfl rfl (Nat.le_of_ble_eq_true rfl) (x_sortAt (by omega) (tx 2 (by omega)) (by omega) 17) ?_
    rintro _ hq3 ⟨ehq3, rfl⟩
    rw [ehq3]
    clear ehq3 hq3
    refine g_top (v2 := aI 99) (congrArg aI (show chAt 2 17 = 99 by decide +kernel)) ?_
    refine g_iload_n rfl rfl ?_
    refine g_callVI [aI 99, aI b] [] rfl rfl rfl rfl (Nat.le_of_ble_eq_true rfl) (G0.cs.kd 0 (by omega) rfl) (x_isA (by omega) ci xt ok xn okn 99 b) ?_
    rintro _ hq4 ⟨ehq4, rfl⟩
    rw [ehq4]
    clear ehq4 hq4
    refine g_b_ne rfl (fun c25 => ?_) (fun c25 => ?_)
    · skip
      refine g_aload_n rfl rfl ?_
      refine g_getR rfl (G0.cs.kd 0 (by omega) rfl) (G0.cs.rf 1 (by omega) rfl) ?_
      have u11 := c11
      unfold isAS at u11
      have u25 := c25
      unfold isAS at u25
      refine g_callVN [] [] rfl rfl rfl rfl (Nat.le_of_ble_eq_true rfl) (G0.cs.kd 1 (by omega) rfl) (x_reset (by omega) ci) ?_
      rintro _ rfl
      obtain ⟨h0, eh0⟩ : ∃ h0, h0 = hw h (vset (hV h) (c + 1) 1 0) := ⟨_, rfl⟩
      rw [← eh0]
      have ci0 := ci.reset
      have xt0 := xt.reset
      have xn0 := xn.reset
      rw [← eh0] at ci0 xt0 xn0
      have ht : hV h0 (c + 1) 1 ≤ 10 := by rw [eh0]; show vset _ _ _ _ _ _ ≤ _; rw [vset_eq]; omega
      clear ci xt xn
      have ci := ci0
      have xt := xt0
      have xn := xn0
      clear ci0 xt0 xn0
      have G0 := Gr.refl ci
      refine g_iload_n rfl rfl ?_
      refine g_bipush rfl ?_
      refine g_icmp_eq_f rfl (by omega) ?_
      refine g_iload_n rfl rfl ?_
      refine g_bipush rfl ?_
      refine g_icmp_ne_t rfl (by omega) ?_
      refine g_iload_n rfl rfl ?_
      refine g_callSI [aI 17] [] rfl rfl rfl rfl (Nat.le_of_ble_eq_true rfl) (x_gl17 (by omega) h0) ?_
      rintro _ hq ⟨ehq, rfl⟩
      rw [ehq]
      clear ehq hq
      refine g_if_eq_t rfl (by omega) ?_
      refine g_aload_n rfl rfl ?_
      refine g_getR rfl (G0.cs.kd 0 (by omega) rfl) (G0.cs.rf 11 (by omega) rfl) ?_
      refine g_iconst rfl ?_
      refine g_aload_n rfl rfl ?_
      refine g_iload_n rfl rfl ?_
      refine g_iload_n rfl rfl ?_
      refine g_iload_n rfl rfl ?_
      refine g_callVO [aI 17, aI a, aI b] [aI 0, aO (some (c + 7))] rfl rfl rfl rfl (Nat.le_of_ble_eq_true rfl) (G0.cs.kd 0 (by omega) rfl) (f_pt17 (by omega) G0.ci xt ok xn okn a (by omega) b (by omega) (by omega)) ?_
      rintro r5 h5 ⟨g5, q5⟩
      have G5 := G0.trans g5
      refine g_callVI [aI 0, aO r5] [] rfl rfl rfl rfl (Nat.le_of_ble_eq_true rfl) (G5.cs.kd 7 (by omega) rfl) (t_keepO (by omega) G5.ci (g5.xt G0.ci xt) ok 0 q5 (by omega)) ?_
      rintro r9 h9 ⟨kt9, er9, xt9⟩
      refine g_iret rfl ?_
      rw [if_pos ⟨c11, c25⟩]
      exact ⟨(kt9.gr G5).fx eh0 (by omega), er9, xt9⟩
    · skip
      refine g_iconst rfl ?_
      refine g_iret rfl ?_
      first
        | (rw [if_neg (fun q => c11 q.1)]; exact ⟨FX.refl ci _, rfl, xt⟩)
        | (rw [if_neg (fun q => c25 q.2)]; exact ⟨FX.refl ci _, rfl, xt⟩)
theorem x_gl18 {w : aW} {d : Nat} (hd : 1 ≤ d) (h : aH) : WP w d 227 [aI 18] h (RI (fun r h1 => h1 = h ∧ r = 1)) := by
  obtain ⟨d, rfl⟩ : ∃ d1, d = d1 + 1 := ⟨d - 1, by omega⟩
  refine WP.enter (cd := cd_X11_givesLine) rfl ?_
  have hls : largs 0 [aI 18] = [(0, aI 18)] := rfl
  rw [hls]
  clear hls
  refine g_iload_n rfl rfl ?_
  refine g_iconst rfl ?_
  refine g_icmp_eq_f rfl (by omega) ?_
  refine g_iload_n rfl rfl ?_
  refine g_iconst rfl ?_
  refine g_icmp_eq_f rfl (by omega) ?_
  refine g_iload_n rfl rfl ?_
  refine g_bipush rfl ?_
  refine g_icmp_eq_f rfl (by omega) ?_
  refine g_iload_n rfl rfl ?_
  refine g_bipush rfl ?_
  refine g_icmp_eq_f rfl (by omega) ?_
  refine g_iload_n rfl rfl ?_
  refine g_bipush rfl ?_
  refine g_icmp_eq_f rfl (by omega) ?_
  refine g_iload_n rfl rfl ?_
  refine g_bipush rfl ?_
  refine g_icmp_lt_f rfl (by omega) ?_
  refine g_iconst rfl ?_
  refine g_goto rfl ?_
  refine g_zret rfl (by omega) ?_
  exact ⟨rfl, rfl⟩
set_option maxHeartbeats 4000000 in
theorem x_step18 {w : aW} {d : Nat} (hd : 10 ≤ d) {h : aH} {c : Nat} (ci : CI h c) {S : aS} (xt : XT h c S) (ok : OkT S) (xn : XN (hV h) c S) (okn : OkN S) (tx : ∀ i < 12, hT h (w i) = (8, i)) (a : Int) (b : Int) : WP w d 205 [aO (some c), aI 18, aI a, aI b] h (RI (fun r h1 => FX h h1 c (thT c) ∧ r = (if isAS S 112 a ∧ isAS S 99 b then keepP S 1 (p_tan_O false (tpT S a) (tpR S b)) else (-1, S)).1 ∧ XT h1 c (if isAS S 112 a ∧ isAS S 99 b then keepP S 1 (p_tan_O false (tpT S a) (tpR S b)) else (-1, S)).2)) := by
  obtain ⟨d, rfl⟩ : ∃ d1, d = d1 + 1 := ⟨d - 1, by omega⟩
  refine WP.enter (cd := cd_X11_step) rfl ?_
  have G0 := Gr.refl ci
  have hls : largs 0 [aO (some c), aI 18, aI a, aI b] = [(0, aO (some c)), (1, aI 18), (2, aI a), (3, aI b)] := rfl
  rw [hls]
  clear hls
  refine g_aload_n rfl rfl ?_
  refine g_ldcT rfl (by decide) ?_
  refine g_iload_n rfl rfl ?_
  refine g_callSI [aO (some (w 1)), aI 18] [aO (some c)] rfl rfl rfl rfl (Nat.le_of_ble_eq_true rfl) (x_sortAt (by omega) (tx 1 (by omega)) (by omega) 18) ?_
  rintro _ hq1 ⟨ehq1, rfl⟩
  rw [ehq1]
  clear ehq1 hq1
  refine g_top (v2 := aI 112) (congrArg aI (show chAt 1 18 = 112 by decide +kernel)) ?_
  refine g_iload_n rfl rfl ?_
  refine g_callVI [aI 112, aI a] [] rfl rfl rfl rfl (Nat.le_of_ble_eq_true rfl) (G0.cs.kd 0 (by omega) rfl) (x_isA (by omega) ci xt ok xn okn 112 a) ?_
  rintro _ hq2 ⟨ehq2, rfl⟩
  rw [ehq2]
  clear ehq2 hq2
  refine g_b_eq rfl (fun c11 => ?_) (fun c11 => ?_)
  · skip
    refine g_iconst rfl ?_
    refine g_iret rfl ?_
    first
      | (rw [if_neg (fun q => c11 q.1)]; exact ⟨FX.refl ci _, rfl, xt⟩)
      | (rw [if_neg (fun q => c25 q.2)]; exact ⟨FX.refl ci _, rfl, xt⟩)
  · skip
    refine g_aload_n rfl rfl ?_
    refine g_ldcT rfl (by decide) ?_
    refine g_iload_n rfl rfl ?_
    refine g_callSI [aO (some (w 2)), aI 18] [aO (some c)] rfl rfl rfl rfl (Nat.le_of_ble_eq_true rfl) (x_sortAt (by omega) (tx 2 (by omega)) (by omega) 18) ?_
    rintro _ hq3 ⟨ehq3, rfl⟩
    rw [ehq3]
    clear ehq3 hq3
    refine g_top (v2 := aI 99) (congrArg aI (show chAt 2 18 = 99 by decide +kernel)) ?_
    refine g_iload_n rfl rfl ?_
    refine g_callVI [aI 99, aI b] [] rfl rfl rfl rfl (Nat.le_of_ble_eq_true rfl) (G0.cs.kd 0 (by omega) rfl) (x_isA (by omega) ci xt ok xn okn 99 b) ?_
    rintro _ hq4 ⟨ehq4, rfl⟩
    rw [ehq4]
    clear ehq4 hq4
    refine g_b_ne rfl (fun c25 => ?_) (fun c25 => ?_)
    · skip
      refine g_aload_n rfl rfl ?_
      refine g_getR rfl (G0.cs.kd 0 (by omega) rfl) (G0.cs.rf 1 (by omega) rfl) ?_
      have u11 := c11
      unfold isAS at u11
      have u25 := c25
      unfold isAS at u25
      refine g_callVN [] [] rfl rfl rfl rfl (Nat.le_of_ble_eq_true rfl) (G0.cs.kd 1 (by omega) rfl) (x_reset (by omega) ci) ?_
      rintro _ rfl
      obtain ⟨h0, eh0⟩ : ∃ h0, h0 = hw h (vset (hV h) (c + 1) 1 0) := ⟨_, rfl⟩
      rw [← eh0]
      have ci0 := ci.reset
      have xt0 := xt.reset
      have xn0 := xn.reset
      rw [← eh0] at ci0 xt0 xn0
      have ht : hV h0 (c + 1) 1 ≤ 10 := by rw [eh0]; show vset _ _ _ _ _ _ ≤ _; rw [vset_eq]; omega
      clear ci xt xn
      have ci := ci0
      have xt := xt0
      have xn := xn0
      clear ci0 xt0 xn0
      have G0 := Gr.refl ci
      refine g_iload_n rfl rfl ?_
      refine g_bipush rfl ?_
      refine g_icmp_eq_f rfl (by omega) ?_
      refine g_iload_n rfl rfl ?_
      refine g_bipush rfl ?_
      refine g_icmp_ne_t rfl (by omega) ?_
      refine g_iload_n rfl rfl ?_
      refine g_callSI [aI 18] [] rfl rfl rfl rfl (Nat.le_of_ble_eq_true rfl) (x_gl18 (by omega) h0) ?_
      rintro _ hq ⟨ehq, rfl⟩
      rw [ehq]
      clear ehq hq
      refine g_if_eq_f rfl (by omega) ?_
      refine g_aload_n rfl rfl ?_
      refine g_getR rfl (G0.cs.kd 0 (by omega) rfl) (G0.cs.rf 11 (by omega) rfl) ?_
      refine g_iconst rfl ?_
      refine g_aload_n rfl rfl ?_
      refine g_iload_n rfl rfl ?_
      refine g_iload_n rfl rfl ?_
      refine g_iload_n rfl rfl ?_
      refine g_callVO [aI 18, aI a, aI b] [aI 1, aO (some (c + 7))] rfl rfl rfl rfl (Nat.le_of_ble_eq_true rfl) (G0.cs.kd 0 (by omega) rfl) (f_ln18 (by omega) G0.ci xt ok xn okn a (by omega) b (by omega) (by omega)) ?_
      rintro r5 h5 ⟨g5, q5⟩
      have G5 := G0.trans g5
      refine g_callVI [aI 1, aO r5] [] rfl rfl rfl rfl (Nat.le_of_ble_eq_true rfl) (G5.cs.kd 7 (by omega) rfl) (t_keepO (by omega) G5.ci (g5.xt G0.ci xt) ok 1 q5 (by omega)) ?_
      rintro r9 h9 ⟨kt9, er9, xt9⟩
      refine g_iret rfl ?_
      rw [if_pos ⟨c11, c25⟩]
      exact ⟨(kt9.gr G5).fx eh0 (by omega), er9, xt9⟩
    · skip
      refine g_iconst rfl ?_
      refine g_iret rfl ?_
      first
        | (rw [if_neg (fun q => c11 q.1)]; exact ⟨FX.refl ci _, rfl, xt⟩)
        | (rw [if_neg (fun q => c25 q.2)]; exact ⟨FX.refl ci _, rfl, xt⟩)
theorem x_gl19 {w : aW} {d : Nat} (hd : 1 ≤ d) (h : aH) : WP w d 227 [aI 19] h (RI (fun r h1 => h1 = h ∧ r = 1)) := by
  obtain ⟨d, rfl⟩ : ∃ d1, d = d1 + 1 := ⟨d - 1, by omega⟩
  refine WP.enter (cd := cd_X11_givesLine) rfl ?_
  have hls : largs 0 [aI 19] = [(0, aI 19)] := rfl
  rw [hls]
  clear hls
  refine g_iload_n rfl rfl ?_
  refine g_iconst rfl ?_
  refine g_icmp_eq_f rfl (by omega) ?_
  refine g_iload_n rfl rfl ?_
  refine g_iconst rfl ?_
  refine g_icmp_eq_f rfl (by omega) ?_
  refine g_iload_n rfl rfl ?_
  refine g_bipush rfl ?_
  refine g_icmp_eq_f rfl (by omega) ?_
  refine g_iload_n rfl rfl ?_
  refine g_bipush rfl ?_
  refine g_icmp_eq_f rfl (by omega) ?_
  refine g_iload_n rfl rfl ?_
  refine g_bipush rfl ?_
  refine g_icmp_eq_f rfl (by omega) ?_
  refine g_iload_n rfl rfl ?_
  refine g_bipush rfl ?_
  refine g_icmp_lt_f rfl (by omega) ?_
  refine g_iconst rfl ?_
  refine g_goto rfl ?_
  refine g_zret rfl (by omega) ?_
  exact ⟨rfl, rfl⟩
set_option maxHeartbeats 4000000 in
theorem x_step19 {w : aW} {d : Nat} (hd : 10 ≤ d) {h : aH} {c : Nat} (ci : CI h c) {S : aS} (xt : XT h c S) (ok : OkT S) (xn : XN (hV h) c S) (okn : OkN S) (tx : ∀ i < 12, hT h (w i) = (8, i)) (a : Int) (b : Int) : WP w d 205 [aO (some c), aI 19, aI a, aI b] h (RI (fun r h1 => FX h h1 c (thT c) ∧ r = (if isAS S 112 a ∧ isAS S 99 b then keepP S 1 (p_tan_O true (tpT S a) (tpR S b)) else (-1, S)).1 ∧ XT h1 c (if isAS S 112 a ∧ isAS S 99 b then keepP S 1 (p_tan_O true (tpT S a) (tpR S b)) else (-1, S)).2)) := by
  obtain ⟨d, rfl⟩ : ∃ d1, d = d1 + 1 := ⟨d - 1, by omega⟩
  refine WP.enter (cd := cd_X11_step) rfl ?_
  have G0 := Gr.refl ci
  have hls : largs 0 [aO (some c), aI 19, aI a, aI b] = [(0, aO (some c)), (1, aI 19), (2, aI a), (3, aI b)] := rfl
  rw [hls]
  clear hls
  refine g_aload_n rfl rfl ?_
  refine g_ldcT rfl (by decide) ?_
  refine g_iload_n rfl rfl ?_
  refine g_callSI [aO (some (w 1)), aI 19] [aO (some c)] rfl rfl rfl rfl (Nat.le_of_ble_eq_true rfl) (x_sortAt (by omega) (tx 1 (by omega)) (by omega) 19) ?_
  rintro _ hq1 ⟨ehq1, rfl⟩
  rw [ehq1]
  clear ehq1 hq1
  refine g_top (v2 := aI 112) (congrArg aI (show chAt 1 19 = 112 by decide +kernel)) ?_
  refine g_iload_n rfl rfl ?_
  refine g_callVI [aI 112, aI a] [] rfl rfl rfl rfl (Nat.le_of_ble_eq_true rfl) (G0.cs.kd 0 (by omega) rfl) (x_isA (by omega) ci xt ok xn okn 112 a) ?_
  rintro _ hq2 ⟨ehq2, rfl⟩
  rw [ehq2]
  clear ehq2 hq2
  refine g_b_eq rfl (fun c11 => ?_) (fun c11 => ?_)
  · skip
    refine g_iconst rfl ?_
    refine g_iret rfl ?_
    first
      | (rw [if_neg (fun q => c11 q.1)]; exact ⟨FX.refl ci _, rfl, xt⟩)
      | (rw [if_neg (fun q => c25 q.2)]; exact ⟨FX.refl ci _, rfl, xt⟩)
  · skip
    refine g_aload_n rfl rfl ?_
    refine g_ldcT rfl (by decide) ?_
    refine g_iload_n rfl rfl ?_
    refine g_callSI [aO (some (w 2)), aI 19] [aO (some c)] rfl rfl rfl rfl (Nat.le_of_ble_eq_true rfl) (x_sortAt (by omega) (tx 2 (by omega)) (by omega) 19) ?_
    rintro _ hq3 ⟨ehq3, rfl⟩
    rw [ehq3]
    clear ehq3 hq3
    refine g_top (v2 := aI 99) (congrArg aI (show chAt 2 19 = 99 by decide +kernel)) ?_
    refine g_iload_n rfl rfl ?_
    refine g_callVI [aI 99, aI b] [] rfl rfl rfl rfl (Nat.le_of_ble_eq_true rfl) (G0.cs.kd 0 (by omega) rfl) (x_isA (by omega) ci xt ok xn okn 99 b) ?_
    rintro _ hq4 ⟨ehq4, rfl⟩
    rw [ehq4]
    clear ehq4 hq4
    refine g_b_ne rfl (fun c25 => ?_) (fun c25 => ?_)
    · skip
      refine g_aload_n rfl rfl ?_
      refine g_getR rfl (G0.cs.kd 0 (by omega) rfl) (G0.cs.rf 1 (by omega) rfl) ?_
      have u11 := c11
      unfold isAS at u11
      have u25 := c25
      unfold isAS at u25
      refine g_callVN [] [] rfl rfl rfl rfl (Nat.le_of_ble_eq_true rfl) (G0.cs.kd 1 (by omega) rfl) (x_reset (by omega) ci) ?_
      rintro _ rfl
      obtain ⟨h0, eh0⟩ : ∃ h0, h0 = hw h (vset (hV h) (c + 1) 1 0) := ⟨_, rfl⟩
      rw [← eh0]
      have ci0 := ci.reset
      have xt0 := xt.reset
      have xn0 := xn.reset
      rw [← eh0] at ci0 xt0 xn0
      have ht : hV h0 (c + 1) 1 ≤ 10 := by rw [eh0]; show vset _ _ _ _ _ _ ≤ _; rw [vset_eq]; omega
      clear ci xt xn
      have ci := ci0
      have xt := xt0
      have xn := xn0
      clear ci0 xt0 xn0
      have G0 := Gr.refl ci
      refine g_iload_n rfl rfl ?_
      refine g_bipush rfl ?_
      refine g_icmp_eq_f rfl (by omega) ?_
      refine g_iload_n rfl rfl ?_
      refine g_bipush rfl ?_
      refine g_icmp_ne_t rfl (by omega) ?_
      refine g_iload_n rfl rfl ?_
      refine g_callSI [aI 19] [] rfl rfl rfl rfl (Nat.le_of_ble_eq_true rfl) (x_gl19 (by omega) h0) ?_
      rintro _ hq ⟨ehq, rfl⟩
      rw [ehq]
      clear ehq hq
      refine g_if_eq_f rfl (by omega) ?_
      refine g_aload_n rfl rfl ?_
      refine g_getR rfl (G0.cs.kd 0 (by omega) rfl) (G0.cs.rf 11 (by omega) rfl) ?_
      refine g_iconst rfl ?_
      refine g_aload_n rfl rfl ?_
      refine g_iload_n rfl rfl ?_
      refine g_iload_n rfl rfl ?_
      refine g_iload_n rfl rfl ?_
      refine g_callVO [aI 19, aI a, aI b] [aI 1, aO (some (c + 7))] rfl rfl rfl rfl (Nat.le_of_ble_eq_true rfl) (G0.cs.kd 0 (by omega) rfl) (f_ln19 (by omega) G0.ci xt ok xn okn a (by omega) b (by omega) (by omega)) ?_
      rintro r5 h5 ⟨g5, q5⟩
      have G5 := G0.trans g5
      refine g_callVI [aI 1, aO r5] [] rfl rfl rfl rfl (Nat.le_of_ble_eq_true rfl) (G5.cs.kd 7 (by omega) rfl) (t_keepO (by omega) G5.ci (g5.xt G0.ci xt) ok 1 q5 (by omega)) ?_
      rintro r9 h9 ⟨kt9, er9, xt9⟩
      refine g_iret rfl ?_
      rw [if_pos ⟨c11, c25⟩]
      exact ⟨(kt9.gr G5).fx eh0 (by omega), er9, xt9⟩
    · skip
      refine g_iconst rfl ?_
      refine g_iret rfl ?_
      first
        | (rw [if_neg (fun q => c11 q.1)]; exact ⟨FX.refl ci _, rfl, xt⟩)
        | (rw [if_neg (fun q => c25 q.2)]; exact ⟨FX.refl ci _, rfl, xt⟩)
set_option maxHeartbeats 4000000 in
theorem x_three0 {w : aW} {d : Nat} (hd : 9 ≤ d) {h : aH} {c : Nat} (ci : CI h c) {S : aS} (xt : XT h c S) (ok : OkT S) (xn : XN (hV h) c S) (okn : OkN S) (tx : ∀ i < 12, hT h (w i) = (8, i)) (a : Int) (b : Int) (e : Int) : WP w d 206 [aO (some c), aI 0, aI a, aI b, aI e] h (RI (fun r h1 => FX h h1 c (thT c) ∧ r = (if isAS S 112 a ∧ isAS S 112 b ∧ isAS S 112 e then keepC S (p_thr_O (tpT S a) (tpT S b) (tpT S e)) else (-1, S)).1 ∧ XT h1 c (if isAS S 112 a ∧ isAS S 112 b ∧ isAS S 112 e then keepC S (p_thr_O (tpT S a) (tpT S b) (tpT S e)) else (-1, S)).2)) := by
  obtain ⟨d, rfl⟩ : ∃ d1, d = d1 + 1 := ⟨d - 1, by omega⟩
  refine WP.enter (cd := cd_X11_three) rfl ?_
  have G0 := Gr.refl ci
  have hls : largs 0 [aO (some c), aI 0, aI a, aI b, aI e] = [(0, aO (some c)), (1, aI 0), (2, aI a), (3, aI b), (4, aI e)] := rfl
  rw [hls]
  clear hls
  refine g_aload_n rfl rfl ?_
  refine g_ldcT rfl (by decide) ?_
  refine g_iload_n rfl rfl ?_
  refine g_callSI [aO (some (w 3)), aI 0] [aO (some c)] rfl rfl rfl rfl (Nat.le_of_ble_eq_true rfl) (x_sortAt (by omega) (tx 3 (by omega)) (by omega) 0) ?_
  rintro _ hq1 ⟨ehq1, rfl⟩
  rw [ehq1]
  clear ehq1 hq1
  refine g_top (v2 := aI 112) (congrArg aI (show chAt 3 0 = 112 by decide +kernel)) ?_
  refine g_iload_n rfl rfl ?_
  refine g_callVI [aI 112, aI a] [] rfl rfl rfl rfl (Nat.le_of_ble_eq_true rfl) (G0.cs.kd 0 (by omega) rfl) (x_isA (by omega) ci xt ok xn okn 112 a) ?_
  rintro _ hq2 ⟨ehq2, rfl⟩
  rw [ehq2]
  clear ehq2 hq2
  refine g_b_eq rfl (fun c11 => ?_) (fun c11 => ?_)
  · skip
    refine g_iconst rfl ?_
    refine g_iret rfl ?_
    first
      | (rw [if_neg (fun q => c11 q.1)]; exact ⟨FX.refl ci _, rfl, xt⟩)
      | (rw [if_neg (fun q => c25 q.2.1)]; exact ⟨FX.refl ci _, rfl, xt⟩)
      | (rw [if_neg (fun q => c40 q.2.2)]; exact ⟨FX.refl ci _, rfl, xt⟩)
  · skip
    refine g_aload_n rfl rfl ?_
    refine g_ldcT rfl (by decide) ?_
    refine g_iload_n rfl rfl ?_
    refine g_callSI [aO (some (w 4)), aI 0] [aO (some c)] rfl rfl rfl rfl (Nat.le_of_ble_eq_true rfl) (x_sortAt (by omega) (tx 4 (by omega)) (by omega) 0) ?_
    rintro _ hq3 ⟨ehq3, rfl⟩
    rw [ehq3]
    clear ehq3 hq3
    refine g_top (v2 := aI 112) (congrArg aI (show chAt 4 0 = 112 by decide +kernel)) ?_
    refine g_iload_n rfl rfl ?_
    refine g_callVI [aI 112, aI b] [] rfl rfl rfl rfl (Nat.le_of_ble_eq_true rfl) (G0.cs.kd 0 (by omega) rfl) (x_isA (by omega) ci xt ok xn okn 112 b) ?_
    rintro _ hq4 ⟨ehq4, rfl⟩
    rw [ehq4]
    clear ehq4 hq4
    refine g_b_eq rfl (fun c25 => ?_) (fun c25 => ?_)
    · skip
      refine g_iconst rfl ?_
      refine g_iret rfl ?_
      first
        | (rw [if_neg (fun q => c11 q.1)]; exact ⟨FX.refl ci _, rfl, xt⟩)
        | (rw [if_neg (fun q => c25 q.2.1)]; exact ⟨FX.refl ci _, rfl, xt⟩)
        | (rw [if_neg (fun q => c40 q.2.2)]; exact ⟨FX.refl ci _, rfl, xt⟩)
    · skip
      refine g_aload_n rfl rfl ?_
      refine g_ldcT rfl (by decide) ?_
      refine g_iload_n rfl rfl ?_
      refine g_callSI [aO (some (w 3)), aI 0] [aO (some c)] rfl rfl rfl rfl (Nat.le_of_ble_eq_true rfl) (x_sortAt (by omega) (tx 3 (by omega)) (by omega) 0) ?_
      rintro _ hq5 ⟨ehq5, rfl⟩
      rw [ehq5]
      clear ehq5 hq5
      refine g_top (v2 := aI 112) (congrArg aI (show chAt 3 0 = 112 by decide +kernel)) ?_
      refine g_iload rfl rfl ?_
      refine g_callVI [aI 112, aI e] [] rfl rfl rfl rfl (Nat.le_of_ble_eq_true rfl) (G0.cs.kd 0 (by omega) rfl) (x_isA (by omega) ci xt ok xn okn 112 e) ?_
      rintro _ hq6 ⟨ehq6, rfl⟩
      rw [ehq6]
      clear ehq6 hq6
      refine g_b_ne rfl (fun c40 => ?_) (fun c40 => ?_)
      · skip
        refine g_aload_n rfl rfl ?_
        refine g_getR rfl (G0.cs.kd 0 (by omega) rfl) (G0.cs.rf 1 (by omega) rfl) ?_
        have u11 := c11
        unfold isAS at u11
        have u25 := c25
        unfold isAS at u25
        have u40 := c40
        unfold isAS at u40
        refine g_callVN [] [] rfl rfl rfl rfl (Nat.le_of_ble_eq_true rfl) (G0.cs.kd 1 (by omega) rfl) (x_reset (by omega) ci) ?_
        rintro _ rfl
        obtain ⟨h0, eh0⟩ : ∃ h0, h0 = hw h (vset (hV h) (c + 1) 1 0) := ⟨_, rfl⟩
        rw [← eh0]
        have ci0 := ci.reset
        have xt0 := xt.reset
        have xn0 := xn.reset
        rw [← eh0] at ci0 xt0 xn0
        have ht : hV h0 (c + 1) 1 ≤ 10 := by rw [eh0]; show vset _ _ _ _ _ _ ≤ _; rw [vset_eq]; omega
        clear ci xt xn
        have ci := ci0
        have xt := xt0
        have xn := xn0
        clear ci0 xt0 xn0
        have G0 := Gr.refl ci
        refine g_iload_n rfl rfl ?_
        refine g_if_eq_t rfl (by omega) ?_
        refine g_aload_n rfl rfl ?_
        refine g_getR rfl (G0.cs.kd 0 (by omega) rfl) (G0.cs.rf 11 (by omega) rfl) ?_
        refine g_aload_n rfl rfl ?_
        refine g_iload_n rfl rfl ?_
        refine g_iload_n rfl rfl ?_
        refine g_iload_n rfl rfl ?_
        refine g_iload rfl rfl ?_
        refine g_callVO [aI 0, aI a, aI b, aI e] [aO (some (c + 7))] rfl rfl rfl rfl (Nat.le_of_ble_eq_true rfl) (G0.cs.kd 0 (by omega) rfl) (f_rth0 (by omega) G0.ci xt ok xn okn a (by omega) b (by omega) e (by omega)) ?_
        rintro r7 h7 ⟨g7, q7⟩
        have G7 := G0.trans g7
        refine g_callVI [aO r7] [] rfl rfl rfl rfl (Nat.le_of_ble_eq_true rfl) (G7.cs.kd 7 (by omega) rfl) (t_keepCO (by omega) G7.ci (g7.xt G0.ci xt) ok q7 (by omega)) ?_
        rintro r9 h9 ⟨kt9, er9, xt9⟩
        refine g_iret rfl ?_
        rw [if_pos ⟨c11, c25, c40⟩]
        exact ⟨(kt9.gr G7).fx eh0 (by omega), er9, xt9⟩
      · skip
        refine g_iconst rfl ?_
        refine g_iret rfl ?_
        first
          | (rw [if_neg (fun q => c11 q.1)]; exact ⟨FX.refl ci _, rfl, xt⟩)
          | (rw [if_neg (fun q => c25 q.2.1)]; exact ⟨FX.refl ci _, rfl, xt⟩)
          | (rw [if_neg (fun q => c40 q.2.2)]; exact ⟨FX.refl ci _, rfl, xt⟩)
set_option maxHeartbeats 4000000 in
theorem x_three1 {w : aW} {d : Nat} (hd : 9 ≤ d) {h : aH} {c : Nat} (ci : CI h c) {S : aS} (xt : XT h c S) (ok : OkT S) (xn : XN (hV h) c S) (okn : OkN S) (tx : ∀ i < 12, hT h (w i) = (8, i)) (a : Int) (b : Int) (e : Int) : WP w d 206 [aO (some c), aI 1, aI a, aI b, aI e] h (RI (fun r h1 => FX h h1 c (thT c) ∧ r = (if isAS S 112 a ∧ isAS S 112 b ∧ isAS S 112 e then keepP S 0 (p_mid3_O (tpT S a) (tpT S b) (tpT S e)) else (-1, S)).1 ∧ XT h1 c (if isAS S 112 a ∧ isAS S 112 b ∧ isAS S 112 e then keepP S 0 (p_mid3_O (tpT S a) (tpT S b) (tpT S e)) else (-1, S)).2)) := by
  obtain ⟨d, rfl⟩ : ∃ d1, d = d1 + 1 := ⟨d - 1, by omega⟩
  refine WP.enter (cd := cd_X11_three) rfl ?_
  have G0 := Gr.refl ci
  have hls : largs 0 [aO (some c), aI 1, aI a, aI b, aI e] = [(0, aO (some c)), (1, aI 1), (2, aI a), (3, aI b), (4, aI e)] := rfl
  rw [hls]
  clear hls
  refine g_aload_n rfl rfl ?_
  refine g_ldcT rfl (by decide) ?_
  refine g_iload_n rfl rfl ?_
  refine g_callSI [aO (some (w 3)), aI 1] [aO (some c)] rfl rfl rfl rfl (Nat.le_of_ble_eq_true rfl) (x_sortAt (by omega) (tx 3 (by omega)) (by omega) 1) ?_
  rintro _ hq1 ⟨ehq1, rfl⟩
  rw [ehq1]
  clear ehq1 hq1
  refine g_top (v2 := aI 112) (congrArg aI (show chAt 3 1 = 112 by decide +kernel)) ?_
  refine g_iload_n rfl rfl ?_
  refine g_callVI [aI 112, aI a] [] rfl rfl rfl rfl (Nat.le_of_ble_eq_true rfl) (G0.cs.kd 0 (by omega) rfl) (x_isA (by omega) ci xt ok xn okn 112 a) ?_
  rintro _ hq2 ⟨ehq2, rfl⟩
  rw [ehq2]
  clear ehq2 hq2
  refine g_b_eq rfl (fun c11 => ?_) (fun c11 => ?_)
  · skip
    refine g_iconst rfl ?_
    refine g_iret rfl ?_
    first
      | (rw [if_neg (fun q => c11 q.1)]; exact ⟨FX.refl ci _, rfl, xt⟩)
      | (rw [if_neg (fun q => c25 q.2.1)]; exact ⟨FX.refl ci _, rfl, xt⟩)
      | (rw [if_neg (fun q => c40 q.2.2)]; exact ⟨FX.refl ci _, rfl, xt⟩)
  · skip
    refine g_aload_n rfl rfl ?_
    refine g_ldcT rfl (by decide) ?_
    refine g_iload_n rfl rfl ?_
    refine g_callSI [aO (some (w 4)), aI 1] [aO (some c)] rfl rfl rfl rfl (Nat.le_of_ble_eq_true rfl) (x_sortAt (by omega) (tx 4 (by omega)) (by omega) 1) ?_
    rintro _ hq3 ⟨ehq3, rfl⟩
    rw [ehq3]
    clear ehq3 hq3
    refine g_top (v2 := aI 112) (congrArg aI (show chAt 4 1 = 112 by decide +kernel)) ?_
    refine g_iload_n rfl rfl ?_
    refine g_callVI [aI 112, aI b] [] rfl rfl rfl rfl (Nat.le_of_ble_eq_true rfl) (G0.cs.kd 0 (by omega) rfl) (x_isA (by omega) ci xt ok xn okn 112 b) ?_
    rintro _ hq4 ⟨ehq4, rfl⟩
    rw [ehq4]
    clear ehq4 hq4
    refine g_b_eq rfl (fun c25 => ?_) (fun c25 => ?_)
    · skip
      refine g_iconst rfl ?_
      refine g_iret rfl ?_
      first
        | (rw [if_neg (fun q => c11 q.1)]; exact ⟨FX.refl ci _, rfl, xt⟩)
        | (rw [if_neg (fun q => c25 q.2.1)]; exact ⟨FX.refl ci _, rfl, xt⟩)
        | (rw [if_neg (fun q => c40 q.2.2)]; exact ⟨FX.refl ci _, rfl, xt⟩)
    · skip
      refine g_aload_n rfl rfl ?_
      refine g_ldcT rfl (by decide) ?_
      refine g_iload_n rfl rfl ?_
      refine g_callSI [aO (some (w 3)), aI 1] [aO (some c)] rfl rfl rfl rfl (Nat.le_of_ble_eq_true rfl) (x_sortAt (by omega) (tx 3 (by omega)) (by omega) 1) ?_
      rintro _ hq5 ⟨ehq5, rfl⟩
      rw [ehq5]
      clear ehq5 hq5
      refine g_top (v2 := aI 112) (congrArg aI (show chAt 3 1 = 112 by decide +kernel)) ?_
      refine g_iload rfl rfl ?_
      refine g_callVI [aI 112, aI e] [] rfl rfl rfl rfl (Nat.le_of_ble_eq_true rfl) (G0.cs.kd 0 (by omega) rfl) (x_isA (by omega) ci xt ok xn okn 112 e) ?_
      rintro _ hq6 ⟨ehq6, rfl⟩
      rw [ehq6]
      clear ehq6 hq6
      refine g_b_ne rfl (fun c40 => ?_) (fun c40 => ?_)
      · skip
        refine g_aload_n rfl rfl ?_
        refine g_getR rfl (G0.cs.kd 0 (by omega) rfl) (G0.cs.rf 1 (by omega) rfl) ?_
        have u11 := c11
        unfold isAS at u11
        have u25 := c25
        unfold isAS at u25
        have u40 := c40
        unfold isAS at u40
        refine g_callVN [] [] rfl rfl rfl rfl (Nat.le_of_ble_eq_true rfl) (G0.cs.kd 1 (by omega) rfl) (x_reset (by omega) ci) ?_
        rintro _ rfl
        obtain ⟨h0, eh0⟩ : ∃ h0, h0 = hw h (vset (hV h) (c + 1) 1 0) := ⟨_, rfl⟩
        rw [← eh0]
        have ci0 := ci.reset
        have xt0 := xt.reset
        have xn0 := xn.reset
        rw [← eh0] at ci0 xt0 xn0
        have ht : hV h0 (c + 1) 1 ≤ 10 := by rw [eh0]; show vset _ _ _ _ _ _ ≤ _; rw [vset_eq]; omega
        clear ci xt xn
        have ci := ci0
        have xt := xt0
        have xn := xn0
        clear ci0 xt0 xn0
        have G0 := Gr.refl ci
        refine g_iload_n rfl rfl ?_
        refine g_if_eq_f rfl (by omega) ?_
        refine g_iload_n rfl rfl ?_
        refine g_iconst rfl ?_
        refine g_icmp_ne_t rfl (by omega) ?_
        refine g_aload_n rfl rfl ?_
        refine g_getR rfl (G0.cs.kd 0 (by omega) rfl) (G0.cs.rf 11 (by omega) rfl) ?_
        refine g_iconst rfl ?_
        refine g_aload_n rfl rfl ?_
        refine g_iload_n rfl rfl ?_
        refine g_iload_n rfl rfl ?_
        refine g_iload_n rfl rfl ?_
        refine g_iload rfl rfl ?_
        refine g_callVO [aI 1, aI a, aI b, aI e] [aI 0, aO (some (c + 7))] rfl rfl rfl rfl (Nat.le_of_ble_eq_true rfl) (G0.cs.kd 0 (by omega) rfl) (f_pth1 (by omega) G0.ci xt ok xn okn a (by omega) b (by omega) e (by omega)) ?_
        rintro r7 h7 ⟨g7, q7⟩
        have G7 := G0.trans g7
        refine g_callVI [aI 0, aO r7] [] rfl rfl rfl rfl (Nat.le_of_ble_eq_true rfl) (G7.cs.kd 7 (by omega) rfl) (t_keepO (by omega) G7.ci (g7.xt G0.ci xt) ok 0 q7 (by omega)) ?_
        rintro r9 h9 ⟨kt9, er9, xt9⟩
        refine g_iret rfl ?_
        rw [if_pos ⟨c11, c25, c40⟩]
        exact ⟨(kt9.gr G7).fx eh0 (by omega), er9, xt9⟩
      · skip
        refine g_iconst rfl ?_
        refine g_iret rfl ?_
        first
          | (rw [if_neg (fun q => c11 q.1)]; exact ⟨FX.refl ci _, rfl, xt⟩)
          | (rw [if_neg (fun q => c25 q.2.1)]; exact ⟨FX.refl ci _, rfl, xt⟩)
          | (rw [if_neg (fun q => c40 q.2.2)]; exact ⟨FX.refl ci _, rfl, xt⟩)
set_option maxHeartbeats 4000000 in
theorem x_three2 {w : aW} {d : Nat} (hd : 9 ≤ d) {h : aH} {c : Nat} (ci : CI h c) {S : aS} (xt : XT h c S) (ok : OkT S) (xn : XN (hV h) c S) (okn : OkN S) (tx : ∀ i < 12, hT h (w i) = (8, i)) (a : Int) (b : Int) (e : Int) : WP w d 206 [aO (some c), aI 2, aI a, aI b, aI e] h (RI (fun r h1 => FX h h1 c (thT c) ∧ r = (if isAS S 112 a ∧ isAS S 112 b ∧ isAS S 112 e then keepP S 0 (p_heights_O (tpT S a) (tpT S b) (tpT S e)) else (-1, S)).1 ∧ XT h1 c (if isAS S 112 a ∧ isAS S 112 b ∧ isAS S 112 e then keepP S 0 (p_heights_O (tpT S a) (tpT S b) (tpT S e)) else (-1, S)).2)) := by
  obtain ⟨d, rfl⟩ : ∃ d1, d = d1 + 1 := ⟨d - 1, by omega⟩
  refine WP.enter (cd := cd_X11_three) rfl ?_
  have G0 := Gr.refl ci
  have hls : largs 0 [aO (some c), aI 2, aI a, aI b, aI e] = [(0, aO (some c)), (1, aI 2), (2, aI a), (3, aI b), (4, aI e)] := rfl
  rw [hls]
  clear hls
  refine g_aload_n rfl rfl ?_
  refine g_ldcT rfl (by decide) ?_
  refine g_iload_n rfl rfl ?_
  refine g_callSI [aO (some (w 3)), aI 2] [aO (some c)] rfl rfl rfl rfl (Nat.le_of_ble_eq_true rfl) (x_sortAt (by omega) (tx 3 (by omega)) (by omega) 2) ?_
  rintro _ hq1 ⟨ehq1, rfl⟩
  rw [ehq1]
  clear ehq1 hq1
  refine g_top (v2 := aI 112) (congrArg aI (show chAt 3 2 = 112 by decide +kernel)) ?_
  refine g_iload_n rfl rfl ?_
  refine g_callVI [aI 112, aI a] [] rfl rfl rfl rfl (Nat.le_of_ble_eq_true rfl) (G0.cs.kd 0 (by omega) rfl) (x_isA (by omega) ci xt ok xn okn 112 a) ?_
  rintro _ hq2 ⟨ehq2, rfl⟩
  rw [ehq2]
  clear ehq2 hq2
  refine g_b_eq rfl (fun c11 => ?_) (fun c11 => ?_)
  · skip
    refine g_iconst rfl ?_
    refine g_iret rfl ?_
    first
      | (rw [if_neg (fun q => c11 q.1)]; exact ⟨FX.refl ci _, rfl, xt⟩)
      | (rw [if_neg (fun q => c25 q.2.1)]; exact ⟨FX.refl ci _, rfl, xt⟩)
      | (rw [if_neg (fun q => c40 q.2.2)]; exact ⟨FX.refl ci _, rfl, xt⟩)
  · skip
    refine g_aload_n rfl rfl ?_
    refine g_ldcT rfl (by decide) ?_
    refine g_iload_n rfl rfl ?_
    refine g_callSI [aO (some (w 4)), aI 2] [aO (some c)] rfl rfl rfl rfl (Nat.le_of_ble_eq_true rfl) (x_sortAt (by omega) (tx 4 (by omega)) (by omega) 2) ?_
    rintro _ hq3 ⟨ehq3, rfl⟩
    rw [ehq3]
    clear ehq3 hq3
    refine g_top (v2 := aI 112) (congrArg aI (show chAt 4 2 = 112 by decide +kernel)) ?_
    refine g_iload_n rfl rfl ?_
    refine g_callVI [aI 112, aI b] [] rfl rfl rfl rfl (Nat.le_of_ble_eq_true rfl) (G0.cs.kd 0 (by omega) rfl) (x_isA (by omega) ci xt ok xn okn 112 b) ?_
    rintro _ hq4 ⟨ehq4, rfl⟩
    rw [ehq4]
    clear ehq4 hq4
    refine g_b_eq rfl (fun c25 => ?_) (fun c25 => ?_)
    · skip
      refine g_iconst rfl ?_
      refine g_iret rfl ?_
      first
        | (rw [if_neg (fun q => c11 q.1)]; exact ⟨FX.refl ci _, rfl, xt⟩)
        | (rw [if_neg (fun q => c25 q.2.1)]; exact ⟨FX.refl ci _, rfl, xt⟩)
        | (rw [if_neg (fun q => c40 q.2.2)]; exact ⟨FX.refl ci _, rfl, xt⟩)
    · skip
      refine g_aload_n rfl rfl ?_
      refine g_ldcT rfl (by decide) ?_
      refine g_iload_n rfl rfl ?_
      refine g_callSI [aO (some (w 3)), aI 2] [aO (some c)] rfl rfl rfl rfl (Nat.le_of_ble_eq_true rfl) (x_sortAt (by omega) (tx 3 (by omega)) (by omega) 2) ?_
      rintro _ hq5 ⟨ehq5, rfl⟩
      rw [ehq5]
      clear ehq5 hq5
      refine g_top (v2 := aI 112) (congrArg aI (show chAt 3 2 = 112 by decide +kernel)) ?_
      refine g_iload rfl rfl ?_
      refine g_callVI [aI 112, aI e] [] rfl rfl rfl rfl (Nat.le_of_ble_eq_true rfl) (G0.cs.kd 0 (by omega) rfl) (x_isA (by omega) ci xt ok xn okn 112 e) ?_
      rintro _ hq6 ⟨ehq6, rfl⟩
      rw [ehq6]
      clear ehq6 hq6
      refine g_b_ne rfl (fun c40 => ?_) (fun c40 => ?_)
      · skip
        refine g_aload_n rfl rfl ?_
        refine g_getR rfl (G0.cs.kd 0 (by omega) rfl) (G0.cs.rf 1 (by omega) rfl) ?_
        have u11 := c11
        unfold isAS at u11
        have u25 := c25
        unfold isAS at u25
        have u40 := c40
        unfold isAS at u40
        refine g_callVN [] [] rfl rfl rfl rfl (Nat.le_of_ble_eq_true rfl) (G0.cs.kd 1 (by omega) rfl) (x_reset (by omega) ci) ?_
        rintro _ rfl
        obtain ⟨h0, eh0⟩ : ∃ h0, h0 = hw h (vset (hV h) (c + 1) 1 0) := ⟨_, rfl⟩
        rw [← eh0]
        have ci0 := ci.reset
        have xt0 := xt.reset
        have xn0 := xn.reset
        rw [← eh0] at ci0 xt0 xn0
        have ht : hV h0 (c + 1) 1 ≤ 10 := by rw [eh0]; show vset _ _ _ _ _ _ ≤ _; rw [vset_eq]; omega
        clear ci xt xn
        have ci := ci0
        have xt := xt0
        have xn := xn0
        clear ci0 xt0 xn0
        have G0 := Gr.refl ci
        refine g_iload_n rfl rfl ?_
        refine g_if_eq_f rfl (by omega) ?_
        refine g_iload_n rfl rfl ?_
        refine g_iconst rfl ?_
        refine g_icmp_ne_t rfl (by omega) ?_
        refine g_aload_n rfl rfl ?_
        refine g_getR rfl (G0.cs.kd 0 (by omega) rfl) (G0.cs.rf 11 (by omega) rfl) ?_
        refine g_iconst rfl ?_
        refine g_aload_n rfl rfl ?_
        refine g_iload_n rfl rfl ?_
        refine g_iload_n rfl rfl ?_
        refine g_iload_n rfl rfl ?_
        refine g_iload rfl rfl ?_
        refine g_callVO [aI 2, aI a, aI b, aI e] [aI 0, aO (some (c + 7))] rfl rfl rfl rfl (Nat.le_of_ble_eq_true rfl) (G0.cs.kd 0 (by omega) rfl) (f_pth2 (by omega) G0.ci xt ok xn okn a (by omega) b (by omega) e (by omega)) ?_
        rintro r7 h7 ⟨g7, q7⟩
        have G7 := G0.trans g7
        refine g_callVI [aI 0, aO r7] [] rfl rfl rfl rfl (Nat.le_of_ble_eq_true rfl) (G7.cs.kd 7 (by omega) rfl) (t_keepO (by omega) G7.ci (g7.xt G0.ci xt) ok 0 q7 (by omega)) ?_
        rintro r9 h9 ⟨kt9, er9, xt9⟩
        refine g_iret rfl ?_
        rw [if_pos ⟨c11, c25, c40⟩]
        exact ⟨(kt9.gr G7).fx eh0 (by omega), er9, xt9⟩
      · skip
        refine g_iconst rfl ?_
        refine g_iret rfl ?_
        first
          | (rw [if_neg (fun q => c11 q.1)]; exact ⟨FX.refl ci _, rfl, xt⟩)
          | (rw [if_neg (fun q => c25 q.2.1)]; exact ⟨FX.refl ci _, rfl, xt⟩)
          | (rw [if_neg (fun q => c40 q.2.2)]; exact ⟨FX.refl ci _, rfl, xt⟩)
set_option maxHeartbeats 4000000 in
theorem x_three3 {w : aW} {d : Nat} (hd : 9 ≤ d) {h : aH} {c : Nat} (ci : CI h c) {S : aS} (xt : XT h c S) (ok : OkT S) (xn : XN (hV h) c S) (okn : OkN S) (tx : ∀ i < 12, hT h (w i) = (8, i)) (a : Int) (b : Int) (e : Int) : WP w d 206 [aO (some c), aI 3, aI a, aI b, aI e] h (RI (fun r h1 => FX h h1 c (thT c) ∧ r = (if isAS S 112 a ∧ isAS S 112 b ∧ isAS S 112 e then keepP S 0 (p_cen_O (tpT S a) (tpT S b) (tpT S e)) else (-1, S)).1 ∧ XT h1 c (if isAS S 112 a ∧ isAS S 112 b ∧ isAS S 112 e then keepP S 0 (p_cen_O (tpT S a) (tpT S b) (tpT S e)) else (-1, S)).2)) := by
  obtain ⟨d, rfl⟩ : ∃ d1, d = d1 + 1 := ⟨d - 1, by omega⟩
  refine WP.enter (cd := cd_X11_three) rfl ?_
  have G0 := Gr.refl ci
  have hls : largs 0 [aO (some c), aI 3, aI a, aI b, aI e] = [(0, aO (some c)), (1, aI 3), (2, aI a), (3, aI b), (4, aI e)] := rfl
  rw [hls]
  clear hls
  refine g_aload_n rfl rfl ?_
  refine g_ldcT rfl (by decide) ?_
  refine g_iload_n rfl rfl ?_
  refine g_callSI [aO (some (w 3)), aI 3] [aO (some c)] rfl rfl rfl rfl (Nat.le_of_ble_eq_true rfl) (x_sortAt (by omega) (tx 3 (by omega)) (by omega) 3) ?_
  rintro _ hq1 ⟨ehq1, rfl⟩
  rw [ehq1]
  clear ehq1 hq1
  refine g_top (v2 := aI 112) (congrArg aI (show chAt 3 3 = 112 by decide +kernel)) ?_
  refine g_iload_n rfl rfl ?_
  refine g_callVI [aI 112, aI a] [] rfl rfl rfl rfl (Nat.le_of_ble_eq_true rfl) (G0.cs.kd 0 (by omega) rfl) (x_isA (by omega) ci xt ok xn okn 112 a) ?_
  rintro _ hq2 ⟨ehq2, rfl⟩
  rw [ehq2]
  clear ehq2 hq2
  refine g_b_eq rfl (fun c11 => ?_) (fun c11 => ?_)
  · skip
    refine g_iconst rfl ?_
    refine g_iret rfl ?_
    first
      | (rw [if_neg (fun q => c11 q.1)]; exact ⟨FX.refl ci _, rfl, xt⟩)
      | (rw [if_neg (fun q => c25 q.2.1)]; exact ⟨FX.refl ci _, rfl, xt⟩)
      | (rw [if_neg (fun q => c40 q.2.2)]; exact ⟨FX.refl ci _, rfl, xt⟩)
  · skip
    refine g_aload_n rfl rfl ?_
    refine g_ldcT rfl (by decide) ?_
    refine g_iload_n rfl rfl ?_
    refine g_callSI [aO (some (w 4)), aI 3] [aO (some c)] rfl rfl rfl rfl (Nat.le_of_ble_eq_true rfl) (x_sortAt (by omega) (tx 4 (by omega)) (by omega) 3) ?_
    rintro _ hq3 ⟨ehq3, rfl⟩
    rw [ehq3]
    clear ehq3 hq3
    refine g_top (v2 := aI 112) (congrArg aI (show chAt 4 3 = 112 by decide +kernel)) ?_
    refine g_iload_n rfl rfl ?_
    refine g_callVI [aI 112, aI b] [] rfl rfl rfl rfl (Nat.le_of_ble_eq_true rfl) (G0.cs.kd 0 (by omega) rfl) (x_isA (by omega) ci xt ok xn okn 112 b) ?_
    rintro _ hq4 ⟨ehq4, rfl⟩
    rw [ehq4]
    clear ehq4 hq4
    refine g_b_eq rfl (fun c25 => ?_) (fun c25 => ?_)
    · skip
      refine g_iconst rfl ?_
      refine g_iret rfl ?_
      first
        | (rw [if_neg (fun q => c11 q.1)]; exact ⟨FX.refl ci _, rfl, xt⟩)
        | (rw [if_neg (fun q => c25 q.2.1)]; exact ⟨FX.refl ci _, rfl, xt⟩)
        | (rw [if_neg (fun q => c40 q.2.2)]; exact ⟨FX.refl ci _, rfl, xt⟩)
    · skip
      refine g_aload_n rfl rfl ?_
      refine g_ldcT rfl (by decide) ?_
      refine g_iload_n rfl rfl ?_
      refine g_callSI [aO (some (w 3)), aI 3] [aO (some c)] rfl rfl rfl rfl (Nat.le_of_ble_eq_true rfl) (x_sortAt (by omega) (tx 3 (by omega)) (by omega) 3) ?_
      rintro _ hq5 ⟨ehq5, rfl⟩
      rw [ehq5]
      clear ehq5 hq5
      refine g_top (v2 := aI 112) (congrArg aI (show chAt 3 3 = 112 by decide +kernel)) ?_
      refine g_iload rfl rfl ?_
      refine g_callVI [aI 112, aI e] [] rfl rfl rfl rfl (Nat.le_of_ble_eq_true rfl) (G0.cs.kd 0 (by omega) rfl) (x_isA (by omega) ci xt ok xn okn 112 e) ?_
      rintro _ hq6 ⟨ehq6, rfl⟩
      rw [ehq6]
      clear ehq6 hq6
      refine g_b_ne rfl (fun c40 => ?_) (fun c40 => ?_)
      · skip
        refine g_aload_n rfl rfl ?_
        refine g_getR rfl (G0.cs.kd 0 (by omega) rfl) (G0.cs.rf 1 (by omega) rfl) ?_
        have u11 := c11
        unfold isAS at u11
        have u25 := c25
        unfold isAS at u25
        have u40 := c40
        unfold isAS at u40
        refine g_callVN [] [] rfl rfl rfl rfl (Nat.le_of_ble_eq_true rfl) (G0.cs.kd 1 (by omega) rfl) (x_reset (by omega) ci) ?_
        rintro _ rfl
        obtain ⟨h0, eh0⟩ : ∃ h0, h0 = hw h (vset (hV h) (c + 1) 1 0) := ⟨_, rfl⟩
        rw [← eh0]
        have ci0 := ci.reset
        have xt0 := xt.reset
        have xn0 := xn.reset
        rw [← eh0] at ci0 xt0 xn0
        have ht : hV h0 (c + 1) 1 ≤ 10 := by rw [eh0]; show vset _ _ _ _ _ _ ≤ _; rw [vset_eq]; omega
        clear ci xt xn
        have ci := ci0
        have xt := xt0
        have xn := xn0
        clear ci0 xt0 xn0
        have G0 := Gr.refl ci
        refine g_iload_n rfl rfl ?_
        refine g_if_eq_f rfl (by omega) ?_
        refine g_iload_n rfl rfl ?_
        refine g_iconst rfl ?_
        refine g_icmp_ne_t rfl (by omega) ?_
        refine g_aload_n rfl rfl ?_
        refine g_getR rfl (G0.cs.kd 0 (by omega) rfl) (G0.cs.rf 11 (by omega) rfl) ?_
        refine g_iconst rfl ?_
        refine g_aload_n rfl rfl ?_
        refine g_iload_n rfl rfl ?_
        refine g_iload_n rfl rfl ?_
        refine g_iload_n rfl rfl ?_
        refine g_iload rfl rfl ?_
        refine g_callVO [aI 3, aI a, aI b, aI e] [aI 0, aO (some (c + 7))] rfl rfl rfl rfl (Nat.le_of_ble_eq_true rfl) (G0.cs.kd 0 (by omega) rfl) (f_pth3 (by omega) G0.ci xt ok xn okn a (by omega) b (by omega) e (by omega)) ?_
        rintro r7 h7 ⟨g7, q7⟩
        have G7 := G0.trans g7
        refine g_callVI [aI 0, aO r7] [] rfl rfl rfl rfl (Nat.le_of_ble_eq_true rfl) (G7.cs.kd 7 (by omega) rfl) (t_keepO (by omega) G7.ci (g7.xt G0.ci xt) ok 0 q7 (by omega)) ?_
        rintro r9 h9 ⟨kt9, er9, xt9⟩
        refine g_iret rfl ?_
        rw [if_pos ⟨c11, c25, c40⟩]
        exact ⟨(kt9.gr G7).fx eh0 (by omega), er9, xt9⟩
      · skip
        refine g_iconst rfl ?_
        refine g_iret rfl ?_
        first
          | (rw [if_neg (fun q => c11 q.1)]; exact ⟨FX.refl ci _, rfl, xt⟩)
          | (rw [if_neg (fun q => c25 q.2.1)]; exact ⟨FX.refl ci _, rfl, xt⟩)
          | (rw [if_neg (fun q => c40 q.2.2)]; exact ⟨FX.refl ci _, rfl, xt⟩)
set_option maxHeartbeats 4000000 in
theorem x_three4 {w : aW} {d : Nat} (hd : 9 ≤ d) {h : aH} {c : Nat} (ci : CI h c) {S : aS} (xt : XT h c S) (ok : OkT S) (xn : XN (hV h) c S) (okn : OkN S) (tx : ∀ i < 12, hT h (w i) = (8, i)) (a : Int) (b : Int) (e : Int) : WP w d 206 [aO (some c), aI 4, aI a, aI b, aI e] h (RI (fun r h1 => FX h h1 c (thT c) ∧ r = (if isAS S 112 a ∧ isAS S 112 b ∧ isAS S 112 e then keepC S (p_nine_O (tpT S a) (tpT S b) (tpT S e)) else (-1, S)).1 ∧ XT h1 c (if isAS S 112 a ∧ isAS S 112 b ∧ isAS S 112 e then keepC S (p_nine_O (tpT S a) (tpT S b) (tpT S e)) else (-1, S)).2)) := by
  obtain ⟨d, rfl⟩ : ∃ d1, d = d1 + 1 := ⟨d - 1, by omega⟩
  refine WP.enter (cd := cd_X11_three) rfl ?_
  have G0 := Gr.refl ci
  have hls : largs 0 [aO (some c), aI 4, aI a, aI b, aI e] = [(0, aO (some c)), (1, aI 4), (2, aI a), (3, aI b), (4, aI e)] := rfl
  rw [hls]
  clear hls
  refine g_aload_n rfl rfl ?_
  refine g_ldcT rfl (by decide) ?_
  refine g_iload_n rfl rfl ?_
  refine g_callSI [aO (some (w 3)), aI 4] [aO (some c)] rfl rfl rfl rfl (Nat.le_of_ble_eq_true rfl) (x_sortAt (by omega) (tx 3 (by omega)) (by omega) 4) ?_
  rintro _ hq1 ⟨ehq1, rfl⟩
  rw [ehq1]
  clear ehq1 hq1
  refine g_top (v2 := aI 112) (congrArg aI (show chAt 3 4 = 112 by decide +kernel)) ?_
  refine g_iload_n rfl rfl ?_
  refine g_callVI [aI 112, aI a] [] rfl rfl rfl rfl (Nat.le_of_ble_eq_true rfl) (G0.cs.kd 0 (by omega) rfl) (x_isA (by omega) ci xt ok xn okn 112 a) ?_
  rintro _ hq2 ⟨ehq2, rfl⟩
  rw [ehq2]
  clear ehq2 hq2
  refine g_b_eq rfl (fun c11 => ?_) (fun c11 => ?_)
  · skip
    refine g_iconst rfl ?_
    refine g_iret rfl ?_
    first
      | (rw [if_neg (fun q => c11 q.1)]; exact ⟨FX.refl ci _, rfl, xt⟩)
      | (rw [if_neg (fun q => c25 q.2.1)]; exact ⟨FX.refl ci _, rfl, xt⟩)
      | (rw [if_neg (fun q => c40 q.2.2)]; exact ⟨FX.refl ci _, rfl, xt⟩)
  · skip
    refine g_aload_n rfl rfl ?_
    refine g_ldcT rfl (by decide) ?_
    refine g_iload_n rfl rfl ?_
    refine g_callSI [aO (some (w 4)), aI 4] [aO (some c)] rfl rfl rfl rfl (Nat.le_of_ble_eq_true rfl) (x_sortAt (by omega) (tx 4 (by omega)) (by omega) 4) ?_
    rintro _ hq3 ⟨ehq3, rfl⟩
    rw [ehq3]
    clear ehq3 hq3
    refine g_top (v2 := aI 112) (congrArg aI (show chAt 4 4 = 112 by decide +kernel)) ?_
    refine g_iload_n rfl rfl ?_
    refine g_callVI [aI 112, aI b] [] rfl rfl rfl rfl (Nat.le_of_ble_eq_true rfl) (G0.cs.kd 0 (by omega) rfl) (x_isA (by omega) ci xt ok xn okn 112 b) ?_
    rintro _ hq4 ⟨ehq4, rfl⟩
    rw [ehq4]
    clear ehq4 hq4
    refine g_b_eq rfl (fun c25 => ?_) (fun c25 => ?_)
    · skip
      refine g_iconst rfl ?_
      refine g_iret rfl ?_
      first
        | (rw [if_neg (fun q => c11 q.1)]; exact ⟨FX.refl ci _, rfl, xt⟩)
        | (rw [if_neg (fun q => c25 q.2.1)]; exact ⟨FX.refl ci _, rfl, xt⟩)
        | (rw [if_neg (fun q => c40 q.2.2)]; exact ⟨FX.refl ci _, rfl, xt⟩)
    · skip
      refine g_aload_n rfl rfl ?_
      refine g_ldcT rfl (by decide) ?_
      refine g_iload_n rfl rfl ?_
      refine g_callSI [aO (some (w 3)), aI 4] [aO (some c)] rfl rfl rfl rfl (Nat.le_of_ble_eq_true rfl) (x_sortAt (by omega) (tx 3 (by omega)) (by omega) 4) ?_
      rintro _ hq5 ⟨ehq5, rfl⟩
      rw [ehq5]
      clear ehq5 hq5
      refine g_top (v2 := aI 112) (congrArg aI (show chAt 3 4 = 112 by decide +kernel)) ?_
      refine g_iload rfl rfl ?_
      refine g_callVI [aI 112, aI e] [] rfl rfl rfl rfl (Nat.le_of_ble_eq_true rfl) (G0.cs.kd 0 (by omega) rfl) (x_isA (by omega) ci xt ok xn okn 112 e) ?_
      rintro _ hq6 ⟨ehq6, rfl⟩
      rw [ehq6]
      clear ehq6 hq6
      refine g_b_ne rfl (fun c40 => ?_) (fun c40 => ?_)
      · skip
        refine g_aload_n rfl rfl ?_
        refine g_getR rfl (G0.cs.kd 0 (by omega) rfl) (G0.cs.rf 1 (by omega) rfl) ?_
        have u11 := c11
        unfold isAS at u11
        have u25 := c25
        unfold isAS at u25
        have u40 := c40
        unfold isAS at u40
        refine g_callVN [] [] rfl rfl rfl rfl (Nat.le_of_ble_eq_true rfl) (G0.cs.kd 1 (by omega) rfl) (x_reset (by omega) ci) ?_
        rintro _ rfl
        obtain ⟨h0, eh0⟩ : ∃ h0, h0 = hw h (vset (hV h) (c + 1) 1 0) := ⟨_, rfl⟩
        rw [← eh0]
        have ci0 := ci.reset
        have xt0 := xt.reset
        have xn0 := xn.reset
        rw [← eh0] at ci0 xt0 xn0
        have ht : hV h0 (c + 1) 1 ≤ 10 := by rw [eh0]; show vset _ _ _ _ _ _ ≤ _; rw [vset_eq]; omega
        clear ci xt xn
        have ci := ci0
        have xt := xt0
        have xn := xn0
        clear ci0 xt0 xn0
        have G0 := Gr.refl ci
        refine g_iload_n rfl rfl ?_
        refine g_if_eq_f rfl (by omega) ?_
        refine g_iload_n rfl rfl ?_
        refine g_iconst rfl ?_
        refine g_icmp_ne_f rfl (by omega) ?_
        refine g_aload_n rfl rfl ?_
        refine g_getR rfl (G0.cs.kd 0 (by omega) rfl) (G0.cs.rf 11 (by omega) rfl) ?_
        refine g_aload_n rfl rfl ?_
        refine g_iload_n rfl rfl ?_
        refine g_iload_n rfl rfl ?_
        refine g_iload_n rfl rfl ?_
        refine g_iload rfl rfl ?_
        refine g_callVO [aI 4, aI a, aI b, aI e] [aO (some (c + 7))] rfl rfl rfl rfl (Nat.le_of_ble_eq_true rfl) (G0.cs.kd 0 (by omega) rfl) (f_rth4 (by omega) G0.ci xt ok xn okn a (by omega) b (by omega) e (by omega)) ?_
        rintro r7 h7 ⟨g7, q7⟩
        have G7 := G0.trans g7
        refine g_callVI [aO r7] [] rfl rfl rfl rfl (Nat.le_of_ble_eq_true rfl) (G7.cs.kd 7 (by omega) rfl) (t_keepCO (by omega) G7.ci (g7.xt G0.ci xt) ok q7 (by omega)) ?_
        rintro r9 h9 ⟨kt9, er9, xt9⟩
        refine g_iret rfl ?_
        rw [if_pos ⟨c11, c25, c40⟩]
        exact ⟨(kt9.gr G7).fx eh0 (by omega), er9, xt9⟩
      · skip
        refine g_iconst rfl ?_
        refine g_iret rfl ?_
        first
          | (rw [if_neg (fun q => c11 q.1)]; exact ⟨FX.refl ci _, rfl, xt⟩)
          | (rw [if_neg (fun q => c25 q.2.1)]; exact ⟨FX.refl ci _, rfl, xt⟩)
          | (rw [if_neg (fun q => c40 q.2.2)]; exact ⟨FX.refl ci _, rfl, xt⟩)
set_option maxHeartbeats 4000000 in
theorem x_three5 {w : aW} {d : Nat} (hd : 9 ≤ d) {h : aH} {c : Nat} (ci : CI h c) {S : aS} (xt : XT h c S) (ok : OkT S) (xn : XN (hV h) c S) (okn : OkN S) (tx : ∀ i < 12, hT h (w i) = (8, i)) (a : Int) (b : Int) (e : Int) : WP w d 206 [aO (some c), aI 5, aI a, aI b, aI e] h (RI (fun r h1 => FX h h1 c (thT c) ∧ r = (if isAS S 112 a ∧ isAS S 112 b ∧ isAS S 112 e then keepP S 0 (p_harm_O (tpT S a) (tpT S b) (tpT S e)) else (-1, S)).1 ∧ XT h1 c (if isAS S 112 a ∧ isAS S 112 b ∧ isAS S 112 e then keepP S 0 (p_harm_O (tpT S a) (tpT S b) (tpT S e)) else (-1, S)).2)) := by
  obtain ⟨d, rfl⟩ : ∃ d1, d = d1 + 1 := ⟨d - 1, by omega⟩
  refine WP.enter (cd := cd_X11_three) rfl ?_
  have G0 := Gr.refl ci
  have hls : largs 0 [aO (some c), aI 5, aI a, aI b, aI e] = [(0, aO (some c)), (1, aI 5), (2, aI a), (3, aI b), (4, aI e)] := rfl
  rw [hls]
  clear hls
  refine g_aload_n rfl rfl ?_
  refine g_ldcT rfl (by decide) ?_
  refine g_iload_n rfl rfl ?_
  refine g_callSI [aO (some (w 3)), aI 5] [aO (some c)] rfl rfl rfl rfl (Nat.le_of_ble_eq_true rfl) (x_sortAt (by omega) (tx 3 (by omega)) (by omega) 5) ?_
  rintro _ hq1 ⟨ehq1, rfl⟩
  rw [ehq1]
  clear ehq1 hq1
  refine g_top (v2 := aI 112) (congrArg aI (show chAt 3 5 = 112 by decide +kernel)) ?_
  refine g_iload_n rfl rfl ?_
  refine g_callVI [aI 112, aI a] [] rfl rfl rfl rfl (Nat.le_of_ble_eq_true rfl) (G0.cs.kd 0 (by omega) rfl) (x_isA (by omega) ci xt ok xn okn 112 a) ?_
  rintro _ hq2 ⟨ehq2, rfl⟩
  rw [ehq2]
  clear ehq2 hq2
  refine g_b_eq rfl (fun c11 => ?_) (fun c11 => ?_)
  · skip
    refine g_iconst rfl ?_
    refine g_iret rfl ?_
    first
      | (rw [if_neg (fun q => c11 q.1)]; exact ⟨FX.refl ci _, rfl, xt⟩)
      | (rw [if_neg (fun q => c25 q.2.1)]; exact ⟨FX.refl ci _, rfl, xt⟩)
      | (rw [if_neg (fun q => c40 q.2.2)]; exact ⟨FX.refl ci _, rfl, xt⟩)
  · skip
    refine g_aload_n rfl rfl ?_
    refine g_ldcT rfl (by decide) ?_
    refine g_iload_n rfl rfl ?_
    refine g_callSI [aO (some (w 4)), aI 5] [aO (some c)] rfl rfl rfl rfl (Nat.le_of_ble_eq_true rfl) (x_sortAt (by omega) (tx 4 (by omega)) (by omega) 5) ?_
    rintro _ hq3 ⟨ehq3, rfl⟩
    rw [ehq3]
    clear ehq3 hq3
    refine g_top (v2 := aI 112) (congrArg aI (show chAt 4 5 = 112 by decide +kernel)) ?_
    refine g_iload_n rfl rfl ?_
    refine g_callVI [aI 112, aI b] [] rfl rfl rfl rfl (Nat.le_of_ble_eq_true rfl) (G0.cs.kd 0 (by omega) rfl) (x_isA (by omega) ci xt ok xn okn 112 b) ?_
    rintro _ hq4 ⟨ehq4, rfl⟩
    rw [ehq4]
    clear ehq4 hq4
    refine g_b_eq rfl (fun c25 => ?_) (fun c25 => ?_)
    · skip
      refine g_iconst rfl ?_
      refine g_iret rfl ?_
      first
        | (rw [if_neg (fun q => c11 q.1)]; exact ⟨FX.refl ci _, rfl, xt⟩)
        | (rw [if_neg (fun q => c25 q.2.1)]; exact ⟨FX.refl ci _, rfl, xt⟩)
        | (rw [if_neg (fun q => c40 q.2.2)]; exact ⟨FX.refl ci _, rfl, xt⟩)
    · skip
      refine g_aload_n rfl rfl ?_
      refine g_ldcT rfl (by decide) ?_
      refine g_iload_n rfl rfl ?_
      refine g_callSI [aO (some (w 3)), aI 5] [aO (some c)] rfl rfl rfl rfl (Nat.le_of_ble_eq_true rfl) (x_sortAt (by omega) (tx 3 (by omega)) (by omega) 5) ?_
      rintro _ hq5 ⟨ehq5, rfl⟩
      rw [ehq5]
      clear ehq5 hq5
      refine g_top (v2 := aI 112) (congrArg aI (show chAt 3 5 = 112 by decide +kernel)) ?_
      refine g_iload rfl rfl ?_
      refine g_callVI [aI 112, aI e] [] rfl rfl rfl rfl (Nat.le_of_ble_eq_true rfl) (G0.cs.kd 0 (by omega) rfl) (x_isA (by omega) ci xt ok xn okn 112 e) ?_
      rintro _ hq6 ⟨ehq6, rfl⟩
      rw [ehq6]
      clear ehq6 hq6
      refine g_b_ne rfl (fun c40 => ?_) (fun c40 => ?_)
      · skip
        refine g_aload_n rfl rfl ?_
        refine g_getR rfl (G0.cs.kd 0 (by omega) rfl) (G0.cs.rf 1 (by omega) rfl) ?_
        have u11 := c11
        unfold isAS at u11
        have u25 := c25
        unfold isAS at u25
        have u40 := c40
        unfold isAS at u40
        refine g_callVN [] [] rfl rfl rfl rfl (Nat.le_of_ble_eq_true rfl) (G0.cs.kd 1 (by omega) rfl) (x_reset (by omega) ci) ?_
        rintro _ rfl
        obtain ⟨h0, eh0⟩ : ∃ h0, h0 = hw h (vset (hV h) (c + 1) 1 0) := ⟨_, rfl⟩
        rw [← eh0]
        have ci0 := ci.reset
        have xt0 := xt.reset
        have xn0 := xn.reset
        rw [← eh0] at ci0 xt0 xn0
        have ht : hV h0 (c + 1) 1 ≤ 10 := by rw [eh0]; show vset _ _ _ _ _ _ ≤ _; rw [vset_eq]; omega
        clear ci xt xn
        have ci := ci0
        have xt := xt0
        have xn := xn0
        clear ci0 xt0 xn0
        have G0 := Gr.refl ci
        refine g_iload_n rfl rfl ?_
        refine g_if_eq_f rfl (by omega) ?_
        refine g_iload_n rfl rfl ?_
        refine g_iconst rfl ?_
        refine g_icmp_ne_t rfl (by omega) ?_
        refine g_aload_n rfl rfl ?_
        refine g_getR rfl (G0.cs.kd 0 (by omega) rfl) (G0.cs.rf 11 (by omega) rfl) ?_
        refine g_iconst rfl ?_
        refine g_aload_n rfl rfl ?_
        refine g_iload_n rfl rfl ?_
        refine g_iload_n rfl rfl ?_
        refine g_iload_n rfl rfl ?_
        refine g_iload rfl rfl ?_
        refine g_callVO [aI 5, aI a, aI b, aI e] [aI 0, aO (some (c + 7))] rfl rfl rfl rfl (Nat.le_of_ble_eq_true rfl) (G0.cs.kd 0 (by omega) rfl) (f_pth5 (by omega) G0.ci xt ok xn okn a (by omega) b (by omega) e (by omega)) ?_
        rintro r7 h7 ⟨g7, q7⟩
        have G7 := G0.trans g7
        refine g_callVI [aI 0, aO r7] [] rfl rfl rfl rfl (Nat.le_of_ble_eq_true rfl) (G7.cs.kd 7 (by omega) rfl) (t_keepO (by omega) G7.ci (g7.xt G0.ci xt) ok 0 q7 (by omega)) ?_
        rintro r9 h9 ⟨kt9, er9, xt9⟩
        refine g_iret rfl ?_
        rw [if_pos ⟨c11, c25, c40⟩]
        exact ⟨(kt9.gr G7).fx eh0 (by omega), er9, xt9⟩
      · skip
        refine g_iconst rfl ?_
        refine g_iret rfl ?_
        first
          | (rw [if_neg (fun q => c11 q.1)]; exact ⟨FX.refl ci _, rfl, xt⟩)
          | (rw [if_neg (fun q => c25 q.2.1)]; exact ⟨FX.refl ci _, rfl, xt⟩)
          | (rw [if_neg (fun q => c40 q.2.2)]; exact ⟨FX.refl ci _, rfl, xt⟩)
set_option maxHeartbeats 4000000 in
theorem x_three6 {w : aW} {d : Nat} (hd : 9 ≤ d) {h : aH} {c : Nat} (ci : CI h c) {S : aS} (xt : XT h c S) (ok : OkT S) (xn : XN (hV h) c S) (okn : OkN S) (tx : ∀ i < 12, hT h (w i) = (8, i)) (a : Int) (b : Int) (e : Int) : WP w d 206 [aO (some c), aI 6, aI a, aI b, aI e] h (RI (fun r h1 => FX h h1 c (thT c) ∧ r = (if isAS S 112 a ∧ isAS S 112 b ∧ isAS S 112 e then keepP S 0 (p_moved_O (tpT S a) (tpT S b) (tpT S e)) else (-1, S)).1 ∧ XT h1 c (if isAS S 112 a ∧ isAS S 112 b ∧ isAS S 112 e then keepP S 0 (p_moved_O (tpT S a) (tpT S b) (tpT S e)) else (-1, S)).2)) := by
  obtain ⟨d, rfl⟩ : ∃ d1, d = d1 + 1 := ⟨d - 1, by omega⟩
  refine WP.enter (cd := cd_X11_three) rfl ?_
  have G0 := Gr.refl ci
  have hls : largs 0 [aO (some c), aI 6, aI a, aI b, aI e] = [(0, aO (some c)), (1, aI 6), (2, aI a), (3, aI b), (4, aI e)] := rfl
  rw [hls]
  clear hls
  refine g_aload_n rfl rfl ?_
  refine g_ldcT rfl (by decide) ?_
  refine g_iload_n rfl rfl ?_
  refine g_callSI [aO (some (w 3)), aI 6] [aO (some c)] rfl rfl rfl rfl (Nat.le_of_ble_eq_true rfl) (x_sortAt (by omega) (tx 3 (by omega)) (by omega) 6) ?_
  rintro _ hq1 ⟨ehq1, rfl⟩
  rw [ehq1]
  clear ehq1 hq1
  refine g_top (v2 := aI 112) (congrArg aI (show chAt 3 6 = 112 by decide +kernel)) ?_
  refine g_iload_n rfl rfl ?_
  refine g_callVI [aI 112, aI a] [] rfl rfl rfl rfl (Nat.le_of_ble_eq_true rfl) (G0.cs.kd 0 (by omega) rfl) (x_isA (by omega) ci xt ok xn okn 112 a) ?_
  rintro _ hq2 ⟨ehq2, rfl⟩
  rw [ehq2]
  clear ehq2 hq2
  refine g_b_eq rfl (fun c11 => ?_) (fun c11 => ?_)
  · skip
    refine g_iconst rfl ?_
    refine g_iret rfl ?_
    first
      | (rw [if_neg (fun q => c11 q.1)]; exact ⟨FX.refl ci _, rfl, xt⟩)
      | (rw [if_neg (fun q => c25 q.2.1)]; exact ⟨FX.refl ci _, rfl, xt⟩)
      | (rw [if_neg (fun q => c40 q.2.2)]; exact ⟨FX.refl ci _, rfl, xt⟩)
  · skip
    refine g_aload_n rfl rfl ?_
    refine g_ldcT rfl (by decide) ?_
    refine g_iload_n rfl rfl ?_
    refine g_callSI [aO (some (w 4)), aI 6] [aO (some c)] rfl rfl rfl rfl (Nat.le_of_ble_eq_true rfl) (x_sortAt (by omega) (tx 4 (by omega)) (by omega) 6) ?_
    rintro _ hq3 ⟨ehq3, rfl⟩
    rw [ehq3]
    clear ehq3 hq3
    refine g_top (v2 := aI 112) (congrArg aI (show chAt 4 6 = 112 by decide +kernel)) ?_
    refine g_iload_n rfl rfl ?_
    refine g_callVI [aI 112, aI b] [] rfl rfl rfl rfl (Nat.le_of_ble_eq_true rfl) (G0.cs.kd 0 (by omega) rfl) (x_isA (by omega) ci xt ok xn okn 112 b) ?_
    rintro _ hq4 ⟨ehq4, rfl⟩
    rw [ehq4]
    clear ehq4 hq4
    refine g_b_eq rfl (fun c25 => ?_) (fun c25 => ?_)
    · skip
      refine g_iconst rfl ?_
      refine g_iret rfl ?_
      first
        | (rw [if_neg (fun q => c11 q.1)]; exact ⟨FX.refl ci _, rfl, xt⟩)
        | (rw [if_neg (fun q => c25 q.2.1)]; exact ⟨FX.refl ci _, rfl, xt⟩)
        | (rw [if_neg (fun q => c40 q.2.2)]; exact ⟨FX.refl ci _, rfl, xt⟩)
    · skip
      refine g_aload_n rfl rfl ?_
      refine g_ldcT rfl (by decide) ?_
      refine g_iload_n rfl rfl ?_
      refine g_callSI [aO (some (w 3)), aI 6] [aO (some c)] rfl rfl rfl rfl (Nat.le_of_ble_eq_true rfl) (x_sortAt (by omega) (tx 3 (by omega)) (by omega) 6) ?_
      rintro _ hq5 ⟨ehq5, rfl⟩
      rw [ehq5]
      clear ehq5 hq5
      refine g_top (v2 := aI 112) (congrArg aI (show chAt 3 6 = 112 by decide +kernel)) ?_
      refine g_iload rfl rfl ?_
      refine g_callVI [aI 112, aI e] [] rfl rfl rfl rfl (Nat.le_of_ble_eq_true rfl) (G0.cs.kd 0 (by omega) rfl) (x_isA (by omega) ci xt ok xn okn 112 e) ?_
      rintro _ hq6 ⟨ehq6, rfl⟩
      rw [ehq6]
      clear ehq6 hq6
      refine g_b_ne rfl (fun c40 => ?_) (fun c40 => ?_)
      · skip
        refine g_aload_n rfl rfl ?_
        refine g_getR rfl (G0.cs.kd 0 (by omega) rfl) (G0.cs.rf 1 (by omega) rfl) ?_
        have u11 := c11
        unfold isAS at u11
        have u25 := c25
        unfold isAS at u25
        have u40 := c40
        unfold isAS at u40
        refine g_callVN [] [] rfl rfl rfl rfl (Nat.le_of_ble_eq_true rfl) (G0.cs.kd 1 (by omega) rfl) (x_reset (by omega) ci) ?_
        rintro _ rfl
        obtain ⟨h0, eh0⟩ : ∃ h0, h0 = hw h (vset (hV h) (c + 1) 1 0) := ⟨_, rfl⟩
        rw [← eh0]
        have ci0 := ci.reset
        have xt0 := xt.reset
        have xn0 := xn.reset
        rw [← eh0] at ci0 xt0 xn0
        have ht : hV h0 (c + 1) 1 ≤ 10 := by rw [eh0]; show vset _ _ _ _ _ _ ≤ _; rw [vset_eq]; omega
        clear ci xt xn
        have ci := ci0
        have xt := xt0
        have xn := xn0
        clear ci0 xt0 xn0
        have G0 := Gr.refl ci
        refine g_iload_n rfl rfl ?_
        refine g_if_eq_f rfl (by omega) ?_
        refine g_iload_n rfl rfl ?_
        refine g_iconst rfl ?_
        refine g_icmp_ne_t rfl (by omega) ?_
        refine g_aload_n rfl rfl ?_
        refine g_getR rfl (G0.cs.kd 0 (by omega) rfl) (G0.cs.rf 11 (by omega) rfl) ?_
        refine g_iconst rfl ?_
        refine g_aload_n rfl rfl ?_
        refine g_iload_n rfl rfl ?_
        refine g_iload_n rfl rfl ?_
        refine g_iload_n rfl rfl ?_
        refine g_iload rfl rfl ?_
        refine g_callVO [aI 6, aI a, aI b, aI e] [aI 0, aO (some (c + 7))] rfl rfl rfl rfl (Nat.le_of_ble_eq_true rfl) (G0.cs.kd 0 (by omega) rfl) (f_pth6 (by omega) G0.ci xt ok xn okn a (by omega) b (by omega) e (by omega)) ?_
        rintro r7 h7 ⟨g7, q7⟩
        have G7 := G0.trans g7
        refine g_callVI [aI 0, aO r7] [] rfl rfl rfl rfl (Nat.le_of_ble_eq_true rfl) (G7.cs.kd 7 (by omega) rfl) (t_keepO (by omega) G7.ci (g7.xt G0.ci xt) ok 0 q7 (by omega)) ?_
        rintro r9 h9 ⟨kt9, er9, xt9⟩
        refine g_iret rfl ?_
        rw [if_pos ⟨c11, c25, c40⟩]
        exact ⟨(kt9.gr G7).fx eh0 (by omega), er9, xt9⟩
      · skip
        refine g_iconst rfl ?_
        refine g_iret rfl ?_
        first
          | (rw [if_neg (fun q => c11 q.1)]; exact ⟨FX.refl ci _, rfl, xt⟩)
          | (rw [if_neg (fun q => c25 q.2.1)]; exact ⟨FX.refl ci _, rfl, xt⟩)
          | (rw [if_neg (fun q => c40 q.2.2)]; exact ⟨FX.refl ci _, rfl, xt⟩)
set_option maxHeartbeats 4000000 in
theorem x_three7 {w : aW} {d : Nat} (hd : 9 ≤ d) {h : aH} {c : Nat} (ci : CI h c) {S : aS} (xt : XT h c S) (ok : OkT S) (xn : XN (hV h) c S) (okn : OkN S) (tx : ∀ i < 12, hT h (w i) = (8, i)) (a : Int) (b : Int) (e : Int) : WP w d 206 [aO (some c), aI 7, aI a, aI b, aI e] h (RI (fun r h1 => FX h h1 c (thT c) ∧ r = (if isAS S 112 a ∧ isAS S 116 b ∧ isAS S 112 e then keepP S 0 (p_turned_O (tpT S a) (tpT S e)) else (-1, S)).1 ∧ XT h1 c (if isAS S 112 a ∧ isAS S 116 b ∧ isAS S 112 e then keepP S 0 (p_turned_O (tpT S a) (tpT S e)) else (-1, S)).2)) := by
  obtain ⟨d, rfl⟩ : ∃ d1, d = d1 + 1 := ⟨d - 1, by omega⟩
  refine WP.enter (cd := cd_X11_three) rfl ?_
  have G0 := Gr.refl ci
  have hls : largs 0 [aO (some c), aI 7, aI a, aI b, aI e] = [(0, aO (some c)), (1, aI 7), (2, aI a), (3, aI b), (4, aI e)] := rfl
  rw [hls]
  clear hls
  refine g_aload_n rfl rfl ?_
  refine g_ldcT rfl (by decide) ?_
  refine g_iload_n rfl rfl ?_
  refine g_callSI [aO (some (w 3)), aI 7] [aO (some c)] rfl rfl rfl rfl (Nat.le_of_ble_eq_true rfl) (x_sortAt (by omega) (tx 3 (by omega)) (by omega) 7) ?_
  rintro _ hq1 ⟨ehq1, rfl⟩
  rw [ehq1]
  clear ehq1 hq1
  refine g_top (v2 := aI 112) (congrArg aI (show chAt 3 7 = 112 by decide +kernel)) ?_
  refine g_iload_n rfl rfl ?_
  refine g_callVI [aI 112, aI a] [] rfl rfl rfl rfl (Nat.le_of_ble_eq_true rfl) (G0.cs.kd 0 (by omega) rfl) (x_isA (by omega) ci xt ok xn okn 112 a) ?_
  rintro _ hq2 ⟨ehq2, rfl⟩
  rw [ehq2]
  clear ehq2 hq2
  refine g_b_eq rfl (fun c11 => ?_) (fun c11 => ?_)
  · skip
    refine g_iconst rfl ?_
    refine g_iret rfl ?_
    first
      | (rw [if_neg (fun q => c11 q.1)]; exact ⟨FX.refl ci _, rfl, xt⟩)
      | (rw [if_neg (fun q => c25 q.2.1)]; exact ⟨FX.refl ci _, rfl, xt⟩)
      | (rw [if_neg (fun q => c40 q.2.2)]; exact ⟨FX.refl ci _, rfl, xt⟩)
  · skip
    refine g_aload_n rfl rfl ?_
    refine g_ldcT rfl (by decide) ?_
    refine g_iload_n rfl rfl ?_
    refine g_callSI [aO (some (w 4)), aI 7] [aO (some c)] rfl rfl rfl rfl (Nat.le_of_ble_eq_true rfl) (x_sortAt (by omega) (tx 4 (by omega)) (by omega) 7) ?_
    rintro _ hq3 ⟨ehq3, rfl⟩
    rw [ehq3]
    clear ehq3 hq3
    refine g_top (v2 := aI 116) (congrArg aI (show chAt 4 7 = 116 by decide +kernel)) ?_
    refine g_iload_n rfl rfl ?_
    refine g_callVI [aI 116, aI b] [] rfl rfl rfl rfl (Nat.le_of_ble_eq_true rfl) (G0.cs.kd 0 (by omega) rfl) (x_isA (by omega) ci xt ok xn okn 116 b) ?_
    rintro _ hq4 ⟨ehq4, rfl⟩
    rw [ehq4]
    clear ehq4 hq4
    refine g_b_eq rfl (fun c25 => ?_) (fun c25 => ?_)
    · skip
      refine g_iconst rfl ?_
      refine g_iret rfl ?_
      first
        | (rw [if_neg (fun q => c11 q.1)]; exact ⟨FX.refl ci _, rfl, xt⟩)
        | (rw [if_neg (fun q => c25 q.2.1)]; exact ⟨FX.refl ci _, rfl, xt⟩)
        | (rw [if_neg (fun q => c40 q.2.2)]; exact ⟨FX.refl ci _, rfl, xt⟩)
    · skip
      refine g_aload_n rfl rfl ?_
      refine g_ldcT rfl (by decide) ?_
      refine g_iload_n rfl rfl ?_
      refine g_callSI [aO (some (w 3)), aI 7] [aO (some c)] rfl rfl rfl rfl (Nat.le_of_ble_eq_true rfl) (x_sortAt (by omega) (tx 3 (by omega)) (by omega) 7) ?_
      rintro _ hq5 ⟨ehq5, rfl⟩
      rw [ehq5]
      clear ehq5 hq5
      refine g_top (v2 := aI 112) (congrArg aI (show chAt 3 7 = 112 by decide +kernel)) ?_
      refine g_iload rfl rfl ?_
      refine g_callVI [aI 112, aI e] [] rfl rfl rfl rfl (Nat.le_of_ble_eq_true rfl) (G0.cs.kd 0 (by omega) rfl) (x_isA (by omega) ci xt ok xn okn 112 e) ?_
      rintro _ hq6 ⟨ehq6, rfl⟩
      rw [ehq6]
      clear ehq6 hq6
      refine g_b_ne rfl (fun c40 => ?_) (fun c40 => ?_)
      · skip
        refine g_aload_n rfl rfl ?_
        refine g_getR rfl (G0.cs.kd 0 (by omega) rfl) (G0.cs.rf 1 (by omega) rfl) ?_
        have u11 := c11
        unfold isAS at u11
        have u25 := c25
        unfold isAS at u25
        have u40 := c40
        unfold isAS at u40
        refine g_callVN [] [] rfl rfl rfl rfl (Nat.le_of_ble_eq_true rfl) (G0.cs.kd 1 (by omega) rfl) (x_reset (by omega) ci) ?_
        rintro _ rfl
        obtain ⟨h0, eh0⟩ : ∃ h0, h0 = hw h (vset (hV h) (c + 1) 1 0) := ⟨_, rfl⟩
        rw [← eh0]
        have ci0 := ci.reset
        have xt0 := xt.reset
        have xn0 := xn.reset
        rw [← eh0] at ci0 xt0 xn0
        have ht : hV h0 (c + 1) 1 ≤ 10 := by rw [eh0]; show vset _ _ _ _ _ _ ≤ _; rw [vset_eq]; omega
        clear ci xt xn
        have ci := ci0
        have xt := xt0
        have xn := xn0
        clear ci0 xt0 xn0
        have G0 := Gr.refl ci
        refine g_iload_n rfl rfl ?_
        refine g_if_eq_f rfl (by omega) ?_
        refine g_iload_n rfl rfl ?_
        refine g_iconst rfl ?_
        refine g_icmp_ne_t rfl (by omega) ?_
        refine g_aload_n rfl rfl ?_
        refine g_getR rfl (G0.cs.kd 0 (by omega) rfl) (G0.cs.rf 11 (by omega) rfl) ?_
        refine g_iconst rfl ?_
        refine g_aload_n rfl rfl ?_
        refine g_iload_n rfl rfl ?_
        refine g_iload_n rfl rfl ?_
        refine g_iload_n rfl rfl ?_
        refine g_iload rfl rfl ?_
        refine g_callVO [aI 7, aI a, aI b, aI e] [aI 0, aO (some (c + 7))] rfl rfl rfl rfl (Nat.le_of_ble_eq_true rfl) (G0.cs.kd 0 (by omega) rfl) (f_pth7 (by omega) G0.ci xt ok xn okn a (by omega) b e (by omega)) ?_
        rintro r7 h7 ⟨g7, q7⟩
        have G7 := G0.trans g7
        refine g_callVI [aI 0, aO r7] [] rfl rfl rfl rfl (Nat.le_of_ble_eq_true rfl) (G7.cs.kd 7 (by omega) rfl) (t_keepO (by omega) G7.ci (g7.xt G0.ci xt) ok 0 q7 (by omega)) ?_
        rintro r9 h9 ⟨kt9, er9, xt9⟩
        refine g_iret rfl ?_
        rw [if_pos ⟨c11, c25, c40⟩]
        exact ⟨(kt9.gr G7).fx eh0 (by omega), er9, xt9⟩
      · skip
        refine g_iconst rfl ?_
        refine g_iret rfl ?_
        first
          | (rw [if_neg (fun q => c11 q.1)]; exact ⟨FX.refl ci _, rfl, xt⟩)
          | (rw [if_neg (fun q => c25 q.2.1)]; exact ⟨FX.refl ci _, rfl, xt⟩)
          | (rw [if_neg (fun q => c40 q.2.2)]; exact ⟨FX.refl ci _, rfl, xt⟩)
set_option maxHeartbeats 4000000 in
theorem x_three8 {w : aW} {d : Nat} (hd : 9 ≤ d) {h : aH} {c : Nat} (ci : CI h c) {S : aS} (xt : XT h c S) (ok : OkT S) (xn : XN (hV h) c S) (okn : OkN S) (tx : ∀ i < 12, hT h (w i) = (8, i)) (a : Int) (b : Int) (e : Int) : WP w d 206 [aO (some c), aI 8, aI a, aI b, aI e] h (RI (fun r h1 => FX h h1 c (thT c) ∧ r = (if isAS S 112 a ∧ isAS S 110 b ∧ isAS S 112 e then keepP S 0 (p_str_O (tpT S a) (tpT S e) (sNu S b.toNat).1 (sNu S b.toNat).2) else (-1, S)).1 ∧ XT h1 c (if isAS S 112 a ∧ isAS S 110 b ∧ isAS S 112 e then keepP S 0 (p_str_O (tpT S a) (tpT S e) (sNu S b.toNat).1 (sNu S b.toNat).2) else (-1, S)).2)) := by
  obtain ⟨d, rfl⟩ : ∃ d1, d = d1 + 1 := ⟨d - 1, by omega⟩
  refine WP.enter (cd := cd_X11_three) rfl ?_
  have G0 := Gr.refl ci
  have hls : largs 0 [aO (some c), aI 8, aI a, aI b, aI e] = [(0, aO (some c)), (1, aI 8), (2, aI a), (3, aI b), (4, aI e)] := rfl
  rw [hls]
  clear hls
  refine g_aload_n rfl rfl ?_
  refine g_ldcT rfl (by decide) ?_
  refine g_iload_n rfl rfl ?_
  refine g_callSI [aO (some (w 3)), aI 8] [aO (some c)] rfl rfl rfl rfl (Nat.le_of_ble_eq_true rfl) (x_sortAt (by omega) (tx 3 (by omega)) (by omega) 8) ?_
  rintro _ hq1 ⟨ehq1, rfl⟩
  rw [ehq1]
  clear ehq1 hq1
  refine g_top (v2 := aI 112) (congrArg aI (show chAt 3 8 = 112 by decide +kernel)) ?_
  refine g_iload_n rfl rfl ?_
  refine g_callVI [aI 112, aI a] [] rfl rfl rfl rfl (Nat.le_of_ble_eq_true rfl) (G0.cs.kd 0 (by omega) rfl) (x_isA (by omega) ci xt ok xn okn 112 a) ?_
  rintro _ hq2 ⟨ehq2, rfl⟩
  rw [ehq2]
  clear ehq2 hq2
  refine g_b_eq rfl (fun c11 => ?_) (fun c11 => ?_)
  · skip
    refine g_iconst rfl ?_
    refine g_iret rfl ?_
    first
      | (rw [if_neg (fun q => c11 q.1)]; exact ⟨FX.refl ci _, rfl, xt⟩)
      | (rw [if_neg (fun q => c25 q.2.1)]; exact ⟨FX.refl ci _, rfl, xt⟩)
      | (rw [if_neg (fun q => c40 q.2.2)]; exact ⟨FX.refl ci _, rfl, xt⟩)
  · skip
    refine g_aload_n rfl rfl ?_
    refine g_ldcT rfl (by decide) ?_
    refine g_iload_n rfl rfl ?_
    refine g_callSI [aO (some (w 4)), aI 8] [aO (some c)] rfl rfl rfl rfl (Nat.le_of_ble_eq_true rfl) (x_sortAt (by omega) (tx 4 (by omega)) (by omega) 8) ?_
    rintro _ hq3 ⟨ehq3, rfl⟩
    rw [ehq3]
    clear ehq3 hq3
    refine g_top (v2 := aI 110) (congrArg aI (show chAt 4 8 = 110 by decide +kernel)) ?_
    refine g_iload_n rfl rfl ?_
    refine g_callVI [aI 110, aI b] [] rfl rfl rfl rfl (Nat.le_of_ble_eq_true rfl) (G0.cs.kd 0 (by omega) rfl) (x_isA (by omega) ci xt ok xn okn 110 b) ?_
    rintro _ hq4 ⟨ehq4, rfl⟩
    rw [ehq4]
    clear ehq4 hq4
    refine g_b_eq rfl (fun c25 => ?_) (fun c25 => ?_)
    · skip
      refine g_iconst rfl ?_
      refine g_iret rfl ?_
      first
        | (rw [if_neg (fun q => c11 q.1)]; exact ⟨FX.refl ci _, rfl, xt⟩)
        | (rw [if_neg (fun q => c25 q.2.1)]; exact ⟨FX.refl ci _, rfl, xt⟩)
        | (rw [if_neg (fun q => c40 q.2.2)]; exact ⟨FX.refl ci _, rfl, xt⟩)
    · skip
      refine g_aload_n rfl rfl ?_
      refine g_ldcT rfl (by decide) ?_
      refine g_iload_n rfl rfl ?_
      refine g_callSI [aO (some (w 3)), aI 8] [aO (some c)] rfl rfl rfl rfl (Nat.le_of_ble_eq_true rfl) (x_sortAt (by omega) (tx 3 (by omega)) (by omega) 8) ?_
      rintro _ hq5 ⟨ehq5, rfl⟩
      rw [ehq5]
      clear ehq5 hq5
      refine g_top (v2 := aI 112) (congrArg aI (show chAt 3 8 = 112 by decide +kernel)) ?_
      refine g_iload rfl rfl ?_
      refine g_callVI [aI 112, aI e] [] rfl rfl rfl rfl (Nat.le_of_ble_eq_true rfl) (G0.cs.kd 0 (by omega) rfl) (x_isA (by omega) ci xt ok xn okn 112 e) ?_
      rintro _ hq6 ⟨ehq6, rfl⟩
      rw [ehq6]
      clear ehq6 hq6
      refine g_b_ne rfl (fun c40 => ?_) (fun c40 => ?_)
      · skip
        refine g_aload_n rfl rfl ?_
        refine g_getR rfl (G0.cs.kd 0 (by omega) rfl) (G0.cs.rf 1 (by omega) rfl) ?_
        have u11 := c11
        unfold isAS at u11
        have u25 := c25
        unfold isAS at u25
        have u40 := c40
        unfold isAS at u40
        refine g_callVN [] [] rfl rfl rfl rfl (Nat.le_of_ble_eq_true rfl) (G0.cs.kd 1 (by omega) rfl) (x_reset (by omega) ci) ?_
        rintro _ rfl
        obtain ⟨h0, eh0⟩ : ∃ h0, h0 = hw h (vset (hV h) (c + 1) 1 0) := ⟨_, rfl⟩
        rw [← eh0]
        have ci0 := ci.reset
        have xt0 := xt.reset
        have xn0 := xn.reset
        rw [← eh0] at ci0 xt0 xn0
        have ht : hV h0 (c + 1) 1 ≤ 10 := by rw [eh0]; show vset _ _ _ _ _ _ ≤ _; rw [vset_eq]; omega
        clear ci xt xn
        have ci := ci0
        have xt := xt0
        have xn := xn0
        clear ci0 xt0 xn0
        have G0 := Gr.refl ci
        refine g_iload_n rfl rfl ?_
        refine g_if_eq_f rfl (by omega) ?_
        refine g_iload_n rfl rfl ?_
        refine g_iconst rfl ?_
        refine g_icmp_ne_t rfl (by omega) ?_
        refine g_aload_n rfl rfl ?_
        refine g_getR rfl (G0.cs.kd 0 (by omega) rfl) (G0.cs.rf 11 (by omega) rfl) ?_
        refine g_iconst rfl ?_
        refine g_aload_n rfl rfl ?_
        refine g_iload_n rfl rfl ?_
        refine g_iload_n rfl rfl ?_
        refine g_iload_n rfl rfl ?_
        refine g_iload rfl rfl ?_
        refine g_callVO [aI 8, aI a, aI b, aI e] [aI 0, aO (some (c + 7))] rfl rfl rfl rfl (Nat.le_of_ble_eq_true rfl) (G0.cs.kd 0 (by omega) rfl) (f_pth8 (by omega) G0.ci xt ok xn okn a (by omega) b (by omega) e (by omega)) ?_
        rintro r7 h7 ⟨g7, q7⟩
        have G7 := G0.trans g7
        refine g_callVI [aI 0, aO r7] [] rfl rfl rfl rfl (Nat.le_of_ble_eq_true rfl) (G7.cs.kd 7 (by omega) rfl) (t_keepO (by omega) G7.ci (g7.xt G0.ci xt) ok 0 q7 (by omega)) ?_
        rintro r9 h9 ⟨kt9, er9, xt9⟩
        refine g_iret rfl ?_
        rw [if_pos ⟨c11, c25, c40⟩]
        exact ⟨(kt9.gr G7).fx eh0 (by omega), er9, xt9⟩
      · skip
        refine g_iconst rfl ?_
        refine g_iret rfl ?_
        first
          | (rw [if_neg (fun q => c11 q.1)]; exact ⟨FX.refl ci _, rfl, xt⟩)
          | (rw [if_neg (fun q => c25 q.2.1)]; exact ⟨FX.refl ci _, rfl, xt⟩)
          | (rw [if_neg (fun q => c40 q.2.2)]; exact ⟨FX.refl ci _, rfl, xt⟩)
