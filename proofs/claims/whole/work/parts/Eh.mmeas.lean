/-! the reference's measures: printed by wip/whole/eh.py -/
theorem RB.f {V : Nat → Nat → Int} {o r i : Nat} {v z : Int} {k : Nat} (hi : i ≠ 1) (x : RB V o r z k) : RB (vset V o i v) o r z k := by
  refine ⟨?_, x.2⟩
  have e : vset V o i v o 1 = V o 1 := vset_ne _ _ _ _ (by omega)
  obtain ⟨k, h1, h2, h3, h4⟩ := x.1
  exact ⟨k, h1, by rw [e]; exact h2, by rw [e]; exact h3, h4.congr fun j hj => by show vset _ _ _ _ (o + 1) _ = _; rw [vset_ne _ _ _ _ (by omega)]⟩
def gcF (U D : Int) : Int := ((Int.gcd U D : Nat) : Int)
def greatF (U D : Int) : Int × Int := if D.tdiv (gcF U D) < 0 then (-(U.tdiv (gcF U D)), -(D.tdiv (gcF U D))) else (U.tdiv (gcF U D), D.tdiv (gcF U D))
def keepG (S : aS) (U D : Int) : Int × aS := if (-1073741824 ≤ (greatF U D).1 ∧ (greatF U D).1 ≤ 1073741824) ∧ (-1073741824 ≤ (greatF U D).2 ∧ (greatF U D).2 ≤ 1073741824) then keepN S (greatF U D) else (-4, S)
/-- what a kept measure leaves -/
def KQ (V V1 : Nat → Nat → Int) (o n : Nat) (T : Nat → Prop) : Prop := ∃ V2, Gs V V2 o n T ∧ FM V2 V1 o
theorem KQ.of {V V1 : Nat → Nat → Int} {o n : Nat} {T : Nat → Prop} (g : Gs V V1 o n T) : KQ V V1 o n T := ⟨V1, g, FM.refl _ _⟩
theorem Gs.kq {V V0 V1 : Nat → Nat → Int} {o n m : Nat} {T T0 : Nat → Prop} (g : Gs V V0 o n T) (k : KQ V0 V1 o m T0) (h : ∀ q, T0 q → T q) : KQ V V1 o (n + m) T := by
  obtain ⟨V2, g2, f⟩ := k
  exact ⟨V2, g.trans (g2.wide h), f⟩
def FQ (V V1 : Nat → Nat → Int) (o : Nat) : Prop := ∀ a i, ¬(a = o ∧ (i = 1 ∨ i = 2 ∨ i = 5 ∨ i = 6 ∨ i = 31)) → a ≠ o + 1 → a ≠ o + 2 → a ≠ o + 3 → ¬(o + 24 ≤ a ∧ a ≤ o + 31) → V1 a i = V a i
theorem KQ.fq {V V0 V1 : Nat → Nat → Int} {o n : Nat} {T : Nat → Prop} (k : KQ V0 V1 o n T) (hT : ∀ q, T q → o + 24 ≤ q ∧ q ≤ o + 31) (e : V0 = vset (vset V o 31 0) o 1 0) : FQ V V1 o := by
  obtain ⟨V2, g, f⟩ := k
  intro q i h1 h2 h3 h4 h5
  have h6 : ¬ T q := fun x => h5 (hT q x)
  rw [f q i (by omega) h3 h4]
  by_cases hq : q = o
  · subst hq
    rw [g.2.1 i (fun x => h1 ⟨rfl, by omega⟩), e, vset_ne _ _ _ _ (by omega), vset_ne _ _ _ _ (by omega)]
  · rw [g.1 q hq h2 h6, e, vset_ne _ _ _ _ (by omega), vset_ne _ _ _ _ (by omega)]
abbrev isV (S : aS) (t s : Int) : Prop := (0 ≤ t ∧ t < sT S) ∧ (s < 0 ∨ sTs S t.toNat = s)
def keepGO (S : aS) (O : Option (Int × Int)) : Int × aS := match O with
  | none => (-3, S)
  | some P => keepG S P.1 P.2
def measM (S : aS) (sa sb sc a b c : Int) (O : Option (Int × Int)) : Int × aS := if isV S a sa ∧ isV S b sb ∧ isV S c sc then keepGO S O else (-1, S)
set_option maxRecDepth 100000 in
set_option maxHeartbeats 4000000 in
theorem m_keepGreat {w : aW} {d : Nat} (hd : 7 ≤ d) {k : Nat} {h : aH} {o : Nat} (ms : MS h o) (V : Nat → Nat → Int) {S : aS} (mn : MN V o S) (okn : OkN S) (hF : 0 ≤ V o 1 ∧ V o 1 + 10 ≤ 700) {aU aD : Nat} {U D : Int} (tU : RB V o aU U k) (tD : RB V o aD D k) (hk : k ≤ 380) : WP w d 270 [aO (some o), aI ((aU : Int)), aI ((aD : Int))] (hw h V) (RI (fun r h1 => ∃ V1, h1 = hw h V1 ∧ KQ V V1 o 10 (fun _ => False) ∧ r = (keepG S U D).1 ∧ MN V1 o (keepG S U D).2)) := by
  obtain ⟨d, rfl⟩ : ∃ d1, d = d1 + 1 := ⟨d - 1, by omega⟩
  refine WP.enter (cd := cd_X12_keepGreat) rfl ?_
  have G0 := Gs.refl V o (fun _ => False)
  have hls : largs 0 [aO (some o), aI ((aU : Int)), aI ((aD : Int))] = [(0, aO (some o)), (1, aI ((aU : Int))), (2, aI ((aD : Int)))] := rfl
  rw [hls]
  clear hls
  refine g_aload_n rfl rfl ?_
  refine g_iload_n rfl rfl ?_
  refine g_iload_n rfl rfl ?_
  refine g_callVI [aI ((aU : Int)), aI ((aD : Int))] [] rfl rfl rfl rfl (Nat.le_of_ble_eq_true rfl) ms.1 (r_gcd (by omega) ms V (by have := G0.2.2.1; omega) (show RB V o aU U (k) from (tU.up (by omega))) (show RB V o aD D (k) from (tD.up (by omega)))) ?_
  rintro _ _ ⟨p1, rfl, V1, rfl, g1, xp1⟩
  have xp1 : RB V1 o p1 (gcF U D) (k) := xp1
  have G_2 := G0.trans (g1.gs _)
  refine g_istore_n (l1 := [(3, aI ((p1 : Int))), (0, aO (some o)), (1, aI ((aU : Int))), (2, aI ((aD : Int)))]) rfl rfl ?_
  refine g_aload_n rfl rfl ?_
  refine g_iload_n rfl rfl ?_
  refine g_iload_n rfl rfl ?_
  refine g_callVI [aI ((aU : Int)), aI ((p1 : Int))] [] rfl rfl rfl rfl (Nat.le_of_ble_eq_true rfl) ms.1 (r_div (by omega) ms V1 (by have := G_2.2.2.1; omega) (g1.rb tU) xp1 (by unfold gcF; intro h0; have q := Int.gcd_eq_zero_iff.mp (show Int.gcd U D = 0 by omega); omega) (by omega) (by omega)) ?_
  rintro _ _ ⟨p3, rfl, V3, rfl, g3, xp3⟩
  have G_4 := G_2.trans (g3.gs _)
  refine g_istore (l1 := [(4, aI ((p3 : Int))), (3, aI ((p1 : Int))), (0, aO (some o)), (1, aI ((aU : Int))), (2, aI ((aD : Int)))]) rfl rfl ?_
  refine g_aload_n rfl rfl ?_
  refine g_iload_n rfl rfl ?_
  refine g_iload_n rfl rfl ?_
  refine g_callVI [aI ((aD : Int)), aI ((p1 : Int))] [] rfl rfl rfl rfl (Nat.le_of_ble_eq_true rfl) ms.1 (r_div (by omega) ms V3 (by have := G_4.2.2.1; omega) (g3.rb (g1.rb tD)) (g3.rb xp1) (by unfold gcF; intro h0; have q := Int.gcd_eq_zero_iff.mp (show Int.gcd U D = 0 by omega); omega) (by omega) (by omega)) ?_
  rintro _ _ ⟨p5, rfl, V5, rfl, g5, xp5⟩
  have G_6 := G_4.trans (g5.gs _)
  refine g_istore (l1 := [(5, aI ((p5 : Int))), (4, aI ((p3 : Int))), (3, aI ((p1 : Int))), (0, aO (some o)), (1, aI ((aU : Int))), (2, aI ((aD : Int)))]) rfl rfl ?_
  refine g_aload_n rfl rfl ?_
  refine g_iload rfl rfl ?_
  refine g_callVI [aI ((p5 : Int))] [] rfl rfl rfl rfl (Nat.le_of_ble_eq_true rfl) ms.1 (r_sign (by omega) ms V5 xp5) ?_
  rintro r7 _ ⟨rfl, e8⟩
  rw [e8]
  clear e8 r7
  have l0 := @lcmp_lt (D.tdiv (gcF U D)) 0
  refine g_if_ge rfl (fun c29 => ?_) (fun c29 => ?_)
  · skip
    refine g_aload_n rfl rfl ?_
    refine g_iload rfl rfl ?_
    refine g_ldc2 rfl ?_
    refine g_callVI [aI ((p3 : Int)), aJ 1073741824] [] rfl rfl rfl rfl (Nat.le_of_ble_eq_true rfl) ms.1 (r_isWithin (by omega) ms V5 (g5.rb xp3).1 1073741824 (by omega)) ?_
    rintro _ hx9 ⟨ehx9, rfl⟩
    rw [ehx9]
    clear ehx9 hx9
    refine g_b_eq rfl (fun c57 => ?_) (fun c57 => ?_)
    · skip
      refine g_bipush rfl ?_
      refine g_iret rfl ?_
      have ek : keepG S U D = (-4, S) := by
        unfold keepG greatF
        first
          | (rw [if_pos (c := D.tdiv (gcF U D) < 0) (by omega)]; rw [if_neg (by omega)])
          | (rw [if_neg (c := D.tdiv (gcF U D) < 0) (by omega)]; rw [if_neg (by omega)])
      rw [ek]
      exact ⟨V5, rfl, KQ.of (G_6.mono (by omega)), rfl, (g5.mn (g3.mn (g1.mn mn)))⟩
    · skip
      refine g_aload_n rfl rfl ?_
      refine g_iload rfl rfl ?_
      refine g_ldc2 rfl ?_
      refine g_callVI [aI ((p5 : Int)), aJ 1073741824] [] rfl rfl rfl rfl (Nat.le_of_ble_eq_true rfl) ms.1 (r_isWithin (by omega) ms V5 xp5.1 1073741824 (by omega)) ?_
      rintro _ hx10 ⟨ehx10, rfl⟩
      rw [ehx10]
      clear ehx10 hx10
      refine g_b_ne rfl (fun c69 => ?_) (fun c69 => ?_)
      · skip
        refine g_aload_n rfl rfl ?_
        have hsm : smallF (greatF U D) = true := by
          rw [smallF_iff]
          unfold greatF
          first
            | (rw [if_pos (by omega)]; exact ⟨c57.1, c57.2, c69.2⟩)
            | (rw [if_neg (by omega)]; exact ⟨c57.1, c57.2, c69.2⟩)
        refine g_aload_n rfl rfl ?_
        refine g_iload rfl rfl ?_
        refine g_callVJ [aI ((p3 : Int))] [aO (some o)] rfl rfl rfl rfl (Nat.le_of_ble_eq_true rfl) ms.1 (r_value (by omega) ms V5 (g5.rb xp3).1 (by omega)) ?_
        rintro r11 hx11 ⟨ehx11, er11⟩
        rw [ehx11, er11]
        clear ehx11 hx11 er11 r11
        refine g_putJ rfl ms.1 ?_
        refine g_hp (h2 := hw h (vset V5 o 5 (U.tdiv (gcF U D)))) rfl ?_
        refine g_aload_n rfl rfl ?_
        refine g_aload_n rfl rfl ?_
        refine g_iload rfl rfl ?_
        refine g_callVJ [aI ((p5 : Int))] [aO (some o)] rfl rfl rfl rfl (Nat.le_of_ble_eq_true rfl) ms.1 (r_value (by omega) ms (vset V5 o 5 (U.tdiv (gcF U D))) (RB.f (by omega) xp5).1 (by omega)) ?_
        rintro r12 hx12 ⟨ehx12, er12⟩
        rw [ehx12, er12]
        clear ehx12 hx12 er12 r12
        refine g_putJ rfl ms.1 ?_
        refine g_hp (h2 := hw h (vset (vset V5 o 5 (U.tdiv (gcF U D))) o 6 (D.tdiv (gcF U D)))) rfl ?_
        refine g_aload_n rfl rfl ?_
        refine g_iconst rfl ?_
        refine g_callVI [aI 1] [] rfl rfl rfl rfl (Nat.le_of_ble_eq_true rfl) ms.1 (m_keepN (by omega) ms (vset (vset V5 o 5 (U.tdiv (gcF U D))) o 6 (D.tdiv (gcF U D))) (MN.own (MN.own (g5.mn (g3.mn (g1.mn mn))) (by decide) _) (by decide) _) okn (greatF U D) (show (vset (vset V5 o 5 (U.tdiv (gcF U D))) o 6 (D.tdiv (gcF U D))) o 5 = (greatF U D).1 by rw [vset_ne _ _ _ _ (by omega), vset_eq]; unfold greatF; first | (rw [if_pos (by omega)]) | (rw [if_neg (by omega)])) (show (vset (vset V5 o 5 (U.tdiv (gcF U D))) o 6 (D.tdiv (gcF U D))) o 6 = (greatF U D).2 by rw [vset_eq]; unfold greatF; first | (rw [if_pos (by omega)]) | (rw [if_neg (by omega)])) 1 (by rw [if_pos hsm])) ?_
        rintro r9 _ ⟨V9, rfl, mn9, fm9, er9⟩
        refine g_iret rfl ?_
        have ek : keepG S U D = keepN S (greatF U D) := by
          unfold keepG
          refine if_pos ?_
          unfold greatF
          first
            | (rw [if_pos (by omega)]; exact ⟨c57, c69⟩)
            | (rw [if_neg (by omega)]; exact ⟨c57, c69⟩)
        rw [ek]
        exact ⟨V9, rfl, ⟨V5, G_6.mono (by omega), ((FM.own _ o (by omega) _).trans (FM.own _ o (by omega) _)).trans fm9⟩, er9, mn9⟩
      · skip
        refine g_bipush rfl ?_
        refine g_iret rfl ?_
        have ek : keepG S U D = (-4, S) := by
          unfold keepG greatF
          first
            | (rw [if_pos (c := D.tdiv (gcF U D) < 0) (by omega)]; rw [if_neg (by omega)])
            | (rw [if_neg (c := D.tdiv (gcF U D) < 0) (by omega)]; rw [if_neg (by omega)])
        rw [ek]
        exact ⟨V5, rfl, KQ.of (G_6.mono (by omega)), rfl, (g5.mn (g3.mn (g1.mn mn)))⟩
  · skip
    refine g_aload_n rfl rfl ?_
    refine g_iload rfl rfl ?_
    refine g_callVI [aI ((p3 : Int))] [] rfl rfl rfl rfl (Nat.le_of_ble_eq_true rfl) ms.1 (r_neg (by omega) ms V5 (by have := G_6.2.2.1; omega) (g5.rb xp3) (by omega)) ?_
    rintro _ _ ⟨p13, rfl, V13, rfl, g13, xp13⟩
    have G_14 := G_6.trans (g13.gs _)
    refine g_istore (l1 := [(4, aI ((p13 : Int))), (5, aI ((p5 : Int))), (3, aI ((p1 : Int))), (0, aO (some o)), (1, aI ((aU : Int))), (2, aI ((aD : Int)))]) rfl rfl ?_
    refine g_aload_n rfl rfl ?_
    refine g_iload rfl rfl ?_
    refine g_callVI [aI ((p5 : Int))] [] rfl rfl rfl rfl (Nat.le_of_ble_eq_true rfl) ms.1 (r_neg (by omega) ms V13 (by have := G_14.2.2.1; omega) (g13.rb xp5) (by omega)) ?_
    rintro _ _ ⟨p15, rfl, V15, rfl, g15, xp15⟩
    have G_16 := G_14.trans (g15.gs _)
    refine g_istore (l1 := [(5, aI ((p15 : Int))), (4, aI ((p13 : Int))), (3, aI ((p1 : Int))), (0, aO (some o)), (1, aI ((aU : Int))), (2, aI ((aD : Int)))]) rfl rfl ?_
    refine g_aload_n rfl rfl ?_
    refine g_iload rfl rfl ?_
    refine g_ldc2 rfl ?_
    refine g_callVI [aI ((p13 : Int)), aJ 1073741824] [] rfl rfl rfl rfl (Nat.le_of_ble_eq_true rfl) ms.1 (r_isWithin (by omega) ms V15 (g15.rb xp13).1 1073741824 (by omega)) ?_
    rintro _ hx17 ⟨ehx17, rfl⟩
    rw [ehx17]
    clear ehx17 hx17
    refine g_b_eq rfl (fun c57 => ?_) (fun c57 => ?_)
    · skip
      refine g_bipush rfl ?_
      refine g_iret rfl ?_
      have ek : keepG S U D = (-4, S) := by
        unfold keepG greatF
        first
          | (rw [if_pos (c := D.tdiv (gcF U D) < 0) (by omega)]; rw [if_neg (by omega)])
          | (rw [if_neg (c := D.tdiv (gcF U D) < 0) (by omega)]; rw [if_neg (by omega)])
      rw [ek]
      exact ⟨V15, rfl, KQ.of (G_16.mono (by omega)), rfl, (g15.mn (g13.mn (g5.mn (g3.mn (g1.mn mn)))))⟩
    · skip
      refine g_aload_n rfl rfl ?_
      refine g_iload rfl rfl ?_
      refine g_ldc2 rfl ?_
      refine g_callVI [aI ((p15 : Int)), aJ 1073741824] [] rfl rfl rfl rfl (Nat.le_of_ble_eq_true rfl) ms.1 (r_isWithin (by omega) ms V15 xp15.1 1073741824 (by omega)) ?_
      rintro _ hx18 ⟨ehx18, rfl⟩
      rw [ehx18]
      clear ehx18 hx18
      refine g_b_ne rfl (fun c69 => ?_) (fun c69 => ?_)
      · skip
        refine g_aload_n rfl rfl ?_
        have hsm : smallF (greatF U D) = true := by
          rw [smallF_iff]
          unfold greatF
          first
            | (rw [if_pos (by omega)]; exact ⟨c57.1, c57.2, c69.2⟩)
            | (rw [if_neg (by omega)]; exact ⟨c57.1, c57.2, c69.2⟩)
        refine g_aload_n rfl rfl ?_
        refine g_iload rfl rfl ?_
        refine g_callVJ [aI ((p13 : Int))] [aO (some o)] rfl rfl rfl rfl (Nat.le_of_ble_eq_true rfl) ms.1 (r_value (by omega) ms V15 (g15.rb xp13).1 (by omega)) ?_
        rintro r19 hx19 ⟨ehx19, er19⟩
        rw [ehx19, er19]
        clear ehx19 hx19 er19 r19
        refine g_putJ rfl ms.1 ?_
        refine g_hp (h2 := hw h (vset V15 o 5 (-(U.tdiv (gcF U D))))) rfl ?_
        refine g_aload_n rfl rfl ?_
        refine g_aload_n rfl rfl ?_
        refine g_iload rfl rfl ?_
        refine g_callVJ [aI ((p15 : Int))] [aO (some o)] rfl rfl rfl rfl (Nat.le_of_ble_eq_true rfl) ms.1 (r_value (by omega) ms (vset V15 o 5 (-(U.tdiv (gcF U D)))) (RB.f (by omega) xp15).1 (by omega)) ?_
        rintro r20 hx20 ⟨ehx20, er20⟩
        rw [ehx20, er20]
        clear ehx20 hx20 er20 r20
        refine g_putJ rfl ms.1 ?_
        refine g_hp (h2 := hw h (vset (vset V15 o 5 (-(U.tdiv (gcF U D)))) o 6 (-(D.tdiv (gcF U D))))) rfl ?_
        refine g_aload_n rfl rfl ?_
        refine g_iconst rfl ?_
        refine g_callVI [aI 1] [] rfl rfl rfl rfl (Nat.le_of_ble_eq_true rfl) ms.1 (m_keepN (by omega) ms (vset (vset V15 o 5 (-(U.tdiv (gcF U D)))) o 6 (-(D.tdiv (gcF U D)))) (MN.own (MN.own (g15.mn (g13.mn (g5.mn (g3.mn (g1.mn mn))))) (by decide) _) (by decide) _) okn (greatF U D) (show (vset (vset V15 o 5 (-(U.tdiv (gcF U D)))) o 6 (-(D.tdiv (gcF U D)))) o 5 = (greatF U D).1 by rw [vset_ne _ _ _ _ (by omega), vset_eq]; unfold greatF; first | (rw [if_pos (by omega)]) | (rw [if_neg (by omega)])) (show (vset (vset V15 o 5 (-(U.tdiv (gcF U D)))) o 6 (-(D.tdiv (gcF U D)))) o 6 = (greatF U D).2 by rw [vset_eq]; unfold greatF; first | (rw [if_pos (by omega)]) | (rw [if_neg (by omega)])) 1 (by rw [if_pos hsm])) ?_
        rintro r9 _ ⟨V9, rfl, mn9, fm9, er9⟩
        refine g_iret rfl ?_
        have ek : keepG S U D = keepN S (greatF U D) := by
          unfold keepG
          refine if_pos ?_
          unfold greatF
          first
            | (rw [if_pos (by omega)]; exact ⟨c57, c69⟩)
            | (rw [if_neg (by omega)]; exact ⟨c57, c69⟩)
        rw [ek]
        exact ⟨V9, rfl, ⟨V15, G_16.mono (by omega), ((FM.own _ o (by omega) _).trans (FM.own _ o (by omega) _)).trans fm9⟩, er9, mn9⟩
      · skip
        refine g_bipush rfl ?_
        refine g_iret rfl ?_
        have ek : keepG S U D = (-4, S) := by
          unfold keepG greatF
          first
            | (rw [if_pos (c := D.tdiv (gcF U D) < 0) (by omega)]; rw [if_neg (by omega)])
            | (rw [if_neg (c := D.tdiv (gcF U D) < 0) (by omega)]; rw [if_neg (by omega)])
        rw [ek]
        exact ⟨V15, rfl, KQ.of (G_16.mono (by omega)), rfl, (g15.mn (g13.mn (g5.mn (g3.mn (g1.mn mn)))))⟩
def m_q0_O (S : aS) (a b c : Int) : Option (Int × Int) := if sTp S a.toNat 2 = 0 then none else some ((tpR S a).1, (tpR S a).2.2.1)
def m_q1_O (S : aS) (a b c : Int) : Option (Int × Int) := if sTp S a.toNat 2 = 0 then none else some ((tpR S a).2.1, (tpR S a).2.2.1)
def m_q2_O (S : aS) (a b c : Int) : Option (Int × Int) := if sTp S a.toNat 2 = 0 ∨ sTp S b.toNat 2 = 0 then none else some (m_apart_S (tpR S a) (tpR S b), ((tpR S a).2.2.1 * (tpR S b).2.2.1) * ((tpR S a).2.2.1 * (tpR S b).2.2.1))
def m_q3_O (S : aS) (a b c : Int) : Option (Int × Int) := if sTp S a.toNat 2 = 0 then none else some (m_within_S (tpR S a) (tpR S b), (tpR S b).1 * ((tpR S a).2.2.1 * (tpR S a).2.2.1))
def m_q4_O (S : aS) (a b c : Int) : Option (Int × Int) := some (m_bulge_S (tpR S a), 4 * ((tpR S a).1 * (tpR S a).1))
def m_q5_O (S : aS) (a b c : Int) : Option (Int × Int) := if sTp S a.toNat 2 = 0 ∨ sTp S b.toNat 2 = 0 ∨ sTp S c.toNat 2 = 0 then none else some (m_det_S (tpR S a) (tpR S b) (tpR S c), (tpR S a).2.2.1 * (tpR S b).2.2.1 * (tpR S c).2.2.1)
def m_q6_O (S : aS) (a b c : Int) : Option (Int × Int) := if sTp S a.toNat 2 = 0 ∨ (sTp S b.toNat 0 = 0 ∧ sTp S b.toNat 1 = 0) then none else some ((m_dot_S (tpR S a) (tpR S b)) * (m_dot_S (tpR S a) (tpR S b)), ((tpR S a).2.2.1 * (tpR S a).2.2.1) * (((tpR S b).1 * (tpR S b).1) + ((tpR S b).2.1 * (tpR S b).2.1)))
set_option maxRecDepth 100000 in
set_option maxHeartbeats 4000000 in
theorem m_meas0 {w : aW} {d : Nat} (hd : 8 ≤ d) {h : aH} {o : Nat} (ms : MS h o) (V : Nat → Nat → Int) {S : aS} (ok : OkT S) (mt : MT V o S) (okn : OkN S) (mn : MN V o S) (a b c : Int) : WP w d 320 [aO (some o), aI 0, aI a, aI b, aI c] (hw h V) (RI (fun r h1 => ∃ V1, h1 = hw h V1 ∧ FQ V V1 o ∧ r = (measM S 0 ((-1)) ((-1)) a b c (m_q0_O S a b c)).1 ∧ MN V1 o (measM S 0 ((-1)) ((-1)) a b c (m_q0_O S a b c)).2)) := by
  obtain ⟨d, rfl⟩ : ∃ d1, d = d1 + 1 := ⟨d - 1, by omega⟩
  refine WP.enter (cd := cd_X12_measure) rfl ?_
  have hn := ok.1
  have hls : largs 0 [aO (some o), aI 0, aI a, aI b, aI c] = [(0, aO (some o)), (1, aI 0), (2, aI a), (3, aI b), (4, aI c)] := rfl
  rw [hls]
  clear hls
  refine g_aload_n rfl rfl ?_
  refine g_iconst rfl ?_
  refine g_putI rfl ms.1 ?_
  refine g_hp (h2 := hw h (vset V o 31 0)) rfl ?_
  refine g_aload_n rfl rfl ?_
  refine g_iconst rfl ?_
  refine g_putI rfl ms.1 ?_
  obtain ⟨V0, eV0⟩ : ∃ W, W = vset (vset V o 31 0) o 1 0 := ⟨_, rfl⟩
  refine g_hp (h2 := hw h V0) (by rw [eV0]; rfl) ?_
  have mt : MT V0 o S := by rw [eV0]; exact mt.rs
  have f0 : V0 o 1 = 0 := by rw [eV0]; exact vset_eq _ _ _ _
  have G0 := Gs.refl V0 o (fun q => q = o + 24 ∨ q = o + 25 ∨ q = o + 26)
  have mn : MN V0 o S := by rw [eV0]; exact mn.rs
  refine g_iload_n rfl rfl ?_
  refine g_i2l rfl ?_
  refine g_lconst0 rfl ?_
  refine g_ldc2 rfl ?_
  refine g_callSI [aJ 0, aJ 0, aJ 6] [] rfl rfl rfl rfl (Nat.le_of_ble_eq_true rfl) (c_in (by omega) _ _ _ _) ?_
  rintro r1 _ ⟨rfl, rfl⟩
  refine g_b_eq rfl (fun c19 => ?_) (fun c19 => ?_)
  · skip
    refine g_iconst rfl ?_
    refine g_istore (l1 := [(5, aI 0), (0, aO (some o)), (1, aI 0), (2, aI a), (3, aI b), (4, aI c)]) rfl rfl ?_
    refine g_iload rfl rfl ?_
    refine g_if_eq_t rfl (by omega) ?_
    refine g_iconst rfl ?_
    refine g_istore (l1 := [(5, aI 0), (0, aO (some o)), (1, aI 0), (2, aI a), (3, aI b), (4, aI c)]) rfl rfl ?_
    refine g_iload rfl rfl ?_
    refine g_if_ne_f rfl (by omega) ?_
    refine g_iconst rfl ?_
    refine g_iret rfl ?_
    have es : measM S 0 ((-1)) ((-1)) a b c (m_q0_O S a b c) = (-1, S) := by unfold measM; rw [if_neg (by unfold isV; omega)]
    rw [es]
    exact ⟨V0, rfl, (KQ.of (G0.wide (T2 := fun q => o + 24 ≤ q ∧ q ≤ o + 31) (fun q hq => by have hq : q = o + 24 ∨ q = o + 25 ∨ q = o + 26 := hq; show o + 24 ≤ q ∧ q ≤ o + 31; omega))).fq (fun q hq => hq) eV0, rfl, mn⟩
  · skip
    refine g_aload_n rfl rfl ?_
    refine g_iload_n rfl rfl ?_
    refine g_callVI [aI a] [] rfl rfl rfl rfl (Nat.le_of_ble_eq_true rfl) ms.1 (m_isThing (by omega) ms V0 ok mt a) ?_
    rintro r2 _ ⟨rfl, e3⟩
    rw [e3]
    clear e3 r2
    refine g_b_eq rfl (fun c27 => ?_) (fun c27 => ?_)
    · skip
      refine g_iconst rfl ?_
      refine g_istore (l1 := [(5, aI 0), (0, aO (some o)), (1, aI 0), (2, aI a), (3, aI b), (4, aI c)]) rfl rfl ?_
      refine g_iload rfl rfl ?_
      refine g_if_eq_t rfl (by omega) ?_
      refine g_iconst rfl ?_
      refine g_istore (l1 := [(5, aI 0), (0, aO (some o)), (1, aI 0), (2, aI a), (3, aI b), (4, aI c)]) rfl rfl ?_
      refine g_iload rfl rfl ?_
      refine g_if_ne_f rfl (by omega) ?_
      refine g_iconst rfl ?_
      refine g_iret rfl ?_
      have es : measM S 0 ((-1)) ((-1)) a b c (m_q0_O S a b c) = (-1, S) := by unfold measM; rw [if_neg (by unfold isV; omega)]
      rw [es]
      exact ⟨V0, rfl, (KQ.of (G0.wide (T2 := fun q => o + 24 ≤ q ∧ q ≤ o + 31) (fun q hq => by have hq : q = o + 24 ∨ q = o + 25 ∨ q = o + 26 := hq; show o + 24 ≤ q ∧ q ≤ o + 31; omega))).fq (fun q hq => hq) eV0, rfl, mn⟩
    · skip
      refine g_aload_n rfl rfl ?_
      refine g_iload_n rfl rfl ?_
      refine g_callVI [aI b] [] rfl rfl rfl rfl (Nat.le_of_ble_eq_true rfl) ms.1 (m_isThing (by omega) ms V0 ok mt b) ?_
      rintro r4 _ ⟨rfl, e5⟩
      rw [e5]
      clear e5 r4
      refine g_b_eq rfl (fun c35 => ?_) (fun c35 => ?_)
      · skip
        refine g_iconst rfl ?_
        refine g_istore (l1 := [(5, aI 0), (0, aO (some o)), (1, aI 0), (2, aI a), (3, aI b), (4, aI c)]) rfl rfl ?_
        refine g_iload rfl rfl ?_
        refine g_if_eq_t rfl (by omega) ?_
        refine g_iconst rfl ?_
        refine g_istore (l1 := [(5, aI 0), (0, aO (some o)), (1, aI 0), (2, aI a), (3, aI b), (4, aI c)]) rfl rfl ?_
        refine g_iload rfl rfl ?_
        refine g_if_ne_f rfl (by omega) ?_
        refine g_iconst rfl ?_
        refine g_iret rfl ?_
        have es : measM S 0 ((-1)) ((-1)) a b c (m_q0_O S a b c) = (-1, S) := by unfold measM; rw [if_neg (by unfold isV; omega)]
        rw [es]
        exact ⟨V0, rfl, (KQ.of (G0.wide (T2 := fun q => o + 24 ≤ q ∧ q ≤ o + 31) (fun q hq => by have hq : q = o + 24 ∨ q = o + 25 ∨ q = o + 26 := hq; show o + 24 ≤ q ∧ q ≤ o + 31; omega))).fq (fun q hq => hq) eV0, rfl, mn⟩
      · skip
        refine g_aload_n rfl rfl ?_
        refine g_iload rfl rfl ?_
        refine g_callVI [aI c] [] rfl rfl rfl rfl (Nat.le_of_ble_eq_true rfl) ms.1 (m_isThing (by omega) ms V0 ok mt c) ?_
        rintro r6 _ ⟨rfl, e7⟩
        rw [e7]
        clear e7 r6
        refine g_b_eq rfl (fun c44 => ?_) (fun c44 => ?_)
        · skip
          refine g_iconst rfl ?_
          refine g_istore (l1 := [(5, aI 0), (0, aO (some o)), (1, aI 0), (2, aI a), (3, aI b), (4, aI c)]) rfl rfl ?_
          refine g_iload rfl rfl ?_
          refine g_if_eq_t rfl (by omega) ?_
          refine g_iconst rfl ?_
          refine g_istore (l1 := [(5, aI 0), (0, aO (some o)), (1, aI 0), (2, aI a), (3, aI b), (4, aI c)]) rfl rfl ?_
          refine g_iload rfl rfl ?_
          refine g_if_ne_f rfl (by omega) ?_
          refine g_iconst rfl ?_
          refine g_iret rfl ?_
          have es : measM S 0 ((-1)) ((-1)) a b c (m_q0_O S a b c) = (-1, S) := by unfold measM; rw [if_neg (by unfold isV; omega)]
          rw [es]
          exact ⟨V0, rfl, (KQ.of (G0.wide (T2 := fun q => o + 24 ≤ q ∧ q ≤ o + 31) (fun q hq => by have hq : q = o + 24 ∨ q = o + 25 ∨ q = o + 26 := hq; show o + 24 ≤ q ∧ q ≤ o + 31; omega))).fq (fun q hq => hq) eV0, rfl, mn⟩
        · skip
          refine g_aload_n rfl rfl ?_
          refine g_getR rfl ms.1 (mr_sort ms) ?_
          have ha : 0 ≤ a ∧ a < sT S := by omega
          have hb : 0 ≤ b ∧ b < sT S := by omega
          have hc : 0 ≤ c ∧ c < sT S := by omega
          refine g_iload_n rfl rfl ?_
          refine g_iald (i := a.toNat) rfl (mt_sort ms) (by omega) (by omega) ?_
          refine g_top (v2 := aI (sTs S a.toNat)) (congrArg aI (by exact (mt.2 a.toNat (by omega)).1)) ?_
          refine g_iload_n rfl rfl ?_
          refine g_iconst rfl ?_
          refine g_icmp_ne_t rfl (by omega) ?_
          refine g_iconst rfl ?_
          refine g_icmp_ne rfl (fun c63 => ?_) (fun c63 => ?_)
          · skip
            refine g_iconst rfl ?_
            refine g_istore (l1 := [(5, aI 0), (0, aO (some o)), (1, aI 0), (2, aI a), (3, aI b), (4, aI c)]) rfl rfl ?_
            refine g_iload rfl rfl ?_
            refine g_if_eq_t rfl (by omega) ?_
            refine g_iconst rfl ?_
            refine g_istore (l1 := [(5, aI 0), (0, aO (some o)), (1, aI 0), (2, aI a), (3, aI b), (4, aI c)]) rfl rfl ?_
            refine g_iload rfl rfl ?_
            refine g_if_ne_f rfl (by omega) ?_
            refine g_iconst rfl ?_
            refine g_iret rfl ?_
            have es : measM S 0 ((-1)) ((-1)) a b c (m_q0_O S a b c) = (-1, S) := by unfold measM; rw [if_neg (by unfold isV; omega)]
            rw [es]
            exact ⟨V0, rfl, (KQ.of (G0.wide (T2 := fun q => o + 24 ≤ q ∧ q ≤ o + 31) (fun q hq => by have hq : q = o + 24 ∨ q = o + 25 ∨ q = o + 26 := hq; show o + 24 ≤ q ∧ q ≤ o + 31; omega))).fq (fun q hq => hq) eV0, rfl, mn⟩
          · skip
            refine g_iconst rfl ?_
            refine g_goto rfl ?_
            refine g_istore (l1 := [(5, aI 1), (0, aO (some o)), (1, aI 0), (2, aI a), (3, aI b), (4, aI c)]) rfl rfl ?_
            refine g_iload rfl rfl ?_
            refine g_if_eq_f rfl (by omega) ?_
            refine g_iload_n rfl rfl ?_
            refine g_iconst rfl ?_
            refine g_icmp_eq_f rfl (by omega) ?_
            refine g_iload_n rfl rfl ?_
            refine g_iconst rfl ?_
            refine g_icmp_ne_t rfl (by omega) ?_
            refine g_iload_n rfl rfl ?_
            refine g_iconst rfl ?_
            refine g_icmp_ne_t rfl (by omega) ?_
            refine g_iload_n rfl rfl ?_
            refine g_bipush rfl ?_
            refine g_icmp_ne_t rfl (by omega) ?_
            refine g_iload_n rfl rfl ?_
            refine g_iconst rfl ?_
            refine g_icmp_ne_t rfl (by omega) ?_
            refine g_iconst rfl ?_
            refine g_goto rfl ?_
            refine g_istore (l1 := [(5, aI 1), (0, aO (some o)), (1, aI 0), (2, aI a), (3, aI b), (4, aI c)]) rfl rfl ?_
            refine g_iload rfl rfl ?_
            refine g_if_ne_t rfl (by omega) ?_
            refine g_iload_n rfl rfl ?_
            refine g_iconst rfl ?_
            refine g_icmp_eq_f rfl (by omega) ?_
            refine g_aload_n rfl rfl ?_
            refine g_iload_n rfl rfl ?_
            refine g_callVI [aI a] [] rfl rfl rfl rfl (Nat.le_of_ble_eq_true rfl) ms.1 (m_isFar (by omega) ms V0 ok mt a ha) ?_
            rintro r8 _ ⟨rfl, e9⟩
            rw [e9]
            clear e9 r8
            refine g_b_ne rfl (fun c167 => ?_) (fun c167 => ?_)
            · skip
              refine g_iconst rfl ?_
              refine g_goto rfl ?_
              refine g_istore (l1 := [(6, aI 1), (5, aI 1), (0, aO (some o)), (1, aI 0), (2, aI a), (3, aI b), (4, aI c)]) rfl rfl ?_
              refine g_iload rfl rfl ?_
              refine g_if_eq_f rfl (by omega) ?_
              refine g_bipush rfl ?_
              refine g_iret rfl ?_
              have es : measM S 0 ((-1)) ((-1)) a b c (m_q0_O S a b c) = keepGO S (m_q0_O S a b c) := by unfold measM; rw [if_pos (by unfold isV; omega)]
              rw [es]
              have eo : m_q0_O S a b c = none := by unfold m_q0_O; exact if_pos (by omega)
              rw [eo]
              exact ⟨V0, rfl, (KQ.of (G0.wide (T2 := fun q => o + 24 ≤ q ∧ q ≤ o + 31) (fun q hq => by have hq : q = o + 24 ∨ q = o + 25 ∨ q = o + 26 := hq; show o + 24 ≤ q ∧ q ≤ o + 31; omega))).fq (fun q hq => hq) eV0, rfl, mn⟩
            · skip
              refine g_iload_n rfl rfl ?_
              refine g_iconst rfl ?_
              refine g_icmp_eq_f rfl (by omega) ?_
              refine g_iload_n rfl rfl ?_
              refine g_iconst rfl ?_
              refine g_icmp_ne_t rfl (by omega) ?_
              refine g_iload_n rfl rfl ?_
              refine g_iconst rfl ?_
              refine g_icmp_ne_t rfl (by omega) ?_
              refine g_iload_n rfl rfl ?_
              refine g_bipush rfl ?_
              refine g_icmp_ne_t rfl (by omega) ?_
              refine g_iconst rfl ?_
              refine g_istore (l1 := [(6, aI 0), (5, aI 1), (0, aO (some o)), (1, aI 0), (2, aI a), (3, aI b), (4, aI c)]) rfl rfl ?_
              refine g_iload rfl rfl ?_
              refine g_if_eq_t rfl (by omega) ?_
              refine g_aload_n rfl rfl ?_
              refine g_aload_n rfl rfl ?_
              refine g_getR rfl ms.1 (mr_one ms) ?_
              refine g_iload_n rfl rfl ?_
              refine g_callVN [aO (some (o + 24)), aI a] [] rfl rfl rfl rfl (Nat.le_of_ble_eq_true rfl) ms.1 (m_load (by omega) ms V0 ok mt (by have := G0.2.2.1; omega) ((o + 24)) (show SLa o ((o + 24)) by unfold SLa; omega) a ha) ?_
              rintro _ ⟨V10, rfl, g10, t10, u10, v10, y10, s10, xt10, xu10, xv10, xy10⟩
              have G_11 := G0.trans (g10.wide (fun q hq => by have hq : q = o + 24 := hq; show q = o + 24 ∨ q = o + 25 ∨ q = o + 26; omega))
              refine g_aload_n rfl rfl ?_
              refine g_aload_n rfl rfl ?_
              refine g_getR rfl ms.1 (mr_two ms) ?_
              refine g_iload_n rfl rfl ?_
              refine g_callVN [aO (some (o + 25)), aI b] [] rfl rfl rfl rfl (Nat.le_of_ble_eq_true rfl) ms.1 (m_load (by omega) ms V10 ok (g10.mt (show ¬((o + 4) = o + 24) by omega) (show ¬((o + 5) = o + 24) by omega) mt) (by have := G_11.2.2.1; omega) ((o + 25)) (show SLa o ((o + 25)) by unfold SLa; omega) b hb) ?_
              rintro _ ⟨V12, rfl, g12, t12, u12, v12, y12, s12, xt12, xu12, xv12, xy12⟩
              have G_13 := G_11.trans (g12.wide (fun q hq => by have hq : q = o + 25 := hq; show q = o + 24 ∨ q = o + 25 ∨ q = o + 26; omega))
              refine g_aload_n rfl rfl ?_
              refine g_aload_n rfl rfl ?_
              refine g_getR rfl ms.1 (mr_three ms) ?_
              refine g_iload rfl rfl ?_
              refine g_callVN [aO (some (o + 26)), aI c] [] rfl rfl rfl rfl (Nat.le_of_ble_eq_true rfl) ms.1 (m_load (by omega) ms V12 ok (g12.mt (show ¬((o + 4) = o + 25) by omega) (show ¬((o + 5) = o + 25) by omega) (g10.mt (show ¬((o + 4) = o + 24) by omega) (show ¬((o + 5) = o + 24) by omega) mt)) (by have := G_13.2.2.1; omega) ((o + 26)) (show SLa o ((o + 26)) by unfold SLa; omega) c hc) ?_
              rintro _ ⟨V14, rfl, g14, t14, u14, v14, y14, s14, xt14, xu14, xv14, xy14⟩
              have G_15 := G_13.trans (g14.wide (fun q hq => by have hq : q = o + 26 := hq; show q = o + 24 ∨ q = o + 25 ∨ q = o + 26; omega))
              refine g_iload_n rfl rfl ?_
              refine g_tsw (t := 300) rfl (by rfl) ?_
              refine g_aload_n rfl rfl ?_
              refine g_aload_n rfl rfl ?_
              refine g_getR rfl ms.1 (mr_one ms) ?_
              refine g_iload_n rfl rfl ?_
              refine g_iald (i := 0) rfl (mt_one ms) (by omega) (by omega) ?_
              refine g_top (v2 := aI ((t10 : Int))) (congrArg aI (by exact (g14.sa (show SLa o ((o + 24)) by unfold SLa; omega) (show ¬(o + 24 = o + 26) by omega) (g12.sa (show SLa o ((o + 24)) by unfold SLa; omega) (show ¬(o + 24 = o + 25) by omega) s10)).1)) ?_
              refine g_aload_n rfl rfl ?_
              refine g_getR rfl ms.1 (mr_one ms) ?_
              refine g_iconst rfl ?_
              refine g_iald (i := 2) rfl (mt_one ms) (by omega) (by omega) ?_
              refine g_top (v2 := aI ((v10 : Int))) (congrArg aI (by exact (g14.sa (show SLa o ((o + 24)) by unfold SLa; omega) (show ¬(o + 24 = o + 26) by omega) (g12.sa (show SLa o ((o + 24)) by unfold SLa; omega) (show ¬(o + 24 = o + 25) by omega) s10)).2.2.1)) ?_
              refine g_callVI [aI ((t10 : Int)), aI ((v10 : Int))] [] rfl rfl rfl rfl (Nat.le_of_ble_eq_true rfl) ms.1 (m_keepGreat (by omega) ms V14 (g14.mn (show ¬((o + 2) = o + 26) by omega) (show ¬((o + 3) = o + 26) by omega) (g12.mn (show ¬((o + 2) = o + 25) by omega) (show ¬((o + 3) = o + 25) by omega) (g10.mn (show ¬((o + 2) = o + 24) by omega) (show ¬((o + 3) = o + 24) by omega) mn))) okn (by have := G_15.2.2.1; omega) (show RB V14 o t10 ((tpR S a).1) (20) from ((g14.rb (g12.rb xt10)).up (by omega))) (show RB V14 o v10 ((tpR S a).2.2.1) (20) from ((g14.rb (g12.rb xv10)).up (by omega))) (by omega)) ?_
              rintro r16 _ ⟨V16, rfl, k16, e16, m16⟩
              refine g_iret rfl ?_
              have es : measM S 0 ((-1)) ((-1)) a b c (m_q0_O S a b c) = keepGO S (m_q0_O S a b c) := by unfold measM; rw [if_pos (by unfold isV; omega)]
              rw [es]
              have eo : m_q0_O S a b c = some ((tpR S a).1, (tpR S a).2.2.1) := by unfold m_q0_O; exact if_neg (by omega)
              rw [eo]
              exact ⟨_, rfl, (Gs.kq (G_15.wide (T2 := fun q => o + 24 ≤ q ∧ q ≤ o + 31) (fun q hq => by have hq : q = o + 24 ∨ q = o + 25 ∨ q = o + 26 := hq; show o + 24 ≤ q ∧ q ≤ o + 31; omega)) k16 (fun q hq => hq.elim)).fq (fun q hq => hq) eV0, e16, m16⟩
set_option maxRecDepth 100000 in
set_option maxHeartbeats 4000000 in
theorem m_meas1 {w : aW} {d : Nat} (hd : 8 ≤ d) {h : aH} {o : Nat} (ms : MS h o) (V : Nat → Nat → Int) {S : aS} (ok : OkT S) (mt : MT V o S) (okn : OkN S) (mn : MN V o S) (a b c : Int) : WP w d 320 [aO (some o), aI 1, aI a, aI b, aI c] (hw h V) (RI (fun r h1 => ∃ V1, h1 = hw h V1 ∧ FQ V V1 o ∧ r = (measM S 0 ((-1)) ((-1)) a b c (m_q1_O S a b c)).1 ∧ MN V1 o (measM S 0 ((-1)) ((-1)) a b c (m_q1_O S a b c)).2)) := by
  obtain ⟨d, rfl⟩ : ∃ d1, d = d1 + 1 := ⟨d - 1, by omega⟩
  refine WP.enter (cd := cd_X12_measure) rfl ?_
  have hn := ok.1
  have hls : largs 0 [aO (some o), aI 1, aI a, aI b, aI c] = [(0, aO (some o)), (1, aI 1), (2, aI a), (3, aI b), (4, aI c)] := rfl
  rw [hls]
  clear hls
  refine g_aload_n rfl rfl ?_
  refine g_iconst rfl ?_
  refine g_putI rfl ms.1 ?_
  refine g_hp (h2 := hw h (vset V o 31 0)) rfl ?_
  refine g_aload_n rfl rfl ?_
  refine g_iconst rfl ?_
  refine g_putI rfl ms.1 ?_
  obtain ⟨V0, eV0⟩ : ∃ W, W = vset (vset V o 31 0) o 1 0 := ⟨_, rfl⟩
  refine g_hp (h2 := hw h V0) (by rw [eV0]; rfl) ?_
  have mt : MT V0 o S := by rw [eV0]; exact mt.rs
  have f0 : V0 o 1 = 0 := by rw [eV0]; exact vset_eq _ _ _ _
  have G0 := Gs.refl V0 o (fun q => q = o + 24 ∨ q = o + 25 ∨ q = o + 26)
  have mn : MN V0 o S := by rw [eV0]; exact mn.rs
  refine g_iload_n rfl rfl ?_
  refine g_i2l rfl ?_
  refine g_lconst0 rfl ?_
  refine g_ldc2 rfl ?_
  refine g_callSI [aJ 1, aJ 0, aJ 6] [] rfl rfl rfl rfl (Nat.le_of_ble_eq_true rfl) (c_in (by omega) _ _ _ _) ?_
  rintro r1 _ ⟨rfl, rfl⟩
  refine g_b_eq rfl (fun c19 => ?_) (fun c19 => ?_)
  · skip
    refine g_iconst rfl ?_
    refine g_istore (l1 := [(5, aI 0), (0, aO (some o)), (1, aI 1), (2, aI a), (3, aI b), (4, aI c)]) rfl rfl ?_
    refine g_iload rfl rfl ?_
    refine g_if_eq_t rfl (by omega) ?_
    refine g_iconst rfl ?_
    refine g_istore (l1 := [(5, aI 0), (0, aO (some o)), (1, aI 1), (2, aI a), (3, aI b), (4, aI c)]) rfl rfl ?_
    refine g_iload rfl rfl ?_
    refine g_if_ne_f rfl (by omega) ?_
    refine g_iconst rfl ?_
    refine g_iret rfl ?_
    have es : measM S 0 ((-1)) ((-1)) a b c (m_q1_O S a b c) = (-1, S) := by unfold measM; rw [if_neg (by unfold isV; omega)]
    rw [es]
    exact ⟨V0, rfl, (KQ.of (G0.wide (T2 := fun q => o + 24 ≤ q ∧ q ≤ o + 31) (fun q hq => by have hq : q = o + 24 ∨ q = o + 25 ∨ q = o + 26 := hq; show o + 24 ≤ q ∧ q ≤ o + 31; omega))).fq (fun q hq => hq) eV0, rfl, mn⟩
  · skip
    refine g_aload_n rfl rfl ?_
    refine g_iload_n rfl rfl ?_
    refine g_callVI [aI a] [] rfl rfl rfl rfl (Nat.le_of_ble_eq_true rfl) ms.1 (m_isThing (by omega) ms V0 ok mt a) ?_
    rintro r2 _ ⟨rfl, e3⟩
    rw [e3]
    clear e3 r2
    refine g_b_eq rfl (fun c27 => ?_) (fun c27 => ?_)
    · skip
      refine g_iconst rfl ?_
      refine g_istore (l1 := [(5, aI 0), (0, aO (some o)), (1, aI 1), (2, aI a), (3, aI b), (4, aI c)]) rfl rfl ?_
      refine g_iload rfl rfl ?_
      refine g_if_eq_t rfl (by omega) ?_
      refine g_iconst rfl ?_
      refine g_istore (l1 := [(5, aI 0), (0, aO (some o)), (1, aI 1), (2, aI a), (3, aI b), (4, aI c)]) rfl rfl ?_
      refine g_iload rfl rfl ?_
      refine g_if_ne_f rfl (by omega) ?_
      refine g_iconst rfl ?_
      refine g_iret rfl ?_
      have es : measM S 0 ((-1)) ((-1)) a b c (m_q1_O S a b c) = (-1, S) := by unfold measM; rw [if_neg (by unfold isV; omega)]
      rw [es]
      exact ⟨V0, rfl, (KQ.of (G0.wide (T2 := fun q => o + 24 ≤ q ∧ q ≤ o + 31) (fun q hq => by have hq : q = o + 24 ∨ q = o + 25 ∨ q = o + 26 := hq; show o + 24 ≤ q ∧ q ≤ o + 31; omega))).fq (fun q hq => hq) eV0, rfl, mn⟩
    · skip
      refine g_aload_n rfl rfl ?_
      refine g_iload_n rfl rfl ?_
      refine g_callVI [aI b] [] rfl rfl rfl rfl (Nat.le_of_ble_eq_true rfl) ms.1 (m_isThing (by omega) ms V0 ok mt b) ?_
      rintro r4 _ ⟨rfl, e5⟩
      rw [e5]
      clear e5 r4
      refine g_b_eq rfl (fun c35 => ?_) (fun c35 => ?_)
      · skip
        refine g_iconst rfl ?_
        refine g_istore (l1 := [(5, aI 0), (0, aO (some o)), (1, aI 1), (2, aI a), (3, aI b), (4, aI c)]) rfl rfl ?_
        refine g_iload rfl rfl ?_
        refine g_if_eq_t rfl (by omega) ?_
        refine g_iconst rfl ?_
        refine g_istore (l1 := [(5, aI 0), (0, aO (some o)), (1, aI 1), (2, aI a), (3, aI b), (4, aI c)]) rfl rfl ?_
        refine g_iload rfl rfl ?_
        refine g_if_ne_f rfl (by omega) ?_
        refine g_iconst rfl ?_
        refine g_iret rfl ?_
        have es : measM S 0 ((-1)) ((-1)) a b c (m_q1_O S a b c) = (-1, S) := by unfold measM; rw [if_neg (by unfold isV; omega)]
        rw [es]
        exact ⟨V0, rfl, (KQ.of (G0.wide (T2 := fun q => o + 24 ≤ q ∧ q ≤ o + 31) (fun q hq => by have hq : q = o + 24 ∨ q = o + 25 ∨ q = o + 26 := hq; show o + 24 ≤ q ∧ q ≤ o + 31; omega))).fq (fun q hq => hq) eV0, rfl, mn⟩
      · skip
        refine g_aload_n rfl rfl ?_
        refine g_iload rfl rfl ?_
        refine g_callVI [aI c] [] rfl rfl rfl rfl (Nat.le_of_ble_eq_true rfl) ms.1 (m_isThing (by omega) ms V0 ok mt c) ?_
        rintro r6 _ ⟨rfl, e7⟩
        rw [e7]
        clear e7 r6
        refine g_b_eq rfl (fun c44 => ?_) (fun c44 => ?_)
        · skip
          refine g_iconst rfl ?_
          refine g_istore (l1 := [(5, aI 0), (0, aO (some o)), (1, aI 1), (2, aI a), (3, aI b), (4, aI c)]) rfl rfl ?_
          refine g_iload rfl rfl ?_
          refine g_if_eq_t rfl (by omega) ?_
          refine g_iconst rfl ?_
          refine g_istore (l1 := [(5, aI 0), (0, aO (some o)), (1, aI 1), (2, aI a), (3, aI b), (4, aI c)]) rfl rfl ?_
          refine g_iload rfl rfl ?_
          refine g_if_ne_f rfl (by omega) ?_
          refine g_iconst rfl ?_
          refine g_iret rfl ?_
          have es : measM S 0 ((-1)) ((-1)) a b c (m_q1_O S a b c) = (-1, S) := by unfold measM; rw [if_neg (by unfold isV; omega)]
          rw [es]
          exact ⟨V0, rfl, (KQ.of (G0.wide (T2 := fun q => o + 24 ≤ q ∧ q ≤ o + 31) (fun q hq => by have hq : q = o + 24 ∨ q = o + 25 ∨ q = o + 26 := hq; show o + 24 ≤ q ∧ q ≤ o + 31; omega))).fq (fun q hq => hq) eV0, rfl, mn⟩
        · skip
          refine g_aload_n rfl rfl ?_
          refine g_getR rfl ms.1 (mr_sort ms) ?_
          have ha : 0 ≤ a ∧ a < sT S := by omega
          have hb : 0 ≤ b ∧ b < sT S := by omega
          have hc : 0 ≤ c ∧ c < sT S := by omega
          refine g_iload_n rfl rfl ?_
          refine g_iald (i := a.toNat) rfl (mt_sort ms) (by omega) (by omega) ?_
          refine g_top (v2 := aI (sTs S a.toNat)) (congrArg aI (by exact (mt.2 a.toNat (by omega)).1)) ?_
          refine g_iload_n rfl rfl ?_
          refine g_iconst rfl ?_
          refine g_icmp_ne_t rfl (by omega) ?_
          refine g_iconst rfl ?_
          refine g_icmp_ne rfl (fun c63 => ?_) (fun c63 => ?_)
          · skip
            refine g_iconst rfl ?_
            refine g_istore (l1 := [(5, aI 0), (0, aO (some o)), (1, aI 1), (2, aI a), (3, aI b), (4, aI c)]) rfl rfl ?_
            refine g_iload rfl rfl ?_
            refine g_if_eq_t rfl (by omega) ?_
            refine g_iconst rfl ?_
            refine g_istore (l1 := [(5, aI 0), (0, aO (some o)), (1, aI 1), (2, aI a), (3, aI b), (4, aI c)]) rfl rfl ?_
            refine g_iload rfl rfl ?_
            refine g_if_ne_f rfl (by omega) ?_
            refine g_iconst rfl ?_
            refine g_iret rfl ?_
            have es : measM S 0 ((-1)) ((-1)) a b c (m_q1_O S a b c) = (-1, S) := by unfold measM; rw [if_neg (by unfold isV; omega)]
            rw [es]
            exact ⟨V0, rfl, (KQ.of (G0.wide (T2 := fun q => o + 24 ≤ q ∧ q ≤ o + 31) (fun q hq => by have hq : q = o + 24 ∨ q = o + 25 ∨ q = o + 26 := hq; show o + 24 ≤ q ∧ q ≤ o + 31; omega))).fq (fun q hq => hq) eV0, rfl, mn⟩
          · skip
            refine g_iconst rfl ?_
            refine g_goto rfl ?_
            refine g_istore (l1 := [(5, aI 1), (0, aO (some o)), (1, aI 1), (2, aI a), (3, aI b), (4, aI c)]) rfl rfl ?_
            refine g_iload rfl rfl ?_
            refine g_if_eq_f rfl (by omega) ?_
            refine g_iload_n rfl rfl ?_
            refine g_iconst rfl ?_
            refine g_icmp_eq_f rfl (by omega) ?_
            refine g_iload_n rfl rfl ?_
            refine g_iconst rfl ?_
            refine g_icmp_ne_t rfl (by omega) ?_
            refine g_iload_n rfl rfl ?_
            refine g_iconst rfl ?_
            refine g_icmp_ne_t rfl (by omega) ?_
            refine g_iload_n rfl rfl ?_
            refine g_bipush rfl ?_
            refine g_icmp_ne_t rfl (by omega) ?_
            refine g_iload_n rfl rfl ?_
            refine g_iconst rfl ?_
            refine g_icmp_ne_t rfl (by omega) ?_
            refine g_iconst rfl ?_
            refine g_goto rfl ?_
            refine g_istore (l1 := [(5, aI 1), (0, aO (some o)), (1, aI 1), (2, aI a), (3, aI b), (4, aI c)]) rfl rfl ?_
            refine g_iload rfl rfl ?_
            refine g_if_ne_t rfl (by omega) ?_
            refine g_iload_n rfl rfl ?_
            refine g_iconst rfl ?_
            refine g_icmp_eq_f rfl (by omega) ?_
            refine g_aload_n rfl rfl ?_
            refine g_iload_n rfl rfl ?_
            refine g_callVI [aI a] [] rfl rfl rfl rfl (Nat.le_of_ble_eq_true rfl) ms.1 (m_isFar (by omega) ms V0 ok mt a ha) ?_
            rintro r8 _ ⟨rfl, e9⟩
            rw [e9]
            clear e9 r8
            refine g_b_ne rfl (fun c167 => ?_) (fun c167 => ?_)
            · skip
              refine g_iconst rfl ?_
              refine g_goto rfl ?_
              refine g_istore (l1 := [(6, aI 1), (5, aI 1), (0, aO (some o)), (1, aI 1), (2, aI a), (3, aI b), (4, aI c)]) rfl rfl ?_
              refine g_iload rfl rfl ?_
              refine g_if_eq_f rfl (by omega) ?_
              refine g_bipush rfl ?_
              refine g_iret rfl ?_
              have es : measM S 0 ((-1)) ((-1)) a b c (m_q1_O S a b c) = keepGO S (m_q1_O S a b c) := by unfold measM; rw [if_pos (by unfold isV; omega)]
              rw [es]
              have eo : m_q1_O S a b c = none := by unfold m_q1_O; exact if_pos (by omega)
              rw [eo]
              exact ⟨V0, rfl, (KQ.of (G0.wide (T2 := fun q => o + 24 ≤ q ∧ q ≤ o + 31) (fun q hq => by have hq : q = o + 24 ∨ q = o + 25 ∨ q = o + 26 := hq; show o + 24 ≤ q ∧ q ≤ o + 31; omega))).fq (fun q hq => hq) eV0, rfl, mn⟩
            · skip
              refine g_iload_n rfl rfl ?_
              refine g_iconst rfl ?_
              refine g_icmp_eq_f rfl (by omega) ?_
              refine g_iload_n rfl rfl ?_
              refine g_iconst rfl ?_
              refine g_icmp_ne_t rfl (by omega) ?_
              refine g_iload_n rfl rfl ?_
              refine g_iconst rfl ?_
              refine g_icmp_ne_t rfl (by omega) ?_
              refine g_iload_n rfl rfl ?_
              refine g_bipush rfl ?_
              refine g_icmp_ne_t rfl (by omega) ?_
              refine g_iconst rfl ?_
              refine g_istore (l1 := [(6, aI 0), (5, aI 1), (0, aO (some o)), (1, aI 1), (2, aI a), (3, aI b), (4, aI c)]) rfl rfl ?_
              refine g_iload rfl rfl ?_
              refine g_if_eq_t rfl (by omega) ?_
              refine g_aload_n rfl rfl ?_
              refine g_aload_n rfl rfl ?_
              refine g_getR rfl ms.1 (mr_one ms) ?_
              refine g_iload_n rfl rfl ?_
              refine g_callVN [aO (some (o + 24)), aI a] [] rfl rfl rfl rfl (Nat.le_of_ble_eq_true rfl) ms.1 (m_load (by omega) ms V0 ok mt (by have := G0.2.2.1; omega) ((o + 24)) (show SLa o ((o + 24)) by unfold SLa; omega) a ha) ?_
              rintro _ ⟨V10, rfl, g10, t10, u10, v10, y10, s10, xt10, xu10, xv10, xy10⟩
              have G_11 := G0.trans (g10.wide (fun q hq => by have hq : q = o + 24 := hq; show q = o + 24 ∨ q = o + 25 ∨ q = o + 26; omega))
              refine g_aload_n rfl rfl ?_
              refine g_aload_n rfl rfl ?_
              refine g_getR rfl ms.1 (mr_two ms) ?_
              refine g_iload_n rfl rfl ?_
              refine g_callVN [aO (some (o + 25)), aI b] [] rfl rfl rfl rfl (Nat.le_of_ble_eq_true rfl) ms.1 (m_load (by omega) ms V10 ok (g10.mt (show ¬((o + 4) = o + 24) by omega) (show ¬((o + 5) = o + 24) by omega) mt) (by have := G_11.2.2.1; omega) ((o + 25)) (show SLa o ((o + 25)) by unfold SLa; omega) b hb) ?_
              rintro _ ⟨V12, rfl, g12, t12, u12, v12, y12, s12, xt12, xu12, xv12, xy12⟩
              have G_13 := G_11.trans (g12.wide (fun q hq => by have hq : q = o + 25 := hq; show q = o + 24 ∨ q = o + 25 ∨ q = o + 26; omega))
              refine g_aload_n rfl rfl ?_
              refine g_aload_n rfl rfl ?_
              refine g_getR rfl ms.1 (mr_three ms) ?_
              refine g_iload rfl rfl ?_
              refine g_callVN [aO (some (o + 26)), aI c] [] rfl rfl rfl rfl (Nat.le_of_ble_eq_true rfl) ms.1 (m_load (by omega) ms V12 ok (g12.mt (show ¬((o + 4) = o + 25) by omega) (show ¬((o + 5) = o + 25) by omega) (g10.mt (show ¬((o + 4) = o + 24) by omega) (show ¬((o + 5) = o + 24) by omega) mt)) (by have := G_13.2.2.1; omega) ((o + 26)) (show SLa o ((o + 26)) by unfold SLa; omega) c hc) ?_
              rintro _ ⟨V14, rfl, g14, t14, u14, v14, y14, s14, xt14, xu14, xv14, xy14⟩
              have G_15 := G_13.trans (g14.wide (fun q hq => by have hq : q = o + 26 := hq; show q = o + 24 ∨ q = o + 25 ∨ q = o + 26; omega))
              refine g_iload_n rfl rfl ?_
              refine g_tsw (t := 300) rfl (by rfl) ?_
              refine g_aload_n rfl rfl ?_
              refine g_aload_n rfl rfl ?_
              refine g_getR rfl ms.1 (mr_one ms) ?_
              refine g_iload_n rfl rfl ?_
              refine g_iald (i := 1) rfl (mt_one ms) (by omega) (by omega) ?_
              refine g_top (v2 := aI ((u10 : Int))) (congrArg aI (by exact (g14.sa (show SLa o ((o + 24)) by unfold SLa; omega) (show ¬(o + 24 = o + 26) by omega) (g12.sa (show SLa o ((o + 24)) by unfold SLa; omega) (show ¬(o + 24 = o + 25) by omega) s10)).2.1)) ?_
              refine g_aload_n rfl rfl ?_
              refine g_getR rfl ms.1 (mr_one ms) ?_
              refine g_iconst rfl ?_
              refine g_iald (i := 2) rfl (mt_one ms) (by omega) (by omega) ?_
              refine g_top (v2 := aI ((v10 : Int))) (congrArg aI (by exact (g14.sa (show SLa o ((o + 24)) by unfold SLa; omega) (show ¬(o + 24 = o + 26) by omega) (g12.sa (show SLa o ((o + 24)) by unfold SLa; omega) (show ¬(o + 24 = o + 25) by omega) s10)).2.2.1)) ?_
              refine g_callVI [aI ((u10 : Int)), aI ((v10 : Int))] [] rfl rfl rfl rfl (Nat.le_of_ble_eq_true rfl) ms.1 (m_keepGreat (by omega) ms V14 (g14.mn (show ¬((o + 2) = o + 26) by omega) (show ¬((o + 3) = o + 26) by omega) (g12.mn (show ¬((o + 2) = o + 25) by omega) (show ¬((o + 3) = o + 25) by omega) (g10.mn (show ¬((o + 2) = o + 24) by omega) (show ¬((o + 3) = o + 24) by omega) mn))) okn (by have := G_15.2.2.1; omega) (show RB V14 o u10 ((tpR S a).2.1) (20) from ((g14.rb (g12.rb xu10)).up (by omega))) (show RB V14 o v10 ((tpR S a).2.2.1) (20) from ((g14.rb (g12.rb xv10)).up (by omega))) (by omega)) ?_
              rintro r16 _ ⟨V16, rfl, k16, e16, m16⟩
              refine g_iret rfl ?_
              have es : measM S 0 ((-1)) ((-1)) a b c (m_q1_O S a b c) = keepGO S (m_q1_O S a b c) := by unfold measM; rw [if_pos (by unfold isV; omega)]
              rw [es]
              have eo : m_q1_O S a b c = some ((tpR S a).2.1, (tpR S a).2.2.1) := by unfold m_q1_O; exact if_neg (by omega)
              rw [eo]
              exact ⟨_, rfl, (Gs.kq (G_15.wide (T2 := fun q => o + 24 ≤ q ∧ q ≤ o + 31) (fun q hq => by have hq : q = o + 24 ∨ q = o + 25 ∨ q = o + 26 := hq; show o + 24 ≤ q ∧ q ≤ o + 31; omega)) k16 (fun q hq => hq.elim)).fq (fun q hq => hq) eV0, e16, m16⟩
set_option maxRecDepth 100000 in
set_option maxHeartbeats 4000000 in
theorem m_meas2 {w : aW} {d : Nat} (hd : 8 ≤ d) {h : aH} {o : Nat} (ms : MS h o) (V : Nat → Nat → Int) {S : aS} (ok : OkT S) (mt : MT V o S) (okn : OkN S) (mn : MN V o S) (a b c : Int) : WP w d 320 [aO (some o), aI 2, aI a, aI b, aI c] (hw h V) (RI (fun r h1 => ∃ V1, h1 = hw h V1 ∧ FQ V V1 o ∧ r = (measM S 0 0 ((-1)) a b c (m_q2_O S a b c)).1 ∧ MN V1 o (measM S 0 0 ((-1)) a b c (m_q2_O S a b c)).2)) := by
  obtain ⟨d, rfl⟩ : ∃ d1, d = d1 + 1 := ⟨d - 1, by omega⟩
  refine WP.enter (cd := cd_X12_measure) rfl ?_
  have hn := ok.1
  have hls : largs 0 [aO (some o), aI 2, aI a, aI b, aI c] = [(0, aO (some o)), (1, aI 2), (2, aI a), (3, aI b), (4, aI c)] := rfl
  rw [hls]
  clear hls
  refine g_aload_n rfl rfl ?_
  refine g_iconst rfl ?_
  refine g_putI rfl ms.1 ?_
  refine g_hp (h2 := hw h (vset V o 31 0)) rfl ?_
  refine g_aload_n rfl rfl ?_
  refine g_iconst rfl ?_
  refine g_putI rfl ms.1 ?_
  obtain ⟨V0, eV0⟩ : ∃ W, W = vset (vset V o 31 0) o 1 0 := ⟨_, rfl⟩
  refine g_hp (h2 := hw h V0) (by rw [eV0]; rfl) ?_
  have mt : MT V0 o S := by rw [eV0]; exact mt.rs
  have f0 : V0 o 1 = 0 := by rw [eV0]; exact vset_eq _ _ _ _
  have G0 := Gs.refl V0 o (fun q => q = o + 24 ∨ q = o + 25 ∨ q = o + 26)
  have mn : MN V0 o S := by rw [eV0]; exact mn.rs
  refine g_iload_n rfl rfl ?_
  refine g_i2l rfl ?_
  refine g_lconst0 rfl ?_
  refine g_ldc2 rfl ?_
  refine g_callSI [aJ 2, aJ 0, aJ 6] [] rfl rfl rfl rfl (Nat.le_of_ble_eq_true rfl) (c_in (by omega) _ _ _ _) ?_
  rintro r1 _ ⟨rfl, rfl⟩
  refine g_b_eq rfl (fun c19 => ?_) (fun c19 => ?_)
  · skip
    refine g_iconst rfl ?_
    refine g_istore (l1 := [(5, aI 0), (0, aO (some o)), (1, aI 2), (2, aI a), (3, aI b), (4, aI c)]) rfl rfl ?_
    refine g_iload rfl rfl ?_
    refine g_if_eq_t rfl (by omega) ?_
    refine g_iconst rfl ?_
    refine g_istore (l1 := [(5, aI 0), (0, aO (some o)), (1, aI 2), (2, aI a), (3, aI b), (4, aI c)]) rfl rfl ?_
    refine g_iload rfl rfl ?_
    refine g_if_ne_f rfl (by omega) ?_
    refine g_iconst rfl ?_
    refine g_iret rfl ?_
    have es : measM S 0 0 ((-1)) a b c (m_q2_O S a b c) = (-1, S) := by unfold measM; rw [if_neg (by unfold isV; omega)]
    rw [es]
    exact ⟨V0, rfl, (KQ.of (G0.wide (T2 := fun q => o + 24 ≤ q ∧ q ≤ o + 31) (fun q hq => by have hq : q = o + 24 ∨ q = o + 25 ∨ q = o + 26 := hq; show o + 24 ≤ q ∧ q ≤ o + 31; omega))).fq (fun q hq => hq) eV0, rfl, mn⟩
  · skip
    refine g_aload_n rfl rfl ?_
    refine g_iload_n rfl rfl ?_
    refine g_callVI [aI a] [] rfl rfl rfl rfl (Nat.le_of_ble_eq_true rfl) ms.1 (m_isThing (by omega) ms V0 ok mt a) ?_
    rintro r2 _ ⟨rfl, e3⟩
    rw [e3]
    clear e3 r2
    refine g_b_eq rfl (fun c27 => ?_) (fun c27 => ?_)
    · skip
      refine g_iconst rfl ?_
      refine g_istore (l1 := [(5, aI 0), (0, aO (some o)), (1, aI 2), (2, aI a), (3, aI b), (4, aI c)]) rfl rfl ?_
      refine g_iload rfl rfl ?_
      refine g_if_eq_t rfl (by omega) ?_
      refine g_iconst rfl ?_
      refine g_istore (l1 := [(5, aI 0), (0, aO (some o)), (1, aI 2), (2, aI a), (3, aI b), (4, aI c)]) rfl rfl ?_
      refine g_iload rfl rfl ?_
      refine g_if_ne_f rfl (by omega) ?_
      refine g_iconst rfl ?_
      refine g_iret rfl ?_
      have es : measM S 0 0 ((-1)) a b c (m_q2_O S a b c) = (-1, S) := by unfold measM; rw [if_neg (by unfold isV; omega)]
      rw [es]
      exact ⟨V0, rfl, (KQ.of (G0.wide (T2 := fun q => o + 24 ≤ q ∧ q ≤ o + 31) (fun q hq => by have hq : q = o + 24 ∨ q = o + 25 ∨ q = o + 26 := hq; show o + 24 ≤ q ∧ q ≤ o + 31; omega))).fq (fun q hq => hq) eV0, rfl, mn⟩
    · skip
      refine g_aload_n rfl rfl ?_
      refine g_iload_n rfl rfl ?_
      refine g_callVI [aI b] [] rfl rfl rfl rfl (Nat.le_of_ble_eq_true rfl) ms.1 (m_isThing (by omega) ms V0 ok mt b) ?_
      rintro r4 _ ⟨rfl, e5⟩
      rw [e5]
      clear e5 r4
      refine g_b_eq rfl (fun c35 => ?_) (fun c35 => ?_)
      · skip
        refine g_iconst rfl ?_
        refine g_istore (l1 := [(5, aI 0), (0, aO (some o)), (1, aI 2), (2, aI a), (3, aI b), (4, aI c)]) rfl rfl ?_
        refine g_iload rfl rfl ?_
        refine g_if_eq_t rfl (by omega) ?_
        refine g_iconst rfl ?_
        refine g_istore (l1 := [(5, aI 0), (0, aO (some o)), (1, aI 2), (2, aI a), (3, aI b), (4, aI c)]) rfl rfl ?_
        refine g_iload rfl rfl ?_
        refine g_if_ne_f rfl (by omega) ?_
        refine g_iconst rfl ?_
        refine g_iret rfl ?_
        have es : measM S 0 0 ((-1)) a b c (m_q2_O S a b c) = (-1, S) := by unfold measM; rw [if_neg (by unfold isV; omega)]
        rw [es]
        exact ⟨V0, rfl, (KQ.of (G0.wide (T2 := fun q => o + 24 ≤ q ∧ q ≤ o + 31) (fun q hq => by have hq : q = o + 24 ∨ q = o + 25 ∨ q = o + 26 := hq; show o + 24 ≤ q ∧ q ≤ o + 31; omega))).fq (fun q hq => hq) eV0, rfl, mn⟩
      · skip
        refine g_aload_n rfl rfl ?_
        refine g_iload rfl rfl ?_
        refine g_callVI [aI c] [] rfl rfl rfl rfl (Nat.le_of_ble_eq_true rfl) ms.1 (m_isThing (by omega) ms V0 ok mt c) ?_
        rintro r6 _ ⟨rfl, e7⟩
        rw [e7]
        clear e7 r6
        refine g_b_eq rfl (fun c44 => ?_) (fun c44 => ?_)
        · skip
          refine g_iconst rfl ?_
          refine g_istore (l1 := [(5, aI 0), (0, aO (some o)), (1, aI 2), (2, aI a), (3, aI b), (4, aI c)]) rfl rfl ?_
          refine g_iload rfl rfl ?_
          refine g_if_eq_t rfl (by omega) ?_
          refine g_iconst rfl ?_
          refine g_istore (l1 := [(5, aI 0), (0, aO (some o)), (1, aI 2), (2, aI a), (3, aI b), (4, aI c)]) rfl rfl ?_
          refine g_iload rfl rfl ?_
          refine g_if_ne_f rfl (by omega) ?_
          refine g_iconst rfl ?_
          refine g_iret rfl ?_
          have es : measM S 0 0 ((-1)) a b c (m_q2_O S a b c) = (-1, S) := by unfold measM; rw [if_neg (by unfold isV; omega)]
          rw [es]
          exact ⟨V0, rfl, (KQ.of (G0.wide (T2 := fun q => o + 24 ≤ q ∧ q ≤ o + 31) (fun q hq => by have hq : q = o + 24 ∨ q = o + 25 ∨ q = o + 26 := hq; show o + 24 ≤ q ∧ q ≤ o + 31; omega))).fq (fun q hq => hq) eV0, rfl, mn⟩
        · skip
          refine g_aload_n rfl rfl ?_
          refine g_getR rfl ms.1 (mr_sort ms) ?_
          have ha : 0 ≤ a ∧ a < sT S := by omega
          have hb : 0 ≤ b ∧ b < sT S := by omega
          have hc : 0 ≤ c ∧ c < sT S := by omega
          refine g_iload_n rfl rfl ?_
          refine g_iald (i := a.toNat) rfl (mt_sort ms) (by omega) (by omega) ?_
          refine g_top (v2 := aI (sTs S a.toNat)) (congrArg aI (by exact (mt.2 a.toNat (by omega)).1)) ?_
          refine g_iload_n rfl rfl ?_
          refine g_iconst rfl ?_
          refine g_icmp_ne_t rfl (by omega) ?_
          refine g_iconst rfl ?_
          refine g_icmp_ne rfl (fun c63 => ?_) (fun c63 => ?_)
          · skip
            refine g_iconst rfl ?_
            refine g_istore (l1 := [(5, aI 0), (0, aO (some o)), (1, aI 2), (2, aI a), (3, aI b), (4, aI c)]) rfl rfl ?_
            refine g_iload rfl rfl ?_
            refine g_if_eq_t rfl (by omega) ?_
            refine g_iconst rfl ?_
            refine g_istore (l1 := [(5, aI 0), (0, aO (some o)), (1, aI 2), (2, aI a), (3, aI b), (4, aI c)]) rfl rfl ?_
            refine g_iload rfl rfl ?_
            refine g_if_ne_f rfl (by omega) ?_
            refine g_iconst rfl ?_
            refine g_iret rfl ?_
            have es : measM S 0 0 ((-1)) a b c (m_q2_O S a b c) = (-1, S) := by unfold measM; rw [if_neg (by unfold isV; omega)]
            rw [es]
            exact ⟨V0, rfl, (KQ.of (G0.wide (T2 := fun q => o + 24 ≤ q ∧ q ≤ o + 31) (fun q hq => by have hq : q = o + 24 ∨ q = o + 25 ∨ q = o + 26 := hq; show o + 24 ≤ q ∧ q ≤ o + 31; omega))).fq (fun q hq => hq) eV0, rfl, mn⟩
          · skip
            refine g_iconst rfl ?_
            refine g_goto rfl ?_
            refine g_istore (l1 := [(5, aI 1), (0, aO (some o)), (1, aI 2), (2, aI a), (3, aI b), (4, aI c)]) rfl rfl ?_
            refine g_iload rfl rfl ?_
            refine g_if_eq_f rfl (by omega) ?_
            refine g_iload_n rfl rfl ?_
            refine g_iconst rfl ?_
            refine g_icmp_eq_t rfl (by omega) ?_
            refine g_aload_n rfl rfl ?_
            refine g_getR rfl ms.1 (mr_sort ms) ?_
            refine g_iload_n rfl rfl ?_
            refine g_iald (i := b.toNat) rfl (mt_sort ms) (by omega) (by omega) ?_
            refine g_top (v2 := aI (sTs S b.toNat)) (congrArg aI (by exact (mt.2 b.toNat (by omega)).1)) ?_
            refine g_if_ne rfl (fun c94 => ?_) (fun c94 => ?_)
            · skip
              refine g_iconst rfl ?_
              refine g_istore (l1 := [(5, aI 0), (0, aO (some o)), (1, aI 2), (2, aI a), (3, aI b), (4, aI c)]) rfl rfl ?_
              refine g_iload rfl rfl ?_
              refine g_if_ne_f rfl (by omega) ?_
              refine g_iconst rfl ?_
              refine g_iret rfl ?_
              have es : measM S 0 0 ((-1)) a b c (m_q2_O S a b c) = (-1, S) := by unfold measM; rw [if_neg (by unfold isV; omega)]
              rw [es]
              exact ⟨V0, rfl, (KQ.of (G0.wide (T2 := fun q => o + 24 ≤ q ∧ q ≤ o + 31) (fun q hq => by have hq : q = o + 24 ∨ q = o + 25 ∨ q = o + 26 := hq; show o + 24 ≤ q ∧ q ≤ o + 31; omega))).fq (fun q hq => hq) eV0, rfl, mn⟩
            · skip
              refine g_iload_n rfl rfl ?_
              refine g_iconst rfl ?_
              refine g_icmp_ne_t rfl (by omega) ?_
              refine g_iload_n rfl rfl ?_
              refine g_bipush rfl ?_
              refine g_icmp_ne_t rfl (by omega) ?_
              refine g_iload_n rfl rfl ?_
              refine g_iconst rfl ?_
              refine g_icmp_ne_t rfl (by omega) ?_
              refine g_iconst rfl ?_
              refine g_goto rfl ?_
              refine g_istore (l1 := [(5, aI 1), (0, aO (some o)), (1, aI 2), (2, aI a), (3, aI b), (4, aI c)]) rfl rfl ?_
              refine g_iload rfl rfl ?_
              refine g_if_ne_t rfl (by omega) ?_
              refine g_iload_n rfl rfl ?_
              refine g_iconst rfl ?_
              refine g_icmp_eq_f rfl (by omega) ?_
              refine g_aload_n rfl rfl ?_
              refine g_iload_n rfl rfl ?_
              refine g_callVI [aI a] [] rfl rfl rfl rfl (Nat.le_of_ble_eq_true rfl) ms.1 (m_isFar (by omega) ms V0 ok mt a ha) ?_
              rintro r8 _ ⟨rfl, e9⟩
              rw [e9]
              clear e9 r8
              refine g_b_ne rfl (fun c167 => ?_) (fun c167 => ?_)
              · skip
                refine g_iconst rfl ?_
                refine g_goto rfl ?_
                refine g_istore (l1 := [(6, aI 1), (5, aI 1), (0, aO (some o)), (1, aI 2), (2, aI a), (3, aI b), (4, aI c)]) rfl rfl ?_
                refine g_iload rfl rfl ?_
                refine g_if_eq_f rfl (by omega) ?_
                refine g_bipush rfl ?_
                refine g_iret rfl ?_
                have es : measM S 0 0 ((-1)) a b c (m_q2_O S a b c) = keepGO S (m_q2_O S a b c) := by unfold measM; rw [if_pos (by unfold isV; omega)]
                rw [es]
                have eo : m_q2_O S a b c = none := by unfold m_q2_O; exact if_pos (by omega)
                rw [eo]
                exact ⟨V0, rfl, (KQ.of (G0.wide (T2 := fun q => o + 24 ≤ q ∧ q ≤ o + 31) (fun q hq => by have hq : q = o + 24 ∨ q = o + 25 ∨ q = o + 26 := hq; show o + 24 ≤ q ∧ q ≤ o + 31; omega))).fq (fun q hq => hq) eV0, rfl, mn⟩
              · skip
                refine g_iload_n rfl rfl ?_
                refine g_iconst rfl ?_
                refine g_icmp_eq_t rfl (by omega) ?_
                refine g_aload_n rfl rfl ?_
                refine g_iload_n rfl rfl ?_
                refine g_callVI [aI b] [] rfl rfl rfl rfl (Nat.le_of_ble_eq_true rfl) ms.1 (m_isFar (by omega) ms V0 ok mt b hb) ?_
                rintro r10 _ ⟨rfl, e11⟩
                rw [e11]
                clear e11 r10
                refine g_b_ne rfl (fun c185 => ?_) (fun c185 => ?_)
                · skip
                  refine g_iconst rfl ?_
                  refine g_goto rfl ?_
                  refine g_istore (l1 := [(6, aI 1), (5, aI 1), (0, aO (some o)), (1, aI 2), (2, aI a), (3, aI b), (4, aI c)]) rfl rfl ?_
                  refine g_iload rfl rfl ?_
                  refine g_if_eq_f rfl (by omega) ?_
                  refine g_bipush rfl ?_
                  refine g_iret rfl ?_
                  have es : measM S 0 0 ((-1)) a b c (m_q2_O S a b c) = keepGO S (m_q2_O S a b c) := by unfold measM; rw [if_pos (by unfold isV; omega)]
                  rw [es]
                  have eo : m_q2_O S a b c = none := by unfold m_q2_O; exact if_pos (by omega)
                  rw [eo]
                  exact ⟨V0, rfl, (KQ.of (G0.wide (T2 := fun q => o + 24 ≤ q ∧ q ≤ o + 31) (fun q hq => by have hq : q = o + 24 ∨ q = o + 25 ∨ q = o + 26 := hq; show o + 24 ≤ q ∧ q ≤ o + 31; omega))).fq (fun q hq => hq) eV0, rfl, mn⟩
                · skip
                  refine g_iload_n rfl rfl ?_
                  refine g_iconst rfl ?_
                  refine g_icmp_ne_t rfl (by omega) ?_
                  refine g_iload_n rfl rfl ?_
                  refine g_bipush rfl ?_
                  refine g_icmp_ne_t rfl (by omega) ?_
                  refine g_iconst rfl ?_
                  refine g_istore (l1 := [(6, aI 0), (5, aI 1), (0, aO (some o)), (1, aI 2), (2, aI a), (3, aI b), (4, aI c)]) rfl rfl ?_
                  refine g_iload rfl rfl ?_
                  refine g_if_eq_t rfl (by omega) ?_
                  refine g_aload_n rfl rfl ?_
                  refine g_aload_n rfl rfl ?_
                  refine g_getR rfl ms.1 (mr_one ms) ?_
                  refine g_iload_n rfl rfl ?_
                  refine g_callVN [aO (some (o + 24)), aI a] [] rfl rfl rfl rfl (Nat.le_of_ble_eq_true rfl) ms.1 (m_load (by omega) ms V0 ok mt (by have := G0.2.2.1; omega) ((o + 24)) (show SLa o ((o + 24)) by unfold SLa; omega) a ha) ?_
                  rintro _ ⟨V12, rfl, g12, t12, u12, v12, y12, s12, xt12, xu12, xv12, xy12⟩
                  have G_13 := G0.trans (g12.wide (fun q hq => by have hq : q = o + 24 := hq; show q = o + 24 ∨ q = o + 25 ∨ q = o + 26; omega))
                  refine g_aload_n rfl rfl ?_
                  refine g_aload_n rfl rfl ?_
                  refine g_getR rfl ms.1 (mr_two ms) ?_
                  refine g_iload_n rfl rfl ?_
                  refine g_callVN [aO (some (o + 25)), aI b] [] rfl rfl rfl rfl (Nat.le_of_ble_eq_true rfl) ms.1 (m_load (by omega) ms V12 ok (g12.mt (show ¬((o + 4) = o + 24) by omega) (show ¬((o + 5) = o + 24) by omega) mt) (by have := G_13.2.2.1; omega) ((o + 25)) (show SLa o ((o + 25)) by unfold SLa; omega) b hb) ?_
                  rintro _ ⟨V14, rfl, g14, t14, u14, v14, y14, s14, xt14, xu14, xv14, xy14⟩
                  have G_15 := G_13.trans (g14.wide (fun q hq => by have hq : q = o + 25 := hq; show q = o + 24 ∨ q = o + 25 ∨ q = o + 26; omega))
                  refine g_aload_n rfl rfl ?_
                  refine g_aload_n rfl rfl ?_
                  refine g_getR rfl ms.1 (mr_three ms) ?_
                  refine g_iload rfl rfl ?_
                  refine g_callVN [aO (some (o + 26)), aI c] [] rfl rfl rfl rfl (Nat.le_of_ble_eq_true rfl) ms.1 (m_load (by omega) ms V14 ok (g14.mt (show ¬((o + 4) = o + 25) by omega) (show ¬((o + 5) = o + 25) by omega) (g12.mt (show ¬((o + 4) = o + 24) by omega) (show ¬((o + 5) = o + 24) by omega) mt)) (by have := G_15.2.2.1; omega) ((o + 26)) (show SLa o ((o + 26)) by unfold SLa; omega) c hc) ?_
                  rintro _ ⟨V16, rfl, g16, t16, u16, v16, y16, s16, xt16, xu16, xv16, xy16⟩
                  have G_17 := G_15.trans (g16.wide (fun q hq => by have hq : q = o + 26 := hq; show q = o + 24 ∨ q = o + 25 ∨ q = o + 26; omega))
                  refine g_iload_n rfl rfl ?_
                  refine g_tsw (t := 317) rfl (by rfl) ?_
                  refine g_aload_n rfl rfl ?_
                  refine g_aload_n rfl rfl ?_
                  refine g_aload_n rfl rfl ?_
                  refine g_getR rfl ms.1 (mr_one ms) ?_
                  refine g_aload_n rfl rfl ?_
                  refine g_getR rfl ms.1 (mr_two ms) ?_
                  refine g_callVI [aO (some (o + 24)), aO (some (o + 25))] [aO (some o)] rfl rfl rfl rfl (Nat.le_of_ble_eq_true rfl) ms.1 (m_apart (by omega) ms V16 (by have := G_17.2.2.1; omega) ((o + 24)) (show SLa o ((o + 24)) by unfold SLa; omega) (show SB V16 o (o + 24) (tpR S a) (20) from ⟨_, _, _, _, (g16.sa (show SLa o ((o + 24)) by unfold SLa; omega) (show ¬(o + 24 = o + 26) by omega) (g14.sa (show SLa o ((o + 24)) by unfold SLa; omega) (show ¬(o + 24 = o + 25) by omega) s12)), ((g16.rb (g14.rb xt12)).up (by omega)), ((g16.rb (g14.rb xu12)).up (by omega)), ((g16.rb (g14.rb xv12)).up (by omega)), ((g16.rb (g14.rb xy12)).up (by omega))⟩) ((o + 25)) (show SLa o ((o + 25)) by unfold SLa; omega) (show SB V16 o (o + 25) (tpR S b) (20) from ⟨_, _, _, _, (g16.sa (show SLa o ((o + 25)) by unfold SLa; omega) (show ¬(o + 25 = o + 26) by omega) s14), ((g16.rb xt14).up (by omega)), ((g16.rb xu14).up (by omega)), ((g16.rb xv14).up (by omega)), ((g16.rb xy14).up (by omega))⟩)) ?_
                  rintro _ _ ⟨p18, rfl, V18, rfl, g18, xp18⟩
                  have G_19 := G_17.trans (g18.gs _)
                  refine g_aload_n rfl rfl ?_
                  refine g_aload_n rfl rfl ?_
                  refine g_aload_n rfl rfl ?_
                  refine g_getR rfl ms.1 (mr_one ms) ?_
                  refine g_iconst rfl ?_
                  refine g_iald (i := 2) rfl (mt_one ms) (by omega) (by omega) ?_
                  refine g_top (v2 := aI ((v12 : Int))) (congrArg aI (by exact (g18.sa (show SLa o ((o + 24)) by unfold SLa; omega) (g16.sa (show SLa o ((o + 24)) by unfold SLa; omega) (show ¬(o + 24 = o + 26) by omega) (g14.sa (show SLa o ((o + 24)) by unfold SLa; omega) (show ¬(o + 24 = o + 25) by omega) s12))).2.2.1)) ?_
                  refine g_aload_n rfl rfl ?_
                  refine g_getR rfl ms.1 (mr_two ms) ?_
                  refine g_iconst rfl ?_
                  refine g_iald (i := 2) rfl (mt_two ms) (by omega) (by omega) ?_
                  refine g_top (v2 := aI ((v14 : Int))) (congrArg aI (by exact (g18.sa (show SLa o ((o + 25)) by unfold SLa; omega) (g16.sa (show SLa o ((o + 25)) by unfold SLa; omega) (show ¬(o + 25 = o + 26) by omega) s14)).2.2.1)) ?_
                  refine g_callVI [aI ((v12 : Int)), aI ((v14 : Int))] [aO (some o), aI ((p18 : Int)), aO (some o)] rfl rfl rfl rfl (Nat.le_of_ble_eq_true rfl) ms.1 (r_mul (by omega) ms V18 (by have := G_19.2.2.1; omega) (g18.rb (g16.rb (g14.rb xv12))) (g18.rb (g16.rb xv14)) (by omega)) ?_
                  rintro _ _ ⟨p20, rfl, V20, rfl, g20, xp20⟩
                  have G_21 := G_19.trans (g20.gs _)
                  refine g_callVI [aI ((p20 : Int))] [aI ((p18 : Int)), aO (some o)] rfl rfl rfl rfl (Nat.le_of_ble_eq_true rfl) ms.1 (r_square (by omega) ms V20 (by have := G_21.2.2.1; omega) xp20 (by omega)) ?_
                  rintro _ _ ⟨p22, rfl, V22, rfl, g22, xp22⟩
                  have G_23 := G_21.trans (g22.gs _)
                  refine g_callVI [aI ((p18 : Int)), aI ((p22 : Int))] [] rfl rfl rfl rfl (Nat.le_of_ble_eq_true rfl) ms.1 (m_keepGreat (by omega) ms V22 (g22.mn (g20.mn (g18.mn (g16.mn (show ¬((o + 2) = o + 26) by omega) (show ¬((o + 3) = o + 26) by omega) (g14.mn (show ¬((o + 2) = o + 25) by omega) (show ¬((o + 3) = o + 25) by omega) (g12.mn (show ¬((o + 2) = o + 24) by omega) (show ¬((o + 3) = o + 24) by omega) mn)))))) okn (by have := G_23.2.2.1; omega) (show RB V22 o p18 (m_apart_S (tpR S a) (tpR S b)) (83) from ((g22.rb (g20.rb xp18)).up (by omega))) (show RB V22 o p22 ((((tpR S a).2.2.1) * ((tpR S b).2.2.1)) * (((tpR S a).2.2.1) * ((tpR S b).2.2.1))) (83) from (xp22.up (by omega))) (by omega)) ?_
                  rintro r24 _ ⟨V24, rfl, k24, e24, m24⟩
                  refine g_iret rfl ?_
                  have es : measM S 0 0 ((-1)) a b c (m_q2_O S a b c) = keepGO S (m_q2_O S a b c) := by unfold measM; rw [if_pos (by unfold isV; omega)]
                  rw [es]
                  have eo : m_q2_O S a b c = some (m_apart_S (tpR S a) (tpR S b), (((tpR S a).2.2.1) * ((tpR S b).2.2.1)) * (((tpR S a).2.2.1) * ((tpR S b).2.2.1))) := by unfold m_q2_O; exact if_neg (by omega)
                  rw [eo]
                  exact ⟨_, rfl, (Gs.kq (G_23.wide (T2 := fun q => o + 24 ≤ q ∧ q ≤ o + 31) (fun q hq => by have hq : q = o + 24 ∨ q = o + 25 ∨ q = o + 26 := hq; show o + 24 ≤ q ∧ q ≤ o + 31; omega)) k24 (fun q hq => hq.elim)).fq (fun q hq => hq) eV0, e24, m24⟩
set_option maxRecDepth 100000 in
set_option maxHeartbeats 4000000 in
theorem m_meas3 {w : aW} {d : Nat} (hd : 8 ≤ d) {h : aH} {o : Nat} (ms : MS h o) (V : Nat → Nat → Int) {S : aS} (ok : OkT S) (mt : MT V o S) (okn : OkN S) (mn : MN V o S) (a b c : Int) : WP w d 320 [aO (some o), aI 3, aI a, aI b, aI c] (hw h V) (RI (fun r h1 => ∃ V1, h1 = hw h V1 ∧ FQ V V1 o ∧ r = (measM S 0 2 ((-1)) a b c (m_q3_O S a b c)).1 ∧ MN V1 o (measM S 0 2 ((-1)) a b c (m_q3_O S a b c)).2)) := by
  obtain ⟨d, rfl⟩ : ∃ d1, d = d1 + 1 := ⟨d - 1, by omega⟩
  refine WP.enter (cd := cd_X12_measure) rfl ?_
  have hn := ok.1
  have hls : largs 0 [aO (some o), aI 3, aI a, aI b, aI c] = [(0, aO (some o)), (1, aI 3), (2, aI a), (3, aI b), (4, aI c)] := rfl
  rw [hls]
  clear hls
  refine g_aload_n rfl rfl ?_
  refine g_iconst rfl ?_
  refine g_putI rfl ms.1 ?_
  refine g_hp (h2 := hw h (vset V o 31 0)) rfl ?_
  refine g_aload_n rfl rfl ?_
  refine g_iconst rfl ?_
  refine g_putI rfl ms.1 ?_
  obtain ⟨V0, eV0⟩ : ∃ W, W = vset (vset V o 31 0) o 1 0 := ⟨_, rfl⟩
  refine g_hp (h2 := hw h V0) (by rw [eV0]; rfl) ?_
  have mt : MT V0 o S := by rw [eV0]; exact mt.rs
  have f0 : V0 o 1 = 0 := by rw [eV0]; exact vset_eq _ _ _ _
  have G0 := Gs.refl V0 o (fun q => q = o + 24 ∨ q = o + 25 ∨ q = o + 26)
  have mn : MN V0 o S := by rw [eV0]; exact mn.rs
  refine g_iload_n rfl rfl ?_
  refine g_i2l rfl ?_
  refine g_lconst0 rfl ?_
  refine g_ldc2 rfl ?_
  refine g_callSI [aJ 3, aJ 0, aJ 6] [] rfl rfl rfl rfl (Nat.le_of_ble_eq_true rfl) (c_in (by omega) _ _ _ _) ?_
  rintro r1 _ ⟨rfl, rfl⟩
  refine g_b_eq rfl (fun c19 => ?_) (fun c19 => ?_)
  · skip
    refine g_iconst rfl ?_
    refine g_istore (l1 := [(5, aI 0), (0, aO (some o)), (1, aI 3), (2, aI a), (3, aI b), (4, aI c)]) rfl rfl ?_
    refine g_iload rfl rfl ?_
    refine g_if_eq_t rfl (by omega) ?_
    refine g_iconst rfl ?_
    refine g_istore (l1 := [(5, aI 0), (0, aO (some o)), (1, aI 3), (2, aI a), (3, aI b), (4, aI c)]) rfl rfl ?_
    refine g_iload rfl rfl ?_
    refine g_if_ne_f rfl (by omega) ?_
    refine g_iconst rfl ?_
    refine g_iret rfl ?_
    have es : measM S 0 2 ((-1)) a b c (m_q3_O S a b c) = (-1, S) := by unfold measM; rw [if_neg (by unfold isV; omega)]
    rw [es]
    exact ⟨V0, rfl, (KQ.of (G0.wide (T2 := fun q => o + 24 ≤ q ∧ q ≤ o + 31) (fun q hq => by have hq : q = o + 24 ∨ q = o + 25 ∨ q = o + 26 := hq; show o + 24 ≤ q ∧ q ≤ o + 31; omega))).fq (fun q hq => hq) eV0, rfl, mn⟩
  · skip
    refine g_aload_n rfl rfl ?_
    refine g_iload_n rfl rfl ?_
    refine g_callVI [aI a] [] rfl rfl rfl rfl (Nat.le_of_ble_eq_true rfl) ms.1 (m_isThing (by omega) ms V0 ok mt a) ?_
    rintro r2 _ ⟨rfl, e3⟩
    rw [e3]
    clear e3 r2
    refine g_b_eq rfl (fun c27 => ?_) (fun c27 => ?_)
    · skip
      refine g_iconst rfl ?_
      refine g_istore (l1 := [(5, aI 0), (0, aO (some o)), (1, aI 3), (2, aI a), (3, aI b), (4, aI c)]) rfl rfl ?_
      refine g_iload rfl rfl ?_
      refine g_if_eq_t rfl (by omega) ?_
      refine g_iconst rfl ?_
      refine g_istore (l1 := [(5, aI 0), (0, aO (some o)), (1, aI 3), (2, aI a), (3, aI b), (4, aI c)]) rfl rfl ?_
      refine g_iload rfl rfl ?_
      refine g_if_ne_f rfl (by omega) ?_
      refine g_iconst rfl ?_
      refine g_iret rfl ?_
      have es : measM S 0 2 ((-1)) a b c (m_q3_O S a b c) = (-1, S) := by unfold measM; rw [if_neg (by unfold isV; omega)]
      rw [es]
      exact ⟨V0, rfl, (KQ.of (G0.wide (T2 := fun q => o + 24 ≤ q ∧ q ≤ o + 31) (fun q hq => by have hq : q = o + 24 ∨ q = o + 25 ∨ q = o + 26 := hq; show o + 24 ≤ q ∧ q ≤ o + 31; omega))).fq (fun q hq => hq) eV0, rfl, mn⟩
    · skip
      refine g_aload_n rfl rfl ?_
      refine g_iload_n rfl rfl ?_
      refine g_callVI [aI b] [] rfl rfl rfl rfl (Nat.le_of_ble_eq_true rfl) ms.1 (m_isThing (by omega) ms V0 ok mt b) ?_
      rintro r4 _ ⟨rfl, e5⟩
      rw [e5]
      clear e5 r4
      refine g_b_eq rfl (fun c35 => ?_) (fun c35 => ?_)
      · skip
        refine g_iconst rfl ?_
        refine g_istore (l1 := [(5, aI 0), (0, aO (some o)), (1, aI 3), (2, aI a), (3, aI b), (4, aI c)]) rfl rfl ?_
        refine g_iload rfl rfl ?_
        refine g_if_eq_t rfl (by omega) ?_
        refine g_iconst rfl ?_
        refine g_istore (l1 := [(5, aI 0), (0, aO (some o)), (1, aI 3), (2, aI a), (3, aI b), (4, aI c)]) rfl rfl ?_
        refine g_iload rfl rfl ?_
        refine g_if_ne_f rfl (by omega) ?_
        refine g_iconst rfl ?_
        refine g_iret rfl ?_
        have es : measM S 0 2 ((-1)) a b c (m_q3_O S a b c) = (-1, S) := by unfold measM; rw [if_neg (by unfold isV; omega)]
        rw [es]
        exact ⟨V0, rfl, (KQ.of (G0.wide (T2 := fun q => o + 24 ≤ q ∧ q ≤ o + 31) (fun q hq => by have hq : q = o + 24 ∨ q = o + 25 ∨ q = o + 26 := hq; show o + 24 ≤ q ∧ q ≤ o + 31; omega))).fq (fun q hq => hq) eV0, rfl, mn⟩
      · skip
        refine g_aload_n rfl rfl ?_
        refine g_iload rfl rfl ?_
        refine g_callVI [aI c] [] rfl rfl rfl rfl (Nat.le_of_ble_eq_true rfl) ms.1 (m_isThing (by omega) ms V0 ok mt c) ?_
        rintro r6 _ ⟨rfl, e7⟩
        rw [e7]
        clear e7 r6
        refine g_b_eq rfl (fun c44 => ?_) (fun c44 => ?_)
        · skip
          refine g_iconst rfl ?_
          refine g_istore (l1 := [(5, aI 0), (0, aO (some o)), (1, aI 3), (2, aI a), (3, aI b), (4, aI c)]) rfl rfl ?_
          refine g_iload rfl rfl ?_
          refine g_if_eq_t rfl (by omega) ?_
          refine g_iconst rfl ?_
          refine g_istore (l1 := [(5, aI 0), (0, aO (some o)), (1, aI 3), (2, aI a), (3, aI b), (4, aI c)]) rfl rfl ?_
          refine g_iload rfl rfl ?_
          refine g_if_ne_f rfl (by omega) ?_
          refine g_iconst rfl ?_
          refine g_iret rfl ?_
          have es : measM S 0 2 ((-1)) a b c (m_q3_O S a b c) = (-1, S) := by unfold measM; rw [if_neg (by unfold isV; omega)]
          rw [es]
          exact ⟨V0, rfl, (KQ.of (G0.wide (T2 := fun q => o + 24 ≤ q ∧ q ≤ o + 31) (fun q hq => by have hq : q = o + 24 ∨ q = o + 25 ∨ q = o + 26 := hq; show o + 24 ≤ q ∧ q ≤ o + 31; omega))).fq (fun q hq => hq) eV0, rfl, mn⟩
        · skip
          refine g_aload_n rfl rfl ?_
          refine g_getR rfl ms.1 (mr_sort ms) ?_
          have ha : 0 ≤ a ∧ a < sT S := by omega
          have hb : 0 ≤ b ∧ b < sT S := by omega
          have hc : 0 ≤ c ∧ c < sT S := by omega
          refine g_iload_n rfl rfl ?_
          refine g_iald (i := a.toNat) rfl (mt_sort ms) (by omega) (by omega) ?_
          refine g_top (v2 := aI (sTs S a.toNat)) (congrArg aI (by exact (mt.2 a.toNat (by omega)).1)) ?_
          refine g_iload_n rfl rfl ?_
          refine g_iconst rfl ?_
          refine g_icmp_ne_t rfl (by omega) ?_
          refine g_iconst rfl ?_
          refine g_icmp_ne rfl (fun c63 => ?_) (fun c63 => ?_)
          · skip
            refine g_iconst rfl ?_
            refine g_istore (l1 := [(5, aI 0), (0, aO (some o)), (1, aI 3), (2, aI a), (3, aI b), (4, aI c)]) rfl rfl ?_
            refine g_iload rfl rfl ?_
            refine g_if_eq_t rfl (by omega) ?_
            refine g_iconst rfl ?_
            refine g_istore (l1 := [(5, aI 0), (0, aO (some o)), (1, aI 3), (2, aI a), (3, aI b), (4, aI c)]) rfl rfl ?_
            refine g_iload rfl rfl ?_
            refine g_if_ne_f rfl (by omega) ?_
            refine g_iconst rfl ?_
            refine g_iret rfl ?_
            have es : measM S 0 2 ((-1)) a b c (m_q3_O S a b c) = (-1, S) := by unfold measM; rw [if_neg (by unfold isV; omega)]
            rw [es]
            exact ⟨V0, rfl, (KQ.of (G0.wide (T2 := fun q => o + 24 ≤ q ∧ q ≤ o + 31) (fun q hq => by have hq : q = o + 24 ∨ q = o + 25 ∨ q = o + 26 := hq; show o + 24 ≤ q ∧ q ≤ o + 31; omega))).fq (fun q hq => hq) eV0, rfl, mn⟩
          · skip
            refine g_iconst rfl ?_
            refine g_goto rfl ?_
            refine g_istore (l1 := [(5, aI 1), (0, aO (some o)), (1, aI 3), (2, aI a), (3, aI b), (4, aI c)]) rfl rfl ?_
            refine g_iload rfl rfl ?_
            refine g_if_eq_f rfl (by omega) ?_
            refine g_iload_n rfl rfl ?_
            refine g_iconst rfl ?_
            refine g_icmp_eq_f rfl (by omega) ?_
            refine g_iload_n rfl rfl ?_
            refine g_iconst rfl ?_
            refine g_icmp_ne_t rfl (by omega) ?_
            refine g_iload_n rfl rfl ?_
            refine g_iconst rfl ?_
            refine g_icmp_ne_f rfl (by omega) ?_
            refine g_aload_n rfl rfl ?_
            refine g_getR rfl ms.1 (mr_sort ms) ?_
            refine g_iload_n rfl rfl ?_
            refine g_iald (i := b.toNat) rfl (mt_sort ms) (by omega) (by omega) ?_
            refine g_top (v2 := aI (sTs S b.toNat)) (congrArg aI (by exact (mt.2 b.toNat (by omega)).1)) ?_
            refine g_iconst rfl ?_
            refine g_icmp_ne rfl (fun c109 => ?_) (fun c109 => ?_)
            · skip
              refine g_iconst rfl ?_
              refine g_istore (l1 := [(5, aI 0), (0, aO (some o)), (1, aI 3), (2, aI a), (3, aI b), (4, aI c)]) rfl rfl ?_
              refine g_iload rfl rfl ?_
              refine g_if_ne_f rfl (by omega) ?_
              refine g_iconst rfl ?_
              refine g_iret rfl ?_
              have es : measM S 0 2 ((-1)) a b c (m_q3_O S a b c) = (-1, S) := by unfold measM; rw [if_neg (by unfold isV; omega)]
              rw [es]
              exact ⟨V0, rfl, (KQ.of (G0.wide (T2 := fun q => o + 24 ≤ q ∧ q ≤ o + 31) (fun q hq => by have hq : q = o + 24 ∨ q = o + 25 ∨ q = o + 26 := hq; show o + 24 ≤ q ∧ q ≤ o + 31; omega))).fq (fun q hq => hq) eV0, rfl, mn⟩
            · skip
              refine g_iload_n rfl rfl ?_
              refine g_bipush rfl ?_
              refine g_icmp_ne_t rfl (by omega) ?_
              refine g_iload_n rfl rfl ?_
              refine g_iconst rfl ?_
              refine g_icmp_ne_t rfl (by omega) ?_
              refine g_iconst rfl ?_
              refine g_goto rfl ?_
              refine g_istore (l1 := [(5, aI 1), (0, aO (some o)), (1, aI 3), (2, aI a), (3, aI b), (4, aI c)]) rfl rfl ?_
              refine g_iload rfl rfl ?_
              refine g_if_ne_t rfl (by omega) ?_
              refine g_iload_n rfl rfl ?_
              refine g_iconst rfl ?_
              refine g_icmp_eq_f rfl (by omega) ?_
              refine g_aload_n rfl rfl ?_
              refine g_iload_n rfl rfl ?_
              refine g_callVI [aI a] [] rfl rfl rfl rfl (Nat.le_of_ble_eq_true rfl) ms.1 (m_isFar (by omega) ms V0 ok mt a ha) ?_
              rintro r8 _ ⟨rfl, e9⟩
              rw [e9]
              clear e9 r8
              refine g_b_ne rfl (fun c167 => ?_) (fun c167 => ?_)
              · skip
                refine g_iconst rfl ?_
                refine g_goto rfl ?_
                refine g_istore (l1 := [(6, aI 1), (5, aI 1), (0, aO (some o)), (1, aI 3), (2, aI a), (3, aI b), (4, aI c)]) rfl rfl ?_
                refine g_iload rfl rfl ?_
                refine g_if_eq_f rfl (by omega) ?_
                refine g_bipush rfl ?_
                refine g_iret rfl ?_
                have es : measM S 0 2 ((-1)) a b c (m_q3_O S a b c) = keepGO S (m_q3_O S a b c) := by unfold measM; rw [if_pos (by unfold isV; omega)]
                rw [es]
                have eo : m_q3_O S a b c = none := by unfold m_q3_O; exact if_pos (by omega)
                rw [eo]
                exact ⟨V0, rfl, (KQ.of (G0.wide (T2 := fun q => o + 24 ≤ q ∧ q ≤ o + 31) (fun q hq => by have hq : q = o + 24 ∨ q = o + 25 ∨ q = o + 26 := hq; show o + 24 ≤ q ∧ q ≤ o + 31; omega))).fq (fun q hq => hq) eV0, rfl, mn⟩
              · skip
                refine g_iload_n rfl rfl ?_
                refine g_iconst rfl ?_
                refine g_icmp_eq_f rfl (by omega) ?_
                refine g_iload_n rfl rfl ?_
                refine g_iconst rfl ?_
                refine g_icmp_ne_t rfl (by omega) ?_
                refine g_iload_n rfl rfl ?_
                refine g_iconst rfl ?_
                refine g_icmp_ne_t rfl (by omega) ?_
                refine g_iload_n rfl rfl ?_
                refine g_bipush rfl ?_
                refine g_icmp_ne_t rfl (by omega) ?_
                refine g_iconst rfl ?_
                refine g_istore (l1 := [(6, aI 0), (5, aI 1), (0, aO (some o)), (1, aI 3), (2, aI a), (3, aI b), (4, aI c)]) rfl rfl ?_
                refine g_iload rfl rfl ?_
                refine g_if_eq_t rfl (by omega) ?_
                refine g_aload_n rfl rfl ?_
                refine g_aload_n rfl rfl ?_
                refine g_getR rfl ms.1 (mr_one ms) ?_
                refine g_iload_n rfl rfl ?_
                refine g_callVN [aO (some (o + 24)), aI a] [] rfl rfl rfl rfl (Nat.le_of_ble_eq_true rfl) ms.1 (m_load (by omega) ms V0 ok mt (by have := G0.2.2.1; omega) ((o + 24)) (show SLa o ((o + 24)) by unfold SLa; omega) a ha) ?_
                rintro _ ⟨V10, rfl, g10, t10, u10, v10, y10, s10, xt10, xu10, xv10, xy10⟩
                have G_11 := G0.trans (g10.wide (fun q hq => by have hq : q = o + 24 := hq; show q = o + 24 ∨ q = o + 25 ∨ q = o + 26; omega))
                refine g_aload_n rfl rfl ?_
                refine g_aload_n rfl rfl ?_
                refine g_getR rfl ms.1 (mr_two ms) ?_
                refine g_iload_n rfl rfl ?_
                refine g_callVN [aO (some (o + 25)), aI b] [] rfl rfl rfl rfl (Nat.le_of_ble_eq_true rfl) ms.1 (m_load (by omega) ms V10 ok (g10.mt (show ¬((o + 4) = o + 24) by omega) (show ¬((o + 5) = o + 24) by omega) mt) (by have := G_11.2.2.1; omega) ((o + 25)) (show SLa o ((o + 25)) by unfold SLa; omega) b hb) ?_
                rintro _ ⟨V12, rfl, g12, t12, u12, v12, y12, s12, xt12, xu12, xv12, xy12⟩
                have G_13 := G_11.trans (g12.wide (fun q hq => by have hq : q = o + 25 := hq; show q = o + 24 ∨ q = o + 25 ∨ q = o + 26; omega))
                refine g_aload_n rfl rfl ?_
                refine g_aload_n rfl rfl ?_
                refine g_getR rfl ms.1 (mr_three ms) ?_
                refine g_iload rfl rfl ?_
                refine g_callVN [aO (some (o + 26)), aI c] [] rfl rfl rfl rfl (Nat.le_of_ble_eq_true rfl) ms.1 (m_load (by omega) ms V12 ok (g12.mt (show ¬((o + 4) = o + 25) by omega) (show ¬((o + 5) = o + 25) by omega) (g10.mt (show ¬((o + 4) = o + 24) by omega) (show ¬((o + 5) = o + 24) by omega) mt)) (by have := G_13.2.2.1; omega) ((o + 26)) (show SLa o ((o + 26)) by unfold SLa; omega) c hc) ?_
                rintro _ ⟨V14, rfl, g14, t14, u14, v14, y14, s14, xt14, xu14, xv14, xy14⟩
                have G_15 := G_13.trans (g14.wide (fun q hq => by have hq : q = o + 26 := hq; show q = o + 24 ∨ q = o + 25 ∨ q = o + 26; omega))
                refine g_iload_n rfl rfl ?_
                refine g_tsw (t := 354) rfl (by rfl) ?_
                refine g_aload_n rfl rfl ?_
                refine g_aload_n rfl rfl ?_
                refine g_aload_n rfl rfl ?_
                refine g_getR rfl ms.1 (mr_one ms) ?_
                refine g_aload_n rfl rfl ?_
                refine g_getR rfl ms.1 (mr_two ms) ?_
                refine g_callVI [aO (some (o + 24)), aO (some (o + 25))] [aO (some o)] rfl rfl rfl rfl (Nat.le_of_ble_eq_true rfl) ms.1 (m_within (by omega) ms V14 (by have := G_15.2.2.1; omega) ((o + 24)) (show SLa o ((o + 24)) by unfold SLa; omega) (show SB V14 o (o + 24) (tpR S a) (20) from ⟨_, _, _, _, (g14.sa (show SLa o ((o + 24)) by unfold SLa; omega) (show ¬(o + 24 = o + 26) by omega) (g12.sa (show SLa o ((o + 24)) by unfold SLa; omega) (show ¬(o + 24 = o + 25) by omega) s10)), ((g14.rb (g12.rb xt10)).up (by omega)), ((g14.rb (g12.rb xu10)).up (by omega)), ((g14.rb (g12.rb xv10)).up (by omega)), ((g14.rb (g12.rb xy10)).up (by omega))⟩) ((o + 25)) (show SLa o ((o + 25)) by unfold SLa; omega) (show SB V14 o (o + 25) (tpR S b) (180) from ⟨_, _, _, _, (g14.sa (show SLa o ((o + 25)) by unfold SLa; omega) (show ¬(o + 25 = o + 26) by omega) s12), ((g14.rb xt12).up (by omega)), ((g14.rb xu12).up (by omega)), ((g14.rb xv12).up (by omega)), ((g14.rb xy12).up (by omega))⟩)) ?_
                rintro _ _ ⟨p16, rfl, V16, rfl, g16, xp16⟩
                have G_17 := G_15.trans (g16.gs _)
                refine g_aload_n rfl rfl ?_
                refine g_aload_n rfl rfl ?_
                refine g_getR rfl ms.1 (mr_two ms) ?_
                refine g_iconst rfl ?_
                refine g_iald (i := 0) rfl (mt_two ms) (by omega) (by omega) ?_
                refine g_top (v2 := aI ((t12 : Int))) (congrArg aI (by exact (g16.sa (show SLa o ((o + 25)) by unfold SLa; omega) (g14.sa (show SLa o ((o + 25)) by unfold SLa; omega) (show ¬(o + 25 = o + 26) by omega) s12)).1)) ?_
                refine g_aload_n rfl rfl ?_
                refine g_aload_n rfl rfl ?_
                refine g_getR rfl ms.1 (mr_one ms) ?_
                refine g_iconst rfl ?_
                refine g_iald (i := 2) rfl (mt_one ms) (by omega) (by omega) ?_
                refine g_top (v2 := aI ((v10 : Int))) (congrArg aI (by exact (g16.sa (show SLa o ((o + 24)) by unfold SLa; omega) (g14.sa (show SLa o ((o + 24)) by unfold SLa; omega) (show ¬(o + 24 = o + 26) by omega) (g12.sa (show SLa o ((o + 24)) by unfold SLa; omega) (show ¬(o + 24 = o + 25) by omega) s10))).2.2.1)) ?_
                refine g_callVI [aI ((v10 : Int))] [aI ((t12 : Int)), aO (some o), aI ((p16 : Int)), aO (some o)] rfl rfl rfl rfl (Nat.le_of_ble_eq_true rfl) ms.1 (r_square (by omega) ms V16 (by have := G_17.2.2.1; omega) (g16.rb (g14.rb (g12.rb xv10))) (by omega)) ?_
                rintro _ _ ⟨p18, rfl, V18, rfl, g18, xp18⟩
                have G_19 := G_17.trans (g18.gs _)
                refine g_callVI [aI ((t12 : Int)), aI ((p18 : Int))] [aI ((p16 : Int)), aO (some o)] rfl rfl rfl rfl (Nat.le_of_ble_eq_true rfl) ms.1 (r_mul (by omega) ms V18 (by have := G_19.2.2.1; omega) (g18.rb (g16.rb (g14.rb xt12))) xp18 (by omega)) ?_
                rintro _ _ ⟨p20, rfl, V20, rfl, g20, xp20⟩
                have G_21 := G_19.trans (g20.gs _)
                refine g_callVI [aI ((p16 : Int)), aI ((p20 : Int))] [] rfl rfl rfl rfl (Nat.le_of_ble_eq_true rfl) ms.1 (m_keepGreat (by omega) ms V20 (g20.mn (g18.mn (g16.mn (g14.mn (show ¬((o + 2) = o + 26) by omega) (show ¬((o + 3) = o + 26) by omega) (g12.mn (show ¬((o + 2) = o + 25) by omega) (show ¬((o + 3) = o + 25) by omega) (g10.mn (show ¬((o + 2) = o + 24) by omega) (show ¬((o + 3) = o + 24) by omega) mn)))))) okn (by have := G_21.2.2.1; omega) (show RB V20 o p16 (m_within_S (tpR S a) (tpR S b)) (223) from ((g20.rb (g18.rb xp16)).up (by omega))) (show RB V20 o p20 (((tpR S b).1) * (((tpR S a).2.2.1) * ((tpR S a).2.2.1))) (223) from (xp20.up (by omega))) (by omega)) ?_
                rintro r22 _ ⟨V22, rfl, k22, e22, m22⟩
                refine g_iret rfl ?_
                have es : measM S 0 2 ((-1)) a b c (m_q3_O S a b c) = keepGO S (m_q3_O S a b c) := by unfold measM; rw [if_pos (by unfold isV; omega)]
                rw [es]
                have eo : m_q3_O S a b c = some (m_within_S (tpR S a) (tpR S b), ((tpR S b).1) * (((tpR S a).2.2.1) * ((tpR S a).2.2.1))) := by unfold m_q3_O; exact if_neg (by omega)
                rw [eo]
                exact ⟨_, rfl, (Gs.kq (G_21.wide (T2 := fun q => o + 24 ≤ q ∧ q ≤ o + 31) (fun q hq => by have hq : q = o + 24 ∨ q = o + 25 ∨ q = o + 26 := hq; show o + 24 ≤ q ∧ q ≤ o + 31; omega)) k22 (fun q hq => hq.elim)).fq (fun q hq => hq) eV0, e22, m22⟩
set_option maxRecDepth 100000 in
set_option maxHeartbeats 4000000 in
theorem m_meas4 {w : aW} {d : Nat} (hd : 8 ≤ d) {h : aH} {o : Nat} (ms : MS h o) (V : Nat → Nat → Int) {S : aS} (ok : OkT S) (mt : MT V o S) (okn : OkN S) (mn : MN V o S) (a b c : Int) : WP w d 320 [aO (some o), aI 4, aI a, aI b, aI c] (hw h V) (RI (fun r h1 => ∃ V1, h1 = hw h V1 ∧ FQ V V1 o ∧ r = (measM S 2 ((-1)) ((-1)) a b c (m_q4_O S a b c)).1 ∧ MN V1 o (measM S 2 ((-1)) ((-1)) a b c (m_q4_O S a b c)).2)) := by
  obtain ⟨d, rfl⟩ : ∃ d1, d = d1 + 1 := ⟨d - 1, by omega⟩
  refine WP.enter (cd := cd_X12_measure) rfl ?_
  have hn := ok.1
  have hls : largs 0 [aO (some o), aI 4, aI a, aI b, aI c] = [(0, aO (some o)), (1, aI 4), (2, aI a), (3, aI b), (4, aI c)] := rfl
  rw [hls]
  clear hls
  refine g_aload_n rfl rfl ?_
  refine g_iconst rfl ?_
  refine g_putI rfl ms.1 ?_
  refine g_hp (h2 := hw h (vset V o 31 0)) rfl ?_
  refine g_aload_n rfl rfl ?_
  refine g_iconst rfl ?_
  refine g_putI rfl ms.1 ?_
  obtain ⟨V0, eV0⟩ : ∃ W, W = vset (vset V o 31 0) o 1 0 := ⟨_, rfl⟩
  refine g_hp (h2 := hw h V0) (by rw [eV0]; rfl) ?_
  have mt : MT V0 o S := by rw [eV0]; exact mt.rs
  have f0 : V0 o 1 = 0 := by rw [eV0]; exact vset_eq _ _ _ _
  have G0 := Gs.refl V0 o (fun q => q = o + 24 ∨ q = o + 25 ∨ q = o + 26)
  have mn : MN V0 o S := by rw [eV0]; exact mn.rs
  refine g_iload_n rfl rfl ?_
  refine g_i2l rfl ?_
  refine g_lconst0 rfl ?_
  refine g_ldc2 rfl ?_
  refine g_callSI [aJ 4, aJ 0, aJ 6] [] rfl rfl rfl rfl (Nat.le_of_ble_eq_true rfl) (c_in (by omega) _ _ _ _) ?_
  rintro r1 _ ⟨rfl, rfl⟩
  refine g_b_eq rfl (fun c19 => ?_) (fun c19 => ?_)
  · skip
    refine g_iconst rfl ?_
    refine g_istore (l1 := [(5, aI 0), (0, aO (some o)), (1, aI 4), (2, aI a), (3, aI b), (4, aI c)]) rfl rfl ?_
    refine g_iload rfl rfl ?_
    refine g_if_eq_t rfl (by omega) ?_
    refine g_iconst rfl ?_
    refine g_istore (l1 := [(5, aI 0), (0, aO (some o)), (1, aI 4), (2, aI a), (3, aI b), (4, aI c)]) rfl rfl ?_
    refine g_iload rfl rfl ?_
    refine g_if_ne_f rfl (by omega) ?_
    refine g_iconst rfl ?_
    refine g_iret rfl ?_
    have es : measM S 2 ((-1)) ((-1)) a b c (m_q4_O S a b c) = (-1, S) := by unfold measM; rw [if_neg (by unfold isV; omega)]
    rw [es]
    exact ⟨V0, rfl, (KQ.of (G0.wide (T2 := fun q => o + 24 ≤ q ∧ q ≤ o + 31) (fun q hq => by have hq : q = o + 24 ∨ q = o + 25 ∨ q = o + 26 := hq; show o + 24 ≤ q ∧ q ≤ o + 31; omega))).fq (fun q hq => hq) eV0, rfl, mn⟩
  · skip
    refine g_aload_n rfl rfl ?_
    refine g_iload_n rfl rfl ?_
    refine g_callVI [aI a] [] rfl rfl rfl rfl (Nat.le_of_ble_eq_true rfl) ms.1 (m_isThing (by omega) ms V0 ok mt a) ?_
    rintro r2 _ ⟨rfl, e3⟩
    rw [e3]
    clear e3 r2
    refine g_b_eq rfl (fun c27 => ?_) (fun c27 => ?_)
    · skip
      refine g_iconst rfl ?_
      refine g_istore (l1 := [(5, aI 0), (0, aO (some o)), (1, aI 4), (2, aI a), (3, aI b), (4, aI c)]) rfl rfl ?_
      refine g_iload rfl rfl ?_
      refine g_if_eq_t rfl (by omega) ?_
      refine g_iconst rfl ?_
      refine g_istore (l1 := [(5, aI 0), (0, aO (some o)), (1, aI 4), (2, aI a), (3, aI b), (4, aI c)]) rfl rfl ?_
      refine g_iload rfl rfl ?_
      refine g_if_ne_f rfl (by omega) ?_
      refine g_iconst rfl ?_
      refine g_iret rfl ?_
      have es : measM S 2 ((-1)) ((-1)) a b c (m_q4_O S a b c) = (-1, S) := by unfold measM; rw [if_neg (by unfold isV; omega)]
      rw [es]
      exact ⟨V0, rfl, (KQ.of (G0.wide (T2 := fun q => o + 24 ≤ q ∧ q ≤ o + 31) (fun q hq => by have hq : q = o + 24 ∨ q = o + 25 ∨ q = o + 26 := hq; show o + 24 ≤ q ∧ q ≤ o + 31; omega))).fq (fun q hq => hq) eV0, rfl, mn⟩
    · skip
      refine g_aload_n rfl rfl ?_
      refine g_iload_n rfl rfl ?_
      refine g_callVI [aI b] [] rfl rfl rfl rfl (Nat.le_of_ble_eq_true rfl) ms.1 (m_isThing (by omega) ms V0 ok mt b) ?_
      rintro r4 _ ⟨rfl, e5⟩
      rw [e5]
      clear e5 r4
      refine g_b_eq rfl (fun c35 => ?_) (fun c35 => ?_)
      · skip
        refine g_iconst rfl ?_
        refine g_istore (l1 := [(5, aI 0), (0, aO (some o)), (1, aI 4), (2, aI a), (3, aI b), (4, aI c)]) rfl rfl ?_
        refine g_iload rfl rfl ?_
        refine g_if_eq_t rfl (by omega) ?_
        refine g_iconst rfl ?_
        refine g_istore (l1 := [(5, aI 0), (0, aO (some o)), (1, aI 4), (2, aI a), (3, aI b), (4, aI c)]) rfl rfl ?_
        refine g_iload rfl rfl ?_
        refine g_if_ne_f rfl (by omega) ?_
        refine g_iconst rfl ?_
        refine g_iret rfl ?_
        have es : measM S 2 ((-1)) ((-1)) a b c (m_q4_O S a b c) = (-1, S) := by unfold measM; rw [if_neg (by unfold isV; omega)]
        rw [es]
        exact ⟨V0, rfl, (KQ.of (G0.wide (T2 := fun q => o + 24 ≤ q ∧ q ≤ o + 31) (fun q hq => by have hq : q = o + 24 ∨ q = o + 25 ∨ q = o + 26 := hq; show o + 24 ≤ q ∧ q ≤ o + 31; omega))).fq (fun q hq => hq) eV0, rfl, mn⟩
      · skip
        refine g_aload_n rfl rfl ?_
        refine g_iload rfl rfl ?_
        refine g_callVI [aI c] [] rfl rfl rfl rfl (Nat.le_of_ble_eq_true rfl) ms.1 (m_isThing (by omega) ms V0 ok mt c) ?_
        rintro r6 _ ⟨rfl, e7⟩
        rw [e7]
        clear e7 r6
        refine g_b_eq rfl (fun c44 => ?_) (fun c44 => ?_)
        · skip
          refine g_iconst rfl ?_
          refine g_istore (l1 := [(5, aI 0), (0, aO (some o)), (1, aI 4), (2, aI a), (3, aI b), (4, aI c)]) rfl rfl ?_
          refine g_iload rfl rfl ?_
          refine g_if_eq_t rfl (by omega) ?_
          refine g_iconst rfl ?_
          refine g_istore (l1 := [(5, aI 0), (0, aO (some o)), (1, aI 4), (2, aI a), (3, aI b), (4, aI c)]) rfl rfl ?_
          refine g_iload rfl rfl ?_
          refine g_if_ne_f rfl (by omega) ?_
          refine g_iconst rfl ?_
          refine g_iret rfl ?_
          have es : measM S 2 ((-1)) ((-1)) a b c (m_q4_O S a b c) = (-1, S) := by unfold measM; rw [if_neg (by unfold isV; omega)]
          rw [es]
          exact ⟨V0, rfl, (KQ.of (G0.wide (T2 := fun q => o + 24 ≤ q ∧ q ≤ o + 31) (fun q hq => by have hq : q = o + 24 ∨ q = o + 25 ∨ q = o + 26 := hq; show o + 24 ≤ q ∧ q ≤ o + 31; omega))).fq (fun q hq => hq) eV0, rfl, mn⟩
        · skip
          refine g_aload_n rfl rfl ?_
          refine g_getR rfl ms.1 (mr_sort ms) ?_
          have ha : 0 ≤ a ∧ a < sT S := by omega
          have hb : 0 ≤ b ∧ b < sT S := by omega
          have hc : 0 ≤ c ∧ c < sT S := by omega
          refine g_iload_n rfl rfl ?_
          refine g_iald (i := a.toNat) rfl (mt_sort ms) (by omega) (by omega) ?_
          refine g_top (v2 := aI (sTs S a.toNat)) (congrArg aI (by exact (mt.2 a.toNat (by omega)).1)) ?_
          refine g_iload_n rfl rfl ?_
          refine g_iconst rfl ?_
          refine g_icmp_ne_f rfl (by omega) ?_
          refine g_iconst rfl ?_
          refine g_goto rfl ?_
          refine g_icmp_ne rfl (fun c63 => ?_) (fun c63 => ?_)
          · skip
            refine g_iconst rfl ?_
            refine g_istore (l1 := [(5, aI 0), (0, aO (some o)), (1, aI 4), (2, aI a), (3, aI b), (4, aI c)]) rfl rfl ?_
            refine g_iload rfl rfl ?_
            refine g_if_eq_t rfl (by omega) ?_
            refine g_iconst rfl ?_
            refine g_istore (l1 := [(5, aI 0), (0, aO (some o)), (1, aI 4), (2, aI a), (3, aI b), (4, aI c)]) rfl rfl ?_
            refine g_iload rfl rfl ?_
            refine g_if_ne_f rfl (by omega) ?_
            refine g_iconst rfl ?_
            refine g_iret rfl ?_
            have es : measM S 2 ((-1)) ((-1)) a b c (m_q4_O S a b c) = (-1, S) := by unfold measM; rw [if_neg (by unfold isV; omega)]
            rw [es]
            exact ⟨V0, rfl, (KQ.of (G0.wide (T2 := fun q => o + 24 ≤ q ∧ q ≤ o + 31) (fun q hq => by have hq : q = o + 24 ∨ q = o + 25 ∨ q = o + 26 := hq; show o + 24 ≤ q ∧ q ≤ o + 31; omega))).fq (fun q hq => hq) eV0, rfl, mn⟩
          · skip
            refine g_iconst rfl ?_
            refine g_goto rfl ?_
            refine g_istore (l1 := [(5, aI 1), (0, aO (some o)), (1, aI 4), (2, aI a), (3, aI b), (4, aI c)]) rfl rfl ?_
            refine g_iload rfl rfl ?_
            refine g_if_eq_f rfl (by omega) ?_
            refine g_iload_n rfl rfl ?_
            refine g_iconst rfl ?_
            refine g_icmp_eq_f rfl (by omega) ?_
            refine g_iload_n rfl rfl ?_
            refine g_iconst rfl ?_
            refine g_icmp_ne_t rfl (by omega) ?_
            refine g_iload_n rfl rfl ?_
            refine g_iconst rfl ?_
            refine g_icmp_ne_t rfl (by omega) ?_
            refine g_iload_n rfl rfl ?_
            refine g_bipush rfl ?_
            refine g_icmp_ne_t rfl (by omega) ?_
            refine g_iload_n rfl rfl ?_
            refine g_iconst rfl ?_
            refine g_icmp_ne_t rfl (by omega) ?_
            refine g_iconst rfl ?_
            refine g_goto rfl ?_
            refine g_istore (l1 := [(5, aI 1), (0, aO (some o)), (1, aI 4), (2, aI a), (3, aI b), (4, aI c)]) rfl rfl ?_
            refine g_iload rfl rfl ?_
            refine g_if_ne_t rfl (by omega) ?_
            refine g_iload_n rfl rfl ?_
            refine g_iconst rfl ?_
            refine g_icmp_eq_t rfl (by omega) ?_
            refine g_iload_n rfl rfl ?_
            refine g_iconst rfl ?_
            refine g_icmp_eq_f rfl (by omega) ?_
            refine g_iload_n rfl rfl ?_
            refine g_iconst rfl ?_
            refine g_icmp_ne_t rfl (by omega) ?_
            refine g_iload_n rfl rfl ?_
            refine g_iconst rfl ?_
            refine g_icmp_ne_t rfl (by omega) ?_
            refine g_iload_n rfl rfl ?_
            refine g_bipush rfl ?_
            refine g_icmp_ne_t rfl (by omega) ?_
            refine g_iconst rfl ?_
            refine g_istore (l1 := [(6, aI 0), (5, aI 1), (0, aO (some o)), (1, aI 4), (2, aI a), (3, aI b), (4, aI c)]) rfl rfl ?_
            refine g_iload rfl rfl ?_
            refine g_if_eq_t rfl (by omega) ?_
            refine g_aload_n rfl rfl ?_
            refine g_aload_n rfl rfl ?_
            refine g_getR rfl ms.1 (mr_one ms) ?_
            refine g_iload_n rfl rfl ?_
            refine g_callVN [aO (some (o + 24)), aI a] [] rfl rfl rfl rfl (Nat.le_of_ble_eq_true rfl) ms.1 (m_load (by omega) ms V0 ok mt (by have := G0.2.2.1; omega) ((o + 24)) (show SLa o ((o + 24)) by unfold SLa; omega) a ha) ?_
            rintro _ ⟨V8, rfl, g8, t8, u8, v8, y8, s8, xt8, xu8, xv8, xy8⟩
            have G_9 := G0.trans (g8.wide (fun q hq => by have hq : q = o + 24 := hq; show q = o + 24 ∨ q = o + 25 ∨ q = o + 26; omega))
            refine g_aload_n rfl rfl ?_
            refine g_aload_n rfl rfl ?_
            refine g_getR rfl ms.1 (mr_two ms) ?_
            refine g_iload_n rfl rfl ?_
            refine g_callVN [aO (some (o + 25)), aI b] [] rfl rfl rfl rfl (Nat.le_of_ble_eq_true rfl) ms.1 (m_load (by omega) ms V8 ok (g8.mt (show ¬((o + 4) = o + 24) by omega) (show ¬((o + 5) = o + 24) by omega) mt) (by have := G_9.2.2.1; omega) ((o + 25)) (show SLa o ((o + 25)) by unfold SLa; omega) b hb) ?_
            rintro _ ⟨V10, rfl, g10, t10, u10, v10, y10, s10, xt10, xu10, xv10, xy10⟩
            have G_11 := G_9.trans (g10.wide (fun q hq => by have hq : q = o + 25 := hq; show q = o + 24 ∨ q = o + 25 ∨ q = o + 26; omega))
            refine g_aload_n rfl rfl ?_
            refine g_aload_n rfl rfl ?_
            refine g_getR rfl ms.1 (mr_three ms) ?_
            refine g_iload rfl rfl ?_
            refine g_callVN [aO (some (o + 26)), aI c] [] rfl rfl rfl rfl (Nat.le_of_ble_eq_true rfl) ms.1 (m_load (by omega) ms V10 ok (g10.mt (show ¬((o + 4) = o + 25) by omega) (show ¬((o + 5) = o + 25) by omega) (g8.mt (show ¬((o + 4) = o + 24) by omega) (show ¬((o + 5) = o + 24) by omega) mt)) (by have := G_11.2.2.1; omega) ((o + 26)) (show SLa o ((o + 26)) by unfold SLa; omega) c hc) ?_
            rintro _ ⟨V12, rfl, g12, t12, u12, v12, y12, s12, xt12, xu12, xv12, xy12⟩
            have G_13 := G_11.trans (g12.wide (fun q hq => by have hq : q = o + 26 := hq; show q = o + 24 ∨ q = o + 25 ∨ q = o + 26; omega))
            refine g_iload_n rfl rfl ?_
            refine g_tsw (t := 391) rfl (by rfl) ?_
            refine g_aload_n rfl rfl ?_
            refine g_aload_n rfl rfl ?_
            refine g_aload_n rfl rfl ?_
            refine g_getR rfl ms.1 (mr_one ms) ?_
            refine g_callVI [aO (some (o + 24))] [aO (some o)] rfl rfl rfl rfl (Nat.le_of_ble_eq_true rfl) ms.1 (m_bulge (by omega) ms V12 (by have := G_13.2.2.1; omega) ((o + 24)) (show SLa o ((o + 24)) by unfold SLa; omega) (show SB V12 o (o + 24) (tpR S a) (20) from ⟨_, _, _, _, (g12.sa (show SLa o ((o + 24)) by unfold SLa; omega) (show ¬(o + 24 = o + 26) by omega) (g10.sa (show SLa o ((o + 24)) by unfold SLa; omega) (show ¬(o + 24 = o + 25) by omega) s8)), ((g12.rb (g10.rb xt8)).up (by omega)), ((g12.rb (g10.rb xu8)).up (by omega)), ((g12.rb (g10.rb xv8)).up (by omega)), ((g12.rb (g10.rb xy8)).up (by omega))⟩)) ?_
            rintro _ _ ⟨p14, rfl, V14, rfl, g14, xp14⟩
            have G_15 := G_13.trans (g14.gs _)
            refine g_aload_n rfl rfl ?_
            refine g_aload_n rfl rfl ?_
            refine g_ldc2 rfl ?_
            refine g_callVI [aJ 4] [aO (some o), aI ((p14 : Int)), aO (some o)] rfl rfl rfl rfl (Nat.le_of_ble_eq_true rfl) ms.1 (r_num (by omega) ms V14 (by have := G_15.2.2.1; omega) 4 (by omega) 2 (by decide)) ?_
            rintro _ _ ⟨p16, rfl, V16, rfl, g16, xp16⟩
            have G_17 := G_15.trans (g16.gs _)
            refine g_aload_n rfl rfl ?_
            refine g_aload_n rfl rfl ?_
            refine g_getR rfl ms.1 (mr_one ms) ?_
            refine g_iconst rfl ?_
            refine g_iald (i := 0) rfl (mt_one ms) (by omega) (by omega) ?_
            refine g_top (v2 := aI ((t8 : Int))) (congrArg aI (by exact (g16.sa (show SLa o ((o + 24)) by unfold SLa; omega) (g14.sa (show SLa o ((o + 24)) by unfold SLa; omega) (g12.sa (show SLa o ((o + 24)) by unfold SLa; omega) (show ¬(o + 24 = o + 26) by omega) (g10.sa (show SLa o ((o + 24)) by unfold SLa; omega) (show ¬(o + 24 = o + 25) by omega) s8)))).1)) ?_
            refine g_callVI [aI ((t8 : Int))] [aI ((p16 : Int)), aO (some o), aI ((p14 : Int)), aO (some o)] rfl rfl rfl rfl (Nat.le_of_ble_eq_true rfl) ms.1 (r_square (by omega) ms V16 (by have := G_17.2.2.1; omega) (g16.rb (g14.rb (g12.rb (g10.rb xt8)))) (by omega)) ?_
            rintro _ _ ⟨p18, rfl, V18, rfl, g18, xp18⟩
            have G_19 := G_17.trans (g18.gs _)
            refine g_callVI [aI ((p16 : Int)), aI ((p18 : Int))] [aI ((p14 : Int)), aO (some o)] rfl rfl rfl rfl (Nat.le_of_ble_eq_true rfl) ms.1 (r_mul (by omega) ms V18 (by have := G_19.2.2.1; omega) (g18.rb xp16) xp18 (by omega)) ?_
            rintro _ _ ⟨p20, rfl, V20, rfl, g20, xp20⟩
            have G_21 := G_19.trans (g20.gs _)
            refine g_callVI [aI ((p14 : Int)), aI ((p20 : Int))] [] rfl rfl rfl rfl (Nat.le_of_ble_eq_true rfl) ms.1 (m_keepGreat (by omega) ms V20 (g20.mn (g18.mn (g16.mn (g14.mn (g12.mn (show ¬((o + 2) = o + 26) by omega) (show ¬((o + 3) = o + 26) by omega) (g10.mn (show ¬((o + 2) = o + 25) by omega) (show ¬((o + 3) = o + 25) by omega) (g8.mn (show ¬((o + 2) = o + 24) by omega) (show ¬((o + 3) = o + 24) by omega) mn))))))) okn (by have := G_21.2.2.1; omega) (show RB V20 o p14 (m_bulge_S (tpR S a)) (43) from ((g20.rb (g18.rb (g16.rb xp14))).up (by omega))) (show RB V20 o p20 (4 * (((tpR S a).1) * ((tpR S a).1))) (43) from (xp20.up (by omega))) (by omega)) ?_
            rintro r22 _ ⟨V22, rfl, k22, e22, m22⟩
            refine g_iret rfl ?_
            have es : measM S 2 ((-1)) ((-1)) a b c (m_q4_O S a b c) = keepGO S (m_q4_O S a b c) := by unfold measM; rw [if_pos (by unfold isV; omega)]
            rw [es]
            have eo : m_q4_O S a b c = some (m_bulge_S (tpR S a), 4 * (((tpR S a).1) * ((tpR S a).1))) := by rfl
            rw [eo]
            exact ⟨_, rfl, (Gs.kq (G_21.wide (T2 := fun q => o + 24 ≤ q ∧ q ≤ o + 31) (fun q hq => by have hq : q = o + 24 ∨ q = o + 25 ∨ q = o + 26 := hq; show o + 24 ≤ q ∧ q ≤ o + 31; omega)) k22 (fun q hq => hq.elim)).fq (fun q hq => hq) eV0, e22, m22⟩
set_option maxRecDepth 100000 in
set_option maxHeartbeats 4000000 in
theorem m_meas5 {w : aW} {d : Nat} (hd : 8 ≤ d) {h : aH} {o : Nat} (ms : MS h o) (V : Nat → Nat → Int) {S : aS} (ok : OkT S) (mt : MT V o S) (okn : OkN S) (mn : MN V o S) (a b c : Int) : WP w d 320 [aO (some o), aI 5, aI a, aI b, aI c] (hw h V) (RI (fun r h1 => ∃ V1, h1 = hw h V1 ∧ FQ V V1 o ∧ r = (measM S 0 0 0 a b c (m_q5_O S a b c)).1 ∧ MN V1 o (measM S 0 0 0 a b c (m_q5_O S a b c)).2)) := by
  obtain ⟨d, rfl⟩ : ∃ d1, d = d1 + 1 := ⟨d - 1, by omega⟩
  refine WP.enter (cd := cd_X12_measure) rfl ?_
  have hn := ok.1
  have hls : largs 0 [aO (some o), aI 5, aI a, aI b, aI c] = [(0, aO (some o)), (1, aI 5), (2, aI a), (3, aI b), (4, aI c)] := rfl
  rw [hls]
  clear hls
  refine g_aload_n rfl rfl ?_
  refine g_iconst rfl ?_
  refine g_putI rfl ms.1 ?_
  refine g_hp (h2 := hw h (vset V o 31 0)) rfl ?_
  refine g_aload_n rfl rfl ?_
  refine g_iconst rfl ?_
  refine g_putI rfl ms.1 ?_
  obtain ⟨V0, eV0⟩ : ∃ W, W = vset (vset V o 31 0) o 1 0 := ⟨_, rfl⟩
  refine g_hp (h2 := hw h V0) (by rw [eV0]; rfl) ?_
  have mt : MT V0 o S := by rw [eV0]; exact mt.rs
  have f0 : V0 o 1 = 0 := by rw [eV0]; exact vset_eq _ _ _ _
  have G0 := Gs.refl V0 o (fun q => q = o + 24 ∨ q = o + 25 ∨ q = o + 26)
  have mn : MN V0 o S := by rw [eV0]; exact mn.rs
  refine g_iload_n rfl rfl ?_
  refine g_i2l rfl ?_
  refine g_lconst0 rfl ?_
  refine g_ldc2 rfl ?_
  refine g_callSI [aJ 5, aJ 0, aJ 6] [] rfl rfl rfl rfl (Nat.le_of_ble_eq_true rfl) (c_in (by omega) _ _ _ _) ?_
  rintro r1 _ ⟨rfl, rfl⟩
  refine g_b_eq rfl (fun c19 => ?_) (fun c19 => ?_)
  · skip
    refine g_iconst rfl ?_
    refine g_istore (l1 := [(5, aI 0), (0, aO (some o)), (1, aI 5), (2, aI a), (3, aI b), (4, aI c)]) rfl rfl ?_
    refine g_iload rfl rfl ?_
    refine g_if_eq_t rfl (by omega) ?_
    refine g_iconst rfl ?_
    refine g_istore (l1 := [(5, aI 0), (0, aO (some o)), (1, aI 5), (2, aI a), (3, aI b), (4, aI c)]) rfl rfl ?_
    refine g_iload rfl rfl ?_
    refine g_if_ne_f rfl (by omega) ?_
    refine g_iconst rfl ?_
    refine g_iret rfl ?_
    have es : measM S 0 0 0 a b c (m_q5_O S a b c) = (-1, S) := by unfold measM; rw [if_neg (by unfold isV; omega)]
    rw [es]
    exact ⟨V0, rfl, (KQ.of (G0.wide (T2 := fun q => o + 24 ≤ q ∧ q ≤ o + 31) (fun q hq => by have hq : q = o + 24 ∨ q = o + 25 ∨ q = o + 26 := hq; show o + 24 ≤ q ∧ q ≤ o + 31; omega))).fq (fun q hq => hq) eV0, rfl, mn⟩
  · skip
    refine g_aload_n rfl rfl ?_
    refine g_iload_n rfl rfl ?_
    refine g_callVI [aI a] [] rfl rfl rfl rfl (Nat.le_of_ble_eq_true rfl) ms.1 (m_isThing (by omega) ms V0 ok mt a) ?_
    rintro r2 _ ⟨rfl, e3⟩
    rw [e3]
    clear e3 r2
    refine g_b_eq rfl (fun c27 => ?_) (fun c27 => ?_)
    · skip
      refine g_iconst rfl ?_
      refine g_istore (l1 := [(5, aI 0), (0, aO (some o)), (1, aI 5), (2, aI a), (3, aI b), (4, aI c)]) rfl rfl ?_
      refine g_iload rfl rfl ?_
      refine g_if_eq_t rfl (by omega) ?_
      refine g_iconst rfl ?_
      refine g_istore (l1 := [(5, aI 0), (0, aO (some o)), (1, aI 5), (2, aI a), (3, aI b), (4, aI c)]) rfl rfl ?_
      refine g_iload rfl rfl ?_
      refine g_if_ne_f rfl (by omega) ?_
      refine g_iconst rfl ?_
      refine g_iret rfl ?_
      have es : measM S 0 0 0 a b c (m_q5_O S a b c) = (-1, S) := by unfold measM; rw [if_neg (by unfold isV; omega)]
      rw [es]
      exact ⟨V0, rfl, (KQ.of (G0.wide (T2 := fun q => o + 24 ≤ q ∧ q ≤ o + 31) (fun q hq => by have hq : q = o + 24 ∨ q = o + 25 ∨ q = o + 26 := hq; show o + 24 ≤ q ∧ q ≤ o + 31; omega))).fq (fun q hq => hq) eV0, rfl, mn⟩
    · skip
      refine g_aload_n rfl rfl ?_
      refine g_iload_n rfl rfl ?_
      refine g_callVI [aI b] [] rfl rfl rfl rfl (Nat.le_of_ble_eq_true rfl) ms.1 (m_isThing (by omega) ms V0 ok mt b) ?_
      rintro r4 _ ⟨rfl, e5⟩
      rw [e5]
      clear e5 r4
      refine g_b_eq rfl (fun c35 => ?_) (fun c35 => ?_)
      · skip
        refine g_iconst rfl ?_
        refine g_istore (l1 := [(5, aI 0), (0, aO (some o)), (1, aI 5), (2, aI a), (3, aI b), (4, aI c)]) rfl rfl ?_
        refine g_iload rfl rfl ?_
        refine g_if_eq_t rfl (by omega) ?_
        refine g_iconst rfl ?_
        refine g_istore (l1 := [(5, aI 0), (0, aO (some o)), (1, aI 5), (2, aI a), (3, aI b), (4, aI c)]) rfl rfl ?_
        refine g_iload rfl rfl ?_
        refine g_if_ne_f rfl (by omega) ?_
        refine g_iconst rfl ?_
        refine g_iret rfl ?_
        have es : measM S 0 0 0 a b c (m_q5_O S a b c) = (-1, S) := by unfold measM; rw [if_neg (by unfold isV; omega)]
        rw [es]
        exact ⟨V0, rfl, (KQ.of (G0.wide (T2 := fun q => o + 24 ≤ q ∧ q ≤ o + 31) (fun q hq => by have hq : q = o + 24 ∨ q = o + 25 ∨ q = o + 26 := hq; show o + 24 ≤ q ∧ q ≤ o + 31; omega))).fq (fun q hq => hq) eV0, rfl, mn⟩
      · skip
        refine g_aload_n rfl rfl ?_
        refine g_iload rfl rfl ?_
        refine g_callVI [aI c] [] rfl rfl rfl rfl (Nat.le_of_ble_eq_true rfl) ms.1 (m_isThing (by omega) ms V0 ok mt c) ?_
        rintro r6 _ ⟨rfl, e7⟩
        rw [e7]
        clear e7 r6
        refine g_b_eq rfl (fun c44 => ?_) (fun c44 => ?_)
        · skip
          refine g_iconst rfl ?_
          refine g_istore (l1 := [(5, aI 0), (0, aO (some o)), (1, aI 5), (2, aI a), (3, aI b), (4, aI c)]) rfl rfl ?_
          refine g_iload rfl rfl ?_
          refine g_if_eq_t rfl (by omega) ?_
          refine g_iconst rfl ?_
          refine g_istore (l1 := [(5, aI 0), (0, aO (some o)), (1, aI 5), (2, aI a), (3, aI b), (4, aI c)]) rfl rfl ?_
          refine g_iload rfl rfl ?_
          refine g_if_ne_f rfl (by omega) ?_
          refine g_iconst rfl ?_
          refine g_iret rfl ?_
          have es : measM S 0 0 0 a b c (m_q5_O S a b c) = (-1, S) := by unfold measM; rw [if_neg (by unfold isV; omega)]
          rw [es]
          exact ⟨V0, rfl, (KQ.of (G0.wide (T2 := fun q => o + 24 ≤ q ∧ q ≤ o + 31) (fun q hq => by have hq : q = o + 24 ∨ q = o + 25 ∨ q = o + 26 := hq; show o + 24 ≤ q ∧ q ≤ o + 31; omega))).fq (fun q hq => hq) eV0, rfl, mn⟩
        · skip
          refine g_aload_n rfl rfl ?_
          refine g_getR rfl ms.1 (mr_sort ms) ?_
          have ha : 0 ≤ a ∧ a < sT S := by omega
          have hb : 0 ≤ b ∧ b < sT S := by omega
          have hc : 0 ≤ c ∧ c < sT S := by omega
          refine g_iload_n rfl rfl ?_
          refine g_iald (i := a.toNat) rfl (mt_sort ms) (by omega) (by omega) ?_
          refine g_top (v2 := aI (sTs S a.toNat)) (congrArg aI (by exact (mt.2 a.toNat (by omega)).1)) ?_
          refine g_iload_n rfl rfl ?_
          refine g_iconst rfl ?_
          refine g_icmp_ne_t rfl (by omega) ?_
          refine g_iconst rfl ?_
          refine g_icmp_ne rfl (fun c63 => ?_) (fun c63 => ?_)
          · skip
            refine g_iconst rfl ?_
            refine g_istore (l1 := [(5, aI 0), (0, aO (some o)), (1, aI 5), (2, aI a), (3, aI b), (4, aI c)]) rfl rfl ?_
            refine g_iload rfl rfl ?_
            refine g_if_eq_t rfl (by omega) ?_
            refine g_iconst rfl ?_
            refine g_istore (l1 := [(5, aI 0), (0, aO (some o)), (1, aI 5), (2, aI a), (3, aI b), (4, aI c)]) rfl rfl ?_
            refine g_iload rfl rfl ?_
            refine g_if_ne_f rfl (by omega) ?_
            refine g_iconst rfl ?_
            refine g_iret rfl ?_
            have es : measM S 0 0 0 a b c (m_q5_O S a b c) = (-1, S) := by unfold measM; rw [if_neg (by unfold isV; omega)]
            rw [es]
            exact ⟨V0, rfl, (KQ.of (G0.wide (T2 := fun q => o + 24 ≤ q ∧ q ≤ o + 31) (fun q hq => by have hq : q = o + 24 ∨ q = o + 25 ∨ q = o + 26 := hq; show o + 24 ≤ q ∧ q ≤ o + 31; omega))).fq (fun q hq => hq) eV0, rfl, mn⟩
          · skip
            refine g_iconst rfl ?_
            refine g_goto rfl ?_
            refine g_istore (l1 := [(5, aI 1), (0, aO (some o)), (1, aI 5), (2, aI a), (3, aI b), (4, aI c)]) rfl rfl ?_
            refine g_iload rfl rfl ?_
            refine g_if_eq_f rfl (by omega) ?_
            refine g_iload_n rfl rfl ?_
            refine g_iconst rfl ?_
            refine g_icmp_eq_f rfl (by omega) ?_
            refine g_iload_n rfl rfl ?_
            refine g_iconst rfl ?_
            refine g_icmp_ne_f rfl (by omega) ?_
            refine g_aload_n rfl rfl ?_
            refine g_getR rfl ms.1 (mr_sort ms) ?_
            refine g_iload_n rfl rfl ?_
            refine g_iald (i := b.toNat) rfl (mt_sort ms) (by omega) (by omega) ?_
            refine g_top (v2 := aI (sTs S b.toNat)) (congrArg aI (by exact (mt.2 b.toNat (by omega)).1)) ?_
            refine g_if_ne rfl (fun c94 => ?_) (fun c94 => ?_)
            · skip
              refine g_iconst rfl ?_
              refine g_istore (l1 := [(5, aI 0), (0, aO (some o)), (1, aI 5), (2, aI a), (3, aI b), (4, aI c)]) rfl rfl ?_
              refine g_iload rfl rfl ?_
              refine g_if_ne_f rfl (by omega) ?_
              refine g_iconst rfl ?_
              refine g_iret rfl ?_
              have es : measM S 0 0 0 a b c (m_q5_O S a b c) = (-1, S) := by unfold measM; rw [if_neg (by unfold isV; omega)]
              rw [es]
              exact ⟨V0, rfl, (KQ.of (G0.wide (T2 := fun q => o + 24 ≤ q ∧ q ≤ o + 31) (fun q hq => by have hq : q = o + 24 ∨ q = o + 25 ∨ q = o + 26 := hq; show o + 24 ≤ q ∧ q ≤ o + 31; omega))).fq (fun q hq => hq) eV0, rfl, mn⟩
            · skip
              refine g_iload_n rfl rfl ?_
              refine g_iconst rfl ?_
              refine g_icmp_ne_t rfl (by omega) ?_
              refine g_iload_n rfl rfl ?_
              refine g_bipush rfl ?_
              refine g_icmp_ne_t rfl (by omega) ?_
              refine g_iload_n rfl rfl ?_
              refine g_iconst rfl ?_
              refine g_icmp_ne_f rfl (by omega) ?_
              refine g_aload_n rfl rfl ?_
              refine g_getR rfl ms.1 (mr_sort ms) ?_
              refine g_iload rfl rfl ?_
              refine g_iald (i := c.toNat) rfl (mt_sort ms) (by omega) (by omega) ?_
              refine g_top (v2 := aI (sTs S c.toNat)) (congrArg aI (by exact (mt.2 c.toNat (by omega)).1)) ?_
              refine g_if_ne rfl (fun c140 => ?_) (fun c140 => ?_)
              · skip
                refine g_iconst rfl ?_
                refine g_istore (l1 := [(5, aI 0), (0, aO (some o)), (1, aI 5), (2, aI a), (3, aI b), (4, aI c)]) rfl rfl ?_
                refine g_iload rfl rfl ?_
                refine g_if_ne_f rfl (by omega) ?_
                refine g_iconst rfl ?_
                refine g_iret rfl ?_
                have es : measM S 0 0 0 a b c (m_q5_O S a b c) = (-1, S) := by unfold measM; rw [if_neg (by unfold isV; omega)]
                rw [es]
                exact ⟨V0, rfl, (KQ.of (G0.wide (T2 := fun q => o + 24 ≤ q ∧ q ≤ o + 31) (fun q hq => by have hq : q = o + 24 ∨ q = o + 25 ∨ q = o + 26 := hq; show o + 24 ≤ q ∧ q ≤ o + 31; omega))).fq (fun q hq => hq) eV0, rfl, mn⟩
              · skip
                refine g_iconst rfl ?_
                refine g_goto rfl ?_
                refine g_istore (l1 := [(5, aI 1), (0, aO (some o)), (1, aI 5), (2, aI a), (3, aI b), (4, aI c)]) rfl rfl ?_
                refine g_iload rfl rfl ?_
                refine g_if_ne_t rfl (by omega) ?_
                refine g_iload_n rfl rfl ?_
                refine g_iconst rfl ?_
                refine g_icmp_eq_f rfl (by omega) ?_
                refine g_aload_n rfl rfl ?_
                refine g_iload_n rfl rfl ?_
                refine g_callVI [aI a] [] rfl rfl rfl rfl (Nat.le_of_ble_eq_true rfl) ms.1 (m_isFar (by omega) ms V0 ok mt a ha) ?_
                rintro r8 _ ⟨rfl, e9⟩
                rw [e9]
                clear e9 r8
                refine g_b_ne rfl (fun c167 => ?_) (fun c167 => ?_)
                · skip
                  refine g_iconst rfl ?_
                  refine g_goto rfl ?_
                  refine g_istore (l1 := [(6, aI 1), (5, aI 1), (0, aO (some o)), (1, aI 5), (2, aI a), (3, aI b), (4, aI c)]) rfl rfl ?_
                  refine g_iload rfl rfl ?_
                  refine g_if_eq_f rfl (by omega) ?_
                  refine g_bipush rfl ?_
                  refine g_iret rfl ?_
                  have es : measM S 0 0 0 a b c (m_q5_O S a b c) = keepGO S (m_q5_O S a b c) := by unfold measM; rw [if_pos (by unfold isV; omega)]
                  rw [es]
                  have eo : m_q5_O S a b c = none := by unfold m_q5_O; exact if_pos (by omega)
                  rw [eo]
                  exact ⟨V0, rfl, (KQ.of (G0.wide (T2 := fun q => o + 24 ≤ q ∧ q ≤ o + 31) (fun q hq => by have hq : q = o + 24 ∨ q = o + 25 ∨ q = o + 26 := hq; show o + 24 ≤ q ∧ q ≤ o + 31; omega))).fq (fun q hq => hq) eV0, rfl, mn⟩
                · skip
                  refine g_iload_n rfl rfl ?_
                  refine g_iconst rfl ?_
                  refine g_icmp_eq_f rfl (by omega) ?_
                  refine g_iload_n rfl rfl ?_
                  refine g_iconst rfl ?_
                  refine g_icmp_ne_f rfl (by omega) ?_
                  refine g_aload_n rfl rfl ?_
                  refine g_iload_n rfl rfl ?_
                  refine g_callVI [aI b] [] rfl rfl rfl rfl (Nat.le_of_ble_eq_true rfl) ms.1 (m_isFar (by omega) ms V0 ok mt b hb) ?_
                  rintro r10 _ ⟨rfl, e11⟩
                  rw [e11]
                  clear e11 r10
                  refine g_b_ne rfl (fun c185 => ?_) (fun c185 => ?_)
                  · skip
                    refine g_iconst rfl ?_
                    refine g_goto rfl ?_
                    refine g_istore (l1 := [(6, aI 1), (5, aI 1), (0, aO (some o)), (1, aI 5), (2, aI a), (3, aI b), (4, aI c)]) rfl rfl ?_
                    refine g_iload rfl rfl ?_
                    refine g_if_eq_f rfl (by omega) ?_
                    refine g_bipush rfl ?_
                    refine g_iret rfl ?_
                    have es : measM S 0 0 0 a b c (m_q5_O S a b c) = keepGO S (m_q5_O S a b c) := by unfold measM; rw [if_pos (by unfold isV; omega)]
                    rw [es]
                    have eo : m_q5_O S a b c = none := by unfold m_q5_O; exact if_pos (by omega)
                    rw [eo]
                    exact ⟨V0, rfl, (KQ.of (G0.wide (T2 := fun q => o + 24 ≤ q ∧ q ≤ o + 31) (fun q hq => by have hq : q = o + 24 ∨ q = o + 25 ∨ q = o + 26 := hq; show o + 24 ≤ q ∧ q ≤ o + 31; omega))).fq (fun q hq => hq) eV0, rfl, mn⟩
                  · skip
                    refine g_iload_n rfl rfl ?_
                    refine g_iconst rfl ?_
                    refine g_icmp_ne_f rfl (by omega) ?_
                    refine g_aload_n rfl rfl ?_
                    refine g_iload rfl rfl ?_
                    refine g_callVI [aI c] [] rfl rfl rfl rfl (Nat.le_of_ble_eq_true rfl) ms.1 (m_isFar (by omega) ms V0 ok mt c hc) ?_
                    rintro r12 _ ⟨rfl, e13⟩
                    rw [e13]
                    clear e13 r12
                    refine g_b_ne rfl (fun c199 => ?_) (fun c199 => ?_)
                    · skip
                      refine g_iconst rfl ?_
                      refine g_goto rfl ?_
                      refine g_istore (l1 := [(6, aI 1), (5, aI 1), (0, aO (some o)), (1, aI 5), (2, aI a), (3, aI b), (4, aI c)]) rfl rfl ?_
                      refine g_iload rfl rfl ?_
                      refine g_if_eq_f rfl (by omega) ?_
                      refine g_bipush rfl ?_
                      refine g_iret rfl ?_
                      have es : measM S 0 0 0 a b c (m_q5_O S a b c) = keepGO S (m_q5_O S a b c) := by unfold measM; rw [if_pos (by unfold isV; omega)]
                      rw [es]
                      have eo : m_q5_O S a b c = none := by unfold m_q5_O; exact if_pos (by omega)
                      rw [eo]
                      exact ⟨V0, rfl, (KQ.of (G0.wide (T2 := fun q => o + 24 ≤ q ∧ q ≤ o + 31) (fun q hq => by have hq : q = o + 24 ∨ q = o + 25 ∨ q = o + 26 := hq; show o + 24 ≤ q ∧ q ≤ o + 31; omega))).fq (fun q hq => hq) eV0, rfl, mn⟩
                    · skip
                      refine g_iload_n rfl rfl ?_
                      refine g_bipush rfl ?_
                      refine g_icmp_ne_t rfl (by omega) ?_
                      refine g_iconst rfl ?_
                      refine g_istore (l1 := [(6, aI 0), (5, aI 1), (0, aO (some o)), (1, aI 5), (2, aI a), (3, aI b), (4, aI c)]) rfl rfl ?_
                      refine g_iload rfl rfl ?_
                      refine g_if_eq_t rfl (by omega) ?_
                      refine g_aload_n rfl rfl ?_
                      refine g_aload_n rfl rfl ?_
                      refine g_getR rfl ms.1 (mr_one ms) ?_
                      refine g_iload_n rfl rfl ?_
                      refine g_callVN [aO (some (o + 24)), aI a] [] rfl rfl rfl rfl (Nat.le_of_ble_eq_true rfl) ms.1 (m_load (by omega) ms V0 ok mt (by have := G0.2.2.1; omega) ((o + 24)) (show SLa o ((o + 24)) by unfold SLa; omega) a ha) ?_
                      rintro _ ⟨V14, rfl, g14, t14, u14, v14, y14, s14, xt14, xu14, xv14, xy14⟩
                      have G_15 := G0.trans (g14.wide (fun q hq => by have hq : q = o + 24 := hq; show q = o + 24 ∨ q = o + 25 ∨ q = o + 26; omega))
                      refine g_aload_n rfl rfl ?_
                      refine g_aload_n rfl rfl ?_
                      refine g_getR rfl ms.1 (mr_two ms) ?_
                      refine g_iload_n rfl rfl ?_
                      refine g_callVN [aO (some (o + 25)), aI b] [] rfl rfl rfl rfl (Nat.le_of_ble_eq_true rfl) ms.1 (m_load (by omega) ms V14 ok (g14.mt (show ¬((o + 4) = o + 24) by omega) (show ¬((o + 5) = o + 24) by omega) mt) (by have := G_15.2.2.1; omega) ((o + 25)) (show SLa o ((o + 25)) by unfold SLa; omega) b hb) ?_
                      rintro _ ⟨V16, rfl, g16, t16, u16, v16, y16, s16, xt16, xu16, xv16, xy16⟩
                      have G_17 := G_15.trans (g16.wide (fun q hq => by have hq : q = o + 25 := hq; show q = o + 24 ∨ q = o + 25 ∨ q = o + 26; omega))
                      refine g_aload_n rfl rfl ?_
                      refine g_aload_n rfl rfl ?_
                      refine g_getR rfl ms.1 (mr_three ms) ?_
                      refine g_iload rfl rfl ?_
                      refine g_callVN [aO (some (o + 26)), aI c] [] rfl rfl rfl rfl (Nat.le_of_ble_eq_true rfl) ms.1 (m_load (by omega) ms V16 ok (g16.mt (show ¬((o + 4) = o + 25) by omega) (show ¬((o + 5) = o + 25) by omega) (g14.mt (show ¬((o + 4) = o + 24) by omega) (show ¬((o + 5) = o + 24) by omega) mt)) (by have := G_17.2.2.1; omega) ((o + 26)) (show SLa o ((o + 26)) by unfold SLa; omega) c hc) ?_
                      rintro _ ⟨V18, rfl, g18, t18, u18, v18, y18, s18, xt18, xu18, xv18, xy18⟩
                      have G_19 := G_17.trans (g18.wide (fun q hq => by have hq : q = o + 26 := hq; show q = o + 24 ∨ q = o + 25 ∨ q = o + 26; omega))
                      refine g_iload_n rfl rfl ?_
                      refine g_tsw (t := 425) rfl (by rfl) ?_
                      refine g_aload_n rfl rfl ?_
                      refine g_aload_n rfl rfl ?_
                      refine g_aload_n rfl rfl ?_
                      refine g_getR rfl ms.1 (mr_one ms) ?_
                      refine g_aload_n rfl rfl ?_
                      refine g_getR rfl ms.1 (mr_two ms) ?_
                      refine g_aload_n rfl rfl ?_
                      refine g_getR rfl ms.1 (mr_three ms) ?_
                      refine g_callVI [aO (some (o + 24)), aO (some (o + 25)), aO (some (o + 26))] [aO (some o)] rfl rfl rfl rfl (Nat.le_of_ble_eq_true rfl) ms.1 (m_det (by omega) ms V18 (by have := G_19.2.2.1; omega) ((o + 24)) (show SLa o ((o + 24)) by unfold SLa; omega) (show SB V18 o (o + 24) (tpR S a) (20) from ⟨_, _, _, _, (g18.sa (show SLa o ((o + 24)) by unfold SLa; omega) (show ¬(o + 24 = o + 26) by omega) (g16.sa (show SLa o ((o + 24)) by unfold SLa; omega) (show ¬(o + 24 = o + 25) by omega) s14)), ((g18.rb (g16.rb xt14)).up (by omega)), ((g18.rb (g16.rb xu14)).up (by omega)), ((g18.rb (g16.rb xv14)).up (by omega)), ((g18.rb (g16.rb xy14)).up (by omega))⟩) ((o + 25)) (show SLa o ((o + 25)) by unfold SLa; omega) (show SB V18 o (o + 25) (tpR S b) (20) from ⟨_, _, _, _, (g18.sa (show SLa o ((o + 25)) by unfold SLa; omega) (show ¬(o + 25 = o + 26) by omega) s16), ((g18.rb xt16).up (by omega)), ((g18.rb xu16).up (by omega)), ((g18.rb xv16).up (by omega)), ((g18.rb xy16).up (by omega))⟩) ((o + 26)) (show SLa o ((o + 26)) by unfold SLa; omega) (show SB V18 o (o + 26) (tpR S c) (20) from ⟨_, _, _, _, s18, (xt18.up (by omega)), (xu18.up (by omega)), (xv18.up (by omega)), (xy18.up (by omega))⟩)) ?_
                      rintro _ _ ⟨p20, rfl, V20, rfl, g20, xp20⟩
                      have G_21 := G_19.trans (g20.gs _)
                      refine g_aload_n rfl rfl ?_
                      refine g_aload_n rfl rfl ?_
                      refine g_getR rfl ms.1 (mr_one ms) ?_
                      refine g_iconst rfl ?_
                      refine g_iald (i := 2) rfl (mt_one ms) (by omega) (by omega) ?_
                      refine g_top (v2 := aI ((v14 : Int))) (congrArg aI (by exact (g20.sa (show SLa o ((o + 24)) by unfold SLa; omega) (g18.sa (show SLa o ((o + 24)) by unfold SLa; omega) (show ¬(o + 24 = o + 26) by omega) (g16.sa (show SLa o ((o + 24)) by unfold SLa; omega) (show ¬(o + 24 = o + 25) by omega) s14))).2.2.1)) ?_
                      refine g_aload_n rfl rfl ?_
                      refine g_getR rfl ms.1 (mr_two ms) ?_
                      refine g_iconst rfl ?_
                      refine g_iald (i := 2) rfl (mt_two ms) (by omega) (by omega) ?_
                      refine g_top (v2 := aI ((v16 : Int))) (congrArg aI (by exact (g20.sa (show SLa o ((o + 25)) by unfold SLa; omega) (g18.sa (show SLa o ((o + 25)) by unfold SLa; omega) (show ¬(o + 25 = o + 26) by omega) s16)).2.2.1)) ?_
                      refine g_aload_n rfl rfl ?_
                      refine g_getR rfl ms.1 (mr_three ms) ?_
                      refine g_iconst rfl ?_
                      refine g_iald (i := 2) rfl (mt_three ms) (by omega) (by omega) ?_
                      refine g_top (v2 := aI ((v18 : Int))) (congrArg aI (by exact (g20.sa (show SLa o ((o + 26)) by unfold SLa; omega) s18).2.2.1)) ?_
                      refine g_callVI [aI ((v14 : Int)), aI ((v16 : Int)), aI ((v18 : Int))] [aI ((p20 : Int)), aO (some o)] rfl rfl rfl rfl (Nat.le_of_ble_eq_true rfl) ms.1 (r_mul3 (by omega) ms V20 (by have := G_21.2.2.1; omega) (g20.rb (g18.rb (g16.rb xv14))) (g20.rb (g18.rb xv16)) (g20.rb xv18) (by omega)) ?_
                      rintro _ _ ⟨p22, rfl, V22, rfl, g22, xp22⟩
                      have G_23 := G_21.trans (g22.gs _)
                      refine g_callVI [aI ((p20 : Int)), aI ((p22 : Int))] [] rfl rfl rfl rfl (Nat.le_of_ble_eq_true rfl) ms.1 (m_keepGreat (by omega) ms V22 (g22.mn (g20.mn (g18.mn (show ¬((o + 2) = o + 26) by omega) (show ¬((o + 3) = o + 26) by omega) (g16.mn (show ¬((o + 2) = o + 25) by omega) (show ¬((o + 3) = o + 25) by omega) (g14.mn (show ¬((o + 2) = o + 24) by omega) (show ¬((o + 3) = o + 24) by omega) mn))))) okn (by have := G_23.2.2.1; omega) (show RB V22 o p20 (m_det_S (tpR S a) (tpR S b) (tpR S c)) (63) from ((g22.rb xp20).up (by omega))) (show RB V22 o p22 (((tpR S a).2.2.1) * ((tpR S b).2.2.1) * ((tpR S c).2.2.1)) (63) from (xp22.up (by omega))) (by omega)) ?_
                      rintro r24 _ ⟨V24, rfl, k24, e24, m24⟩
                      refine g_iret rfl ?_
                      have es : measM S 0 0 0 a b c (m_q5_O S a b c) = keepGO S (m_q5_O S a b c) := by unfold measM; rw [if_pos (by unfold isV; omega)]
                      rw [es]
                      have eo : m_q5_O S a b c = some (m_det_S (tpR S a) (tpR S b) (tpR S c), ((tpR S a).2.2.1) * ((tpR S b).2.2.1) * ((tpR S c).2.2.1)) := by unfold m_q5_O; exact if_neg (by omega)
                      rw [eo]
                      exact ⟨_, rfl, (Gs.kq (G_23.wide (T2 := fun q => o + 24 ≤ q ∧ q ≤ o + 31) (fun q hq => by have hq : q = o + 24 ∨ q = o + 25 ∨ q = o + 26 := hq; show o + 24 ≤ q ∧ q ≤ o + 31; omega)) k24 (fun q hq => hq.elim)).fq (fun q hq => hq) eV0, e24, m24⟩
set_option maxRecDepth 100000 in
set_option maxHeartbeats 4000000 in
theorem m_meas6 {w : aW} {d : Nat} (hd : 8 ≤ d) {h : aH} {o : Nat} (ms : MS h o) (V : Nat → Nat → Int) {S : aS} (ok : OkT S) (mt : MT V o S) (okn : OkN S) (mn : MN V o S) (a b c : Int) : WP w d 320 [aO (some o), aI 6, aI a, aI b, aI c] (hw h V) (RI (fun r h1 => ∃ V1, h1 = hw h V1 ∧ FQ V V1 o ∧ r = (measM S 0 1 ((-1)) a b c (m_q6_O S a b c)).1 ∧ MN V1 o (measM S 0 1 ((-1)) a b c (m_q6_O S a b c)).2)) := by
  obtain ⟨d, rfl⟩ : ∃ d1, d = d1 + 1 := ⟨d - 1, by omega⟩
  refine WP.enter (cd := cd_X12_measure) rfl ?_
  have hn := ok.1
  have hls : largs 0 [aO (some o), aI 6, aI a, aI b, aI c] = [(0, aO (some o)), (1, aI 6), (2, aI a), (3, aI b), (4, aI c)] := rfl
  rw [hls]
  clear hls
  refine g_aload_n rfl rfl ?_
  refine g_iconst rfl ?_
  refine g_putI rfl ms.1 ?_
  refine g_hp (h2 := hw h (vset V o 31 0)) rfl ?_
  refine g_aload_n rfl rfl ?_
  refine g_iconst rfl ?_
  refine g_putI rfl ms.1 ?_
  obtain ⟨V0, eV0⟩ : ∃ W, W = vset (vset V o 31 0) o 1 0 := ⟨_, rfl⟩
  refine g_hp (h2 := hw h V0) (by rw [eV0]; rfl) ?_
  have mt : MT V0 o S := by rw [eV0]; exact mt.rs
  have f0 : V0 o 1 = 0 := by rw [eV0]; exact vset_eq _ _ _ _
  have G0 := Gs.refl V0 o (fun q => q = o + 24 ∨ q = o + 25 ∨ q = o + 26)
  have mn : MN V0 o S := by rw [eV0]; exact mn.rs
  refine g_iload_n rfl rfl ?_
  refine g_i2l rfl ?_
  refine g_lconst0 rfl ?_
  refine g_ldc2 rfl ?_
  refine g_callSI [aJ 6, aJ 0, aJ 6] [] rfl rfl rfl rfl (Nat.le_of_ble_eq_true rfl) (c_in (by omega) _ _ _ _) ?_
  rintro r1 _ ⟨rfl, rfl⟩
  refine g_b_eq rfl (fun c19 => ?_) (fun c19 => ?_)
  · skip
    refine g_iconst rfl ?_
    refine g_istore (l1 := [(5, aI 0), (0, aO (some o)), (1, aI 6), (2, aI a), (3, aI b), (4, aI c)]) rfl rfl ?_
    refine g_iload rfl rfl ?_
    refine g_if_eq_t rfl (by omega) ?_
    refine g_iconst rfl ?_
    refine g_istore (l1 := [(5, aI 0), (0, aO (some o)), (1, aI 6), (2, aI a), (3, aI b), (4, aI c)]) rfl rfl ?_
    refine g_iload rfl rfl ?_
    refine g_if_ne_f rfl (by omega) ?_
    refine g_iconst rfl ?_
    refine g_iret rfl ?_
    have es : measM S 0 1 ((-1)) a b c (m_q6_O S a b c) = (-1, S) := by unfold measM; rw [if_neg (by unfold isV; omega)]
    rw [es]
    exact ⟨V0, rfl, (KQ.of (G0.wide (T2 := fun q => o + 24 ≤ q ∧ q ≤ o + 31) (fun q hq => by have hq : q = o + 24 ∨ q = o + 25 ∨ q = o + 26 := hq; show o + 24 ≤ q ∧ q ≤ o + 31; omega))).fq (fun q hq => hq) eV0, rfl, mn⟩
  · skip
    refine g_aload_n rfl rfl ?_
    refine g_iload_n rfl rfl ?_
    refine g_callVI [aI a] [] rfl rfl rfl rfl (Nat.le_of_ble_eq_true rfl) ms.1 (m_isThing (by omega) ms V0 ok mt a) ?_
    rintro r2 _ ⟨rfl, e3⟩
    rw [e3]
    clear e3 r2
    refine g_b_eq rfl (fun c27 => ?_) (fun c27 => ?_)
    · skip
      refine g_iconst rfl ?_
      refine g_istore (l1 := [(5, aI 0), (0, aO (some o)), (1, aI 6), (2, aI a), (3, aI b), (4, aI c)]) rfl rfl ?_
      refine g_iload rfl rfl ?_
      refine g_if_eq_t rfl (by omega) ?_
      refine g_iconst rfl ?_
      refine g_istore (l1 := [(5, aI 0), (0, aO (some o)), (1, aI 6), (2, aI a), (3, aI b), (4, aI c)]) rfl rfl ?_
      refine g_iload rfl rfl ?_
      refine g_if_ne_f rfl (by omega) ?_
      refine g_iconst rfl ?_
      refine g_iret rfl ?_
      have es : measM S 0 1 ((-1)) a b c (m_q6_O S a b c) = (-1, S) := by unfold measM; rw [if_neg (by unfold isV; omega)]
      rw [es]
      exact ⟨V0, rfl, (KQ.of (G0.wide (T2 := fun q => o + 24 ≤ q ∧ q ≤ o + 31) (fun q hq => by have hq : q = o + 24 ∨ q = o + 25 ∨ q = o + 26 := hq; show o + 24 ≤ q ∧ q ≤ o + 31; omega))).fq (fun q hq => hq) eV0, rfl, mn⟩
    · skip
      refine g_aload_n rfl rfl ?_
      refine g_iload_n rfl rfl ?_
      refine g_callVI [aI b] [] rfl rfl rfl rfl (Nat.le_of_ble_eq_true rfl) ms.1 (m_isThing (by omega) ms V0 ok mt b) ?_
      rintro r4 _ ⟨rfl, e5⟩
      rw [e5]
      clear e5 r4
      refine g_b_eq rfl (fun c35 => ?_) (fun c35 => ?_)
      · skip
        refine g_iconst rfl ?_
        refine g_istore (l1 := [(5, aI 0), (0, aO (some o)), (1, aI 6), (2, aI a), (3, aI b), (4, aI c)]) rfl rfl ?_
        refine g_iload rfl rfl ?_
        refine g_if_eq_t rfl (by omega) ?_
        refine g_iconst rfl ?_
        refine g_istore (l1 := [(5, aI 0), (0, aO (some o)), (1, aI 6), (2, aI a), (3, aI b), (4, aI c)]) rfl rfl ?_
        refine g_iload rfl rfl ?_
        refine g_if_ne_f rfl (by omega) ?_
        refine g_iconst rfl ?_
        refine g_iret rfl ?_
        have es : measM S 0 1 ((-1)) a b c (m_q6_O S a b c) = (-1, S) := by unfold measM; rw [if_neg (by unfold isV; omega)]
        rw [es]
        exact ⟨V0, rfl, (KQ.of (G0.wide (T2 := fun q => o + 24 ≤ q ∧ q ≤ o + 31) (fun q hq => by have hq : q = o + 24 ∨ q = o + 25 ∨ q = o + 26 := hq; show o + 24 ≤ q ∧ q ≤ o + 31; omega))).fq (fun q hq => hq) eV0, rfl, mn⟩
      · skip
        refine g_aload_n rfl rfl ?_
        refine g_iload rfl rfl ?_
        refine g_callVI [aI c] [] rfl rfl rfl rfl (Nat.le_of_ble_eq_true rfl) ms.1 (m_isThing (by omega) ms V0 ok mt c) ?_
        rintro r6 _ ⟨rfl, e7⟩
        rw [e7]
        clear e7 r6
        refine g_b_eq rfl (fun c44 => ?_) (fun c44 => ?_)
        · skip
          refine g_iconst rfl ?_
          refine g_istore (l1 := [(5, aI 0), (0, aO (some o)), (1, aI 6), (2, aI a), (3, aI b), (4, aI c)]) rfl rfl ?_
          refine g_iload rfl rfl ?_
          refine g_if_eq_t rfl (by omega) ?_
          refine g_iconst rfl ?_
          refine g_istore (l1 := [(5, aI 0), (0, aO (some o)), (1, aI 6), (2, aI a), (3, aI b), (4, aI c)]) rfl rfl ?_
          refine g_iload rfl rfl ?_
          refine g_if_ne_f rfl (by omega) ?_
          refine g_iconst rfl ?_
          refine g_iret rfl ?_
          have es : measM S 0 1 ((-1)) a b c (m_q6_O S a b c) = (-1, S) := by unfold measM; rw [if_neg (by unfold isV; omega)]
          rw [es]
          exact ⟨V0, rfl, (KQ.of (G0.wide (T2 := fun q => o + 24 ≤ q ∧ q ≤ o + 31) (fun q hq => by have hq : q = o + 24 ∨ q = o + 25 ∨ q = o + 26 := hq; show o + 24 ≤ q ∧ q ≤ o + 31; omega))).fq (fun q hq => hq) eV0, rfl, mn⟩
        · skip
          refine g_aload_n rfl rfl ?_
          refine g_getR rfl ms.1 (mr_sort ms) ?_
          have ha : 0 ≤ a ∧ a < sT S := by omega
          have hb : 0 ≤ b ∧ b < sT S := by omega
          have hc : 0 ≤ c ∧ c < sT S := by omega
          refine g_iload_n rfl rfl ?_
          refine g_iald (i := a.toNat) rfl (mt_sort ms) (by omega) (by omega) ?_
          refine g_top (v2 := aI (sTs S a.toNat)) (congrArg aI (by exact (mt.2 a.toNat (by omega)).1)) ?_
          refine g_iload_n rfl rfl ?_
          refine g_iconst rfl ?_
          refine g_icmp_ne_t rfl (by omega) ?_
          refine g_iconst rfl ?_
          refine g_icmp_ne rfl (fun c63 => ?_) (fun c63 => ?_)
          · skip
            refine g_iconst rfl ?_
            refine g_istore (l1 := [(5, aI 0), (0, aO (some o)), (1, aI 6), (2, aI a), (3, aI b), (4, aI c)]) rfl rfl ?_
            refine g_iload rfl rfl ?_
            refine g_if_eq_t rfl (by omega) ?_
            refine g_iconst rfl ?_
            refine g_istore (l1 := [(5, aI 0), (0, aO (some o)), (1, aI 6), (2, aI a), (3, aI b), (4, aI c)]) rfl rfl ?_
            refine g_iload rfl rfl ?_
            refine g_if_ne_f rfl (by omega) ?_
            refine g_iconst rfl ?_
            refine g_iret rfl ?_
            have es : measM S 0 1 ((-1)) a b c (m_q6_O S a b c) = (-1, S) := by unfold measM; rw [if_neg (by unfold isV; omega)]
            rw [es]
            exact ⟨V0, rfl, (KQ.of (G0.wide (T2 := fun q => o + 24 ≤ q ∧ q ≤ o + 31) (fun q hq => by have hq : q = o + 24 ∨ q = o + 25 ∨ q = o + 26 := hq; show o + 24 ≤ q ∧ q ≤ o + 31; omega))).fq (fun q hq => hq) eV0, rfl, mn⟩
          · skip
            refine g_iconst rfl ?_
            refine g_goto rfl ?_
            refine g_istore (l1 := [(5, aI 1), (0, aO (some o)), (1, aI 6), (2, aI a), (3, aI b), (4, aI c)]) rfl rfl ?_
            refine g_iload rfl rfl ?_
            refine g_if_eq_f rfl (by omega) ?_
            refine g_iload_n rfl rfl ?_
            refine g_iconst rfl ?_
            refine g_icmp_eq_f rfl (by omega) ?_
            refine g_iload_n rfl rfl ?_
            refine g_iconst rfl ?_
            refine g_icmp_ne_t rfl (by omega) ?_
            refine g_iload_n rfl rfl ?_
            refine g_iconst rfl ?_
            refine g_icmp_ne_t rfl (by omega) ?_
            refine g_iload_n rfl rfl ?_
            refine g_bipush rfl ?_
            refine g_icmp_ne_f rfl (by omega) ?_
            refine g_aload_n rfl rfl ?_
            refine g_getR rfl ms.1 (mr_sort ms) ?_
            refine g_iload_n rfl rfl ?_
            refine g_iald (i := b.toNat) rfl (mt_sort ms) (by omega) (by omega) ?_
            refine g_top (v2 := aI (sTs S b.toNat)) (congrArg aI (by exact (mt.2 b.toNat (by omega)).1)) ?_
            refine g_iconst rfl ?_
            refine g_icmp_ne rfl (fun c125 => ?_) (fun c125 => ?_)
            · skip
              refine g_iconst rfl ?_
              refine g_istore (l1 := [(5, aI 0), (0, aO (some o)), (1, aI 6), (2, aI a), (3, aI b), (4, aI c)]) rfl rfl ?_
              refine g_iload rfl rfl ?_
              refine g_if_ne_f rfl (by omega) ?_
              refine g_iconst rfl ?_
              refine g_iret rfl ?_
              have es : measM S 0 1 ((-1)) a b c (m_q6_O S a b c) = (-1, S) := by unfold measM; rw [if_neg (by unfold isV; omega)]
              rw [es]
              exact ⟨V0, rfl, (KQ.of (G0.wide (T2 := fun q => o + 24 ≤ q ∧ q ≤ o + 31) (fun q hq => by have hq : q = o + 24 ∨ q = o + 25 ∨ q = o + 26 := hq; show o + 24 ≤ q ∧ q ≤ o + 31; omega))).fq (fun q hq => hq) eV0, rfl, mn⟩
            · skip
              refine g_iload_n rfl rfl ?_
              refine g_iconst rfl ?_
              refine g_icmp_ne_t rfl (by omega) ?_
              refine g_iconst rfl ?_
              refine g_goto rfl ?_
              refine g_istore (l1 := [(5, aI 1), (0, aO (some o)), (1, aI 6), (2, aI a), (3, aI b), (4, aI c)]) rfl rfl ?_
              refine g_iload rfl rfl ?_
              refine g_if_ne_t rfl (by omega) ?_
              refine g_iload_n rfl rfl ?_
              refine g_iconst rfl ?_
              refine g_icmp_eq_f rfl (by omega) ?_
              refine g_aload_n rfl rfl ?_
              refine g_iload_n rfl rfl ?_
              refine g_callVI [aI a] [] rfl rfl rfl rfl (Nat.le_of_ble_eq_true rfl) ms.1 (m_isFar (by omega) ms V0 ok mt a ha) ?_
              rintro r8 _ ⟨rfl, e9⟩
              rw [e9]
              clear e9 r8
              refine g_b_ne rfl (fun c167 => ?_) (fun c167 => ?_)
              · skip
                refine g_iconst rfl ?_
                refine g_goto rfl ?_
                refine g_istore (l1 := [(6, aI 1), (5, aI 1), (0, aO (some o)), (1, aI 6), (2, aI a), (3, aI b), (4, aI c)]) rfl rfl ?_
                refine g_iload rfl rfl ?_
                refine g_if_eq_f rfl (by omega) ?_
                refine g_bipush rfl ?_
                refine g_iret rfl ?_
                have es : measM S 0 1 ((-1)) a b c (m_q6_O S a b c) = keepGO S (m_q6_O S a b c) := by unfold measM; rw [if_pos (by unfold isV; omega)]
                rw [es]
                have eo : m_q6_O S a b c = none := by unfold m_q6_O; exact if_pos (by omega)
                rw [eo]
                exact ⟨V0, rfl, (KQ.of (G0.wide (T2 := fun q => o + 24 ≤ q ∧ q ≤ o + 31) (fun q hq => by have hq : q = o + 24 ∨ q = o + 25 ∨ q = o + 26 := hq; show o + 24 ≤ q ∧ q ≤ o + 31; omega))).fq (fun q hq => hq) eV0, rfl, mn⟩
              · skip
                refine g_iload_n rfl rfl ?_
                refine g_iconst rfl ?_
                refine g_icmp_eq_f rfl (by omega) ?_
                refine g_iload_n rfl rfl ?_
                refine g_iconst rfl ?_
                refine g_icmp_ne_t rfl (by omega) ?_
                refine g_iload_n rfl rfl ?_
                refine g_iconst rfl ?_
                refine g_icmp_ne_t rfl (by omega) ?_
                refine g_iload_n rfl rfl ?_
                refine g_bipush rfl ?_
                refine g_icmp_ne_f rfl (by omega) ?_
                refine g_aload_n rfl rfl ?_
                refine g_iload_n rfl rfl ?_
                refine g_callVI [aI b] [] rfl rfl rfl rfl (Nat.le_of_ble_eq_true rfl) ms.1 (m_isRim (by omega) ms V0 ok mt b hb) ?_
                rintro r10 _ ⟨rfl, e11⟩
                rw [e11]
                clear e11 r10
                refine g_b_eq rfl (fun c213 => ?_) (fun c213 => ?_)
                · skip
                  refine g_iconst rfl ?_
                  refine g_istore (l1 := [(6, aI 0), (5, aI 1), (0, aO (some o)), (1, aI 6), (2, aI a), (3, aI b), (4, aI c)]) rfl rfl ?_
                  refine g_iload rfl rfl ?_
                  refine g_if_eq_t rfl (by omega) ?_
                  refine g_aload_n rfl rfl ?_
                  refine g_aload_n rfl rfl ?_
                  refine g_getR rfl ms.1 (mr_one ms) ?_
                  refine g_iload_n rfl rfl ?_
                  refine g_callVN [aO (some (o + 24)), aI a] [] rfl rfl rfl rfl (Nat.le_of_ble_eq_true rfl) ms.1 (m_load (by omega) ms V0 ok mt (by have := G0.2.2.1; omega) ((o + 24)) (show SLa o ((o + 24)) by unfold SLa; omega) a ha) ?_
                  rintro _ ⟨V12, rfl, g12, t12, u12, v12, y12, s12, xt12, xu12, xv12, xy12⟩
                  have G_13 := G0.trans (g12.wide (fun q hq => by have hq : q = o + 24 := hq; show q = o + 24 ∨ q = o + 25 ∨ q = o + 26; omega))
                  refine g_aload_n rfl rfl ?_
                  refine g_aload_n rfl rfl ?_
                  refine g_getR rfl ms.1 (mr_two ms) ?_
                  refine g_iload_n rfl rfl ?_
                  refine g_callVN [aO (some (o + 25)), aI b] [] rfl rfl rfl rfl (Nat.le_of_ble_eq_true rfl) ms.1 (m_load (by omega) ms V12 ok (g12.mt (show ¬((o + 4) = o + 24) by omega) (show ¬((o + 5) = o + 24) by omega) mt) (by have := G_13.2.2.1; omega) ((o + 25)) (show SLa o ((o + 25)) by unfold SLa; omega) b hb) ?_
                  rintro _ ⟨V14, rfl, g14, t14, u14, v14, y14, s14, xt14, xu14, xv14, xy14⟩
                  have G_15 := G_13.trans (g14.wide (fun q hq => by have hq : q = o + 25 := hq; show q = o + 24 ∨ q = o + 25 ∨ q = o + 26; omega))
                  refine g_aload_n rfl rfl ?_
                  refine g_aload_n rfl rfl ?_
                  refine g_getR rfl ms.1 (mr_three ms) ?_
                  refine g_iload rfl rfl ?_
                  refine g_callVN [aO (some (o + 26)), aI c] [] rfl rfl rfl rfl (Nat.le_of_ble_eq_true rfl) ms.1 (m_load (by omega) ms V14 ok (g14.mt (show ¬((o + 4) = o + 25) by omega) (show ¬((o + 5) = o + 25) by omega) (g12.mt (show ¬((o + 4) = o + 24) by omega) (show ¬((o + 5) = o + 24) by omega) mt)) (by have := G_15.2.2.1; omega) ((o + 26)) (show SLa o ((o + 26)) by unfold SLa; omega) c hc) ?_
                  rintro _ ⟨V16, rfl, g16, t16, u16, v16, y16, s16, xt16, xu16, xv16, xy16⟩
                  have G_17 := G_15.trans (g16.wide (fun q hq => by have hq : q = o + 26 := hq; show q = o + 24 ∨ q = o + 25 ∨ q = o + 26; omega))
                  refine g_iload_n rfl rfl ?_
                  refine g_tsw (t := 468) rfl (by rfl) ?_
                  refine g_aload_n rfl rfl ?_
                  refine g_aload_n rfl rfl ?_
                  refine g_aload_n rfl rfl ?_
                  refine g_aload_n rfl rfl ?_
                  refine g_getR rfl ms.1 (mr_one ms) ?_
                  refine g_aload_n rfl rfl ?_
                  refine g_getR rfl ms.1 (mr_two ms) ?_
                  refine g_callVI [aO (some (o + 24)), aO (some (o + 25))] [aO (some o), aO (some o)] rfl rfl rfl rfl (Nat.le_of_ble_eq_true rfl) ms.1 (m_dot (by omega) ms V16 (by have := G_17.2.2.1; omega) ((o + 24)) (show SLa o ((o + 24)) by unfold SLa; omega) (show SB V16 o (o + 24) (tpR S a) (20) from ⟨_, _, _, _, (g16.sa (show SLa o ((o + 24)) by unfold SLa; omega) (show ¬(o + 24 = o + 26) by omega) (g14.sa (show SLa o ((o + 24)) by unfold SLa; omega) (show ¬(o + 24 = o + 25) by omega) s12)), ((g16.rb (g14.rb xt12)).up (by omega)), ((g16.rb (g14.rb xu12)).up (by omega)), ((g16.rb (g14.rb xv12)).up (by omega)), ((g16.rb (g14.rb xy12)).up (by omega))⟩) ((o + 25)) (show SLa o ((o + 25)) by unfold SLa; omega) (show SB V16 o (o + 25) (tpR S b) (20) from ⟨_, _, _, _, (g16.sa (show SLa o ((o + 25)) by unfold SLa; omega) (show ¬(o + 25 = o + 26) by omega) s14), ((g16.rb xt14).up (by omega)), ((g16.rb xu14).up (by omega)), ((g16.rb xv14).up (by omega)), ((g16.rb xy14).up (by omega))⟩) (by omega)) ?_
                  rintro _ _ ⟨p18, rfl, V18, rfl, g18, xp18⟩
                  have G_19 := G_17.trans (g18.gs _)
                  refine g_callVI [aI ((p18 : Int))] [aO (some o)] rfl rfl rfl rfl (Nat.le_of_ble_eq_true rfl) ms.1 (r_square (by omega) ms V18 (by have := G_19.2.2.1; omega) xp18 (by omega)) ?_
                  rintro _ _ ⟨p20, rfl, V20, rfl, g20, xp20⟩
                  have G_21 := G_19.trans (g20.gs _)
                  refine g_aload_n rfl rfl ?_
                  refine g_aload_n rfl rfl ?_
                  refine g_aload_n rfl rfl ?_
                  refine g_getR rfl ms.1 (mr_one ms) ?_
                  refine g_iconst rfl ?_
                  refine g_iald (i := 2) rfl (mt_one ms) (by omega) (by omega) ?_
                  refine g_top (v2 := aI ((v12 : Int))) (congrArg aI (by exact (g20.sa (show SLa o ((o + 24)) by unfold SLa; omega) (g18.sa (show SLa o ((o + 24)) by unfold SLa; omega) (g16.sa (show SLa o ((o + 24)) by unfold SLa; omega) (show ¬(o + 24 = o + 26) by omega) (g14.sa (show SLa o ((o + 24)) by unfold SLa; omega) (show ¬(o + 24 = o + 25) by omega) s12)))).2.2.1)) ?_
                  refine g_callVI [aI ((v12 : Int))] [aO (some o), aI ((p20 : Int)), aO (some o)] rfl rfl rfl rfl (Nat.le_of_ble_eq_true rfl) ms.1 (r_square (by omega) ms V20 (by have := G_21.2.2.1; omega) (g20.rb (g18.rb (g16.rb (g14.rb xv12)))) (by omega)) ?_
                  rintro _ _ ⟨p22, rfl, V22, rfl, g22, xp22⟩
                  have G_23 := G_21.trans (g22.gs _)
                  refine g_aload_n rfl rfl ?_
                  refine g_aload_n rfl rfl ?_
                  refine g_aload_n rfl rfl ?_
                  refine g_getR rfl ms.1 (mr_two ms) ?_
                  refine g_iconst rfl ?_
                  refine g_iald (i := 0) rfl (mt_two ms) (by omega) (by omega) ?_
                  refine g_top (v2 := aI ((t14 : Int))) (congrArg aI (by exact (g22.sa (show SLa o ((o + 25)) by unfold SLa; omega) (g20.sa (show SLa o ((o + 25)) by unfold SLa; omega) (g18.sa (show SLa o ((o + 25)) by unfold SLa; omega) (g16.sa (show SLa o ((o + 25)) by unfold SLa; omega) (show ¬(o + 25 = o + 26) by omega) s14)))).1)) ?_
                  refine g_callVI [aI ((t14 : Int))] [aO (some o), aI ((p22 : Int)), aO (some o), aI ((p20 : Int)), aO (some o)] rfl rfl rfl rfl (Nat.le_of_ble_eq_true rfl) ms.1 (r_square (by omega) ms V22 (by have := G_23.2.2.1; omega) (g22.rb (g20.rb (g18.rb (g16.rb xt14)))) (by omega)) ?_
                  rintro _ _ ⟨p24, rfl, V24, rfl, g24, xp24⟩
                  have G_25 := G_23.trans (g24.gs _)
                  refine g_aload_n rfl rfl ?_
                  refine g_aload_n rfl rfl ?_
                  refine g_getR rfl ms.1 (mr_two ms) ?_
                  refine g_iconst rfl ?_
                  refine g_iald (i := 1) rfl (mt_two ms) (by omega) (by omega) ?_
                  refine g_top (v2 := aI ((u14 : Int))) (congrArg aI (by exact (g24.sa (show SLa o ((o + 25)) by unfold SLa; omega) (g22.sa (show SLa o ((o + 25)) by unfold SLa; omega) (g20.sa (show SLa o ((o + 25)) by unfold SLa; omega) (g18.sa (show SLa o ((o + 25)) by unfold SLa; omega) (g16.sa (show SLa o ((o + 25)) by unfold SLa; omega) (show ¬(o + 25 = o + 26) by omega) s14))))).2.1)) ?_
                  refine g_callVI [aI ((u14 : Int))] [aI ((p24 : Int)), aO (some o), aI ((p22 : Int)), aO (some o), aI ((p20 : Int)), aO (some o)] rfl rfl rfl rfl (Nat.le_of_ble_eq_true rfl) ms.1 (r_square (by omega) ms V24 (by have := G_25.2.2.1; omega) (g24.rb (g22.rb (g20.rb (g18.rb (g16.rb xu14))))) (by omega)) ?_
                  rintro _ _ ⟨p26, rfl, V26, rfl, g26, xp26⟩
                  have G_27 := G_25.trans (g26.gs _)
                  refine g_callVI [aI ((p24 : Int)), aI ((p26 : Int))] [aI ((p22 : Int)), aO (some o), aI ((p20 : Int)), aO (some o)] rfl rfl rfl rfl (Nat.le_of_ble_eq_true rfl) ms.1 (r_add (by omega) ms V26 (by have := G_27.2.2.1; omega) (g26.rb xp24) xp26 (41) (by omega) (by omega) (by omega)) ?_
                  rintro _ _ ⟨p28, rfl, V28, rfl, g28, xp28⟩
                  have G_29 := G_27.trans (g28.gs _)
                  refine g_callVI [aI ((p22 : Int)), aI ((p28 : Int))] [aI ((p20 : Int)), aO (some o)] rfl rfl rfl rfl (Nat.le_of_ble_eq_true rfl) ms.1 (r_mul (by omega) ms V28 (by have := G_29.2.2.1; omega) (g28.rb (g26.rb (g24.rb xp22))) xp28 (by omega)) ?_
                  rintro _ _ ⟨p30, rfl, V30, rfl, g30, xp30⟩
                  have G_31 := G_29.trans (g30.gs _)
                  refine g_callVI [aI ((p20 : Int)), aI ((p30 : Int))] [] rfl rfl rfl rfl (Nat.le_of_ble_eq_true rfl) ms.1 (m_keepGreat (by omega) ms V30 (g30.mn (g28.mn (g26.mn (g24.mn (g22.mn (g20.mn (g18.mn (g16.mn (show ¬((o + 2) = o + 26) by omega) (show ¬((o + 3) = o + 26) by omega) (g14.mn (show ¬((o + 2) = o + 25) by omega) (show ¬((o + 3) = o + 25) by omega) (g12.mn (show ¬((o + 2) = o + 24) by omega) (show ¬((o + 3) = o + 24) by omega) mn)))))))))) okn (by have := G_31.2.2.1; omega) (show RB V30 o p20 ((m_dot_S (tpR S a) (tpR S b)) * (m_dot_S (tpR S a) (tpR S b))) (84) from ((g30.rb (g28.rb (g26.rb (g24.rb (g22.rb xp20))))).up (by omega))) (show RB V30 o p30 ((((tpR S a).2.2.1) * ((tpR S a).2.2.1)) * ((((tpR S b).1) * ((tpR S b).1)) + (((tpR S b).2.1) * ((tpR S b).2.1)))) (84) from (xp30.up (by omega))) (by omega)) ?_
                  rintro r32 _ ⟨V32, rfl, k32, e32, m32⟩
                  refine g_iret rfl ?_
                  have es : measM S 0 1 ((-1)) a b c (m_q6_O S a b c) = keepGO S (m_q6_O S a b c) := by unfold measM; rw [if_pos (by unfold isV; omega)]
                  rw [es]
                  have eo : m_q6_O S a b c = some ((m_dot_S (tpR S a) (tpR S b)) * (m_dot_S (tpR S a) (tpR S b)), (((tpR S a).2.2.1) * ((tpR S a).2.2.1)) * ((((tpR S b).1) * ((tpR S b).1)) + (((tpR S b).2.1) * ((tpR S b).2.1)))) := by unfold m_q6_O; exact if_neg (by omega)
                  rw [eo]
                  exact ⟨_, rfl, (Gs.kq (G_31.wide (T2 := fun q => o + 24 ≤ q ∧ q ≤ o + 31) (fun q hq => by have hq : q = o + 24 ∨ q = o + 25 ∨ q = o + 26 := hq; show o + 24 ≤ q ∧ q ≤ o + 31; omega)) k32 (fun q hq => hq.elim)).fq (fun q hq => hq) eV0, e32, m32⟩
                · skip
                  refine g_iconst rfl ?_
                  refine g_goto rfl ?_
                  refine g_istore (l1 := [(6, aI 1), (5, aI 1), (0, aO (some o)), (1, aI 6), (2, aI a), (3, aI b), (4, aI c)]) rfl rfl ?_
                  refine g_iload rfl rfl ?_
                  refine g_if_eq_f rfl (by omega) ?_
                  refine g_bipush rfl ?_
                  refine g_iret rfl ?_
                  have es : measM S 0 1 ((-1)) a b c (m_q6_O S a b c) = keepGO S (m_q6_O S a b c) := by unfold measM; rw [if_pos (by unfold isV; omega)]
                  rw [es]
                  have eo : m_q6_O S a b c = none := by unfold m_q6_O; exact if_pos (by omega)
                  rw [eo]
                  exact ⟨V0, rfl, (KQ.of (G0.wide (T2 := fun q => o + 24 ≤ q ∧ q ≤ o + 31) (fun q hq => by have hq : q = o + 24 ∨ q = o + 25 ∨ q = o + 26 := hq; show o + 24 ≤ q ∧ q ≤ o + 31; omega))).fq (fun q hq => hq) eV0, rfl, mn⟩
