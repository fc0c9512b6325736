/-! the reference's face three, kind by kind: printed by wip/whole/ee.py -/
def threeM (S : aS) (s a b c : Int) (O : Option T4) : Int × aS := if isS S a 0 ∧ isS S b 0 ∧ isS S c 0 then keepM S s (if sTp S a.toNat 2 = 0 ∨ sTp S b.toNat 2 = 0 ∨ sTp S c.toNat 2 = 0 then none else O) else (-1, S)
theorem three_no {S : aS} {s a b c : Int} {O : Option T4} (h : ¬(((0 ≤ a ∧ a < sT S) ∧ sTs S a.toNat = 0) ∧ ((0 ≤ b ∧ b < sT S) ∧ sTs S b.toNat = 0) ∧ ((0 ≤ c ∧ c < sT S) ∧ sTs S c.toNat = 0))) : threeM S s a b c O = (-1, S) := by unfold threeM; rw [if_neg (by unfold isS; exact h)]
theorem three_far {S : aS} {s a b c : Int} {O : Option T4} (h : ((0 ≤ a ∧ a < sT S) ∧ sTs S a.toNat = 0) ∧ ((0 ≤ b ∧ b < sT S) ∧ sTs S b.toNat = 0) ∧ ((0 ≤ c ∧ c < sT S) ∧ sTs S c.toNat = 0)) (h2 : sTp S a.toNat 2 = 0 ∨ sTp S b.toNat 2 = 0 ∨ sTp S c.toNat 2 = 0) : threeM S s a b c O = (-3, S) := by
  unfold threeM
  rw [if_pos (by unfold isS; exact h), if_pos h2]
  rfl
theorem three_yes {S : aS} {s a b c : Int} {O : Option T4} (h : ((0 ≤ a ∧ a < sT S) ∧ sTs S a.toNat = 0) ∧ ((0 ≤ b ∧ b < sT S) ∧ sTs S b.toNat = 0) ∧ ((0 ≤ c ∧ c < sT S) ∧ sTs S c.toNat = 0)) (h2 : ¬(sTp S a.toNat 2 = 0 ∨ sTp S b.toNat 2 = 0 ∨ sTp S c.toNat 2 = 0)) : threeM S s a b c O = keepM S s O := by
  unfold threeM
  rw [if_pos (by unfold isS; exact h), if_neg h2]
def m_t0_O (S : aS) (a b c : Int) : Option T4 := m_thru_O (tpR S a) (tpR S b) (tpR S c)
set_option maxRecDepth 100000 in
set_option maxHeartbeats 4000000 in
theorem m_three0 {w : aW} {d : Nat} (hd : 10 ≤ d) {h : aH} {o : Nat} (ms : MS h o) (V : Nat → Nat → Int) {S : aS} (ok : OkT S) (mt : MT V o S) (a b c : Int) : WP w d 312 [aO (some o), aI 0, aI a, aI b, aI c] (hw h V) (RI (fun r h1 => ∃ V1, h1 = hw h V1 ∧ FR V V1 o ∧ r = (threeM S 2 a b c (m_t0_O S a b c)).1 ∧ MT V1 o (threeM S 2 a b c (m_t0_O S a b c)).2)) := by
  obtain ⟨d, rfl⟩ : ∃ d1, d = d1 + 1 := ⟨d - 1, by omega⟩
  refine WP.enter (cd := cd_X12_three) rfl ?_
  have hn := ok.1
  have hls : largs 0 [aO (some o), aI 0, aI a, aI b, aI c] = [(0, aO (some o)), (1, aI 0), (2, aI a), (3, aI b), (4, aI c)] := rfl
  rw [hls]
  clear hls
  refine g_aload_n rfl rfl ?_
  refine g_iconst rfl ?_
  refine g_putI rfl ms.1 ?_
  refine g_hp (h2 := hw h (vset V o 31 0)) rfl ?_
  refine g_aload_n rfl rfl ?_
  refine g_iconst rfl ?_
  refine g_putI rfl ms.1 ?_
  obtain ⟨V0, eV0⟩ : ∃ W, W = vset (vset V o 31 0) o 1 0 := ⟨_, rfl⟩
  refine g_hp (h2 := hw h V0) (by rw [eV0]; rfl) ?_
  have mt : MT V0 o S := by rw [eV0]; exact mt.rs
  have f0 : V0 o 1 = 0 := by rw [eV0]; exact vset_eq _ _ _ _
  have G0 := Gs.refl V0 o (fun q => q = o + 24 ∨ q = o + 25 ∨ q = o + 26 ∨ q = o + 29)
  refine g_iload_n rfl rfl ?_
  refine g_i2l rfl ?_
  refine g_lconst0 rfl ?_
  refine g_ldc2 rfl ?_
  refine g_callSI [aJ 0, aJ 0, aJ 8] [] rfl rfl rfl rfl (Nat.le_of_ble_eq_true rfl) (c_in (by omega) _ _ _ _) ?_
  rintro r1 _ ⟨rfl, rfl⟩
  refine g_b_eq rfl (fun c19 => ?_) (fun c19 => ?_)
  · skip
    refine g_iconst rfl ?_
    refine g_istore (l1 := [(5, aI 0), (0, aO (some o)), (1, aI 0), (2, aI a), (3, aI b), (4, aI c)]) rfl rfl ?_
    refine g_iload rfl rfl ?_
    refine g_if_eq_t rfl (by omega) ?_
    refine g_iconst rfl ?_
    refine g_istore (l1 := [(5, aI 0), (0, aO (some o)), (1, aI 0), (2, aI a), (3, aI b), (4, aI c)]) rfl rfl ?_
    refine g_iload rfl rfl ?_
    refine g_if_ne_f rfl (by omega) ?_
    refine g_iconst rfl ?_
    refine g_iret rfl ?_
    rw [three_no (by omega)]
    exact ⟨V0, rfl, (KM.of (G0.wide (T2 := fun q => o + 24 ≤ q ∧ q ≤ o + 31) (fun q hq => by have hq : q = o + 24 ∨ q = o + 25 ∨ q = o + 26 ∨ q = o + 29 := hq; show o + 24 ≤ q ∧ q ≤ o + 31; omega))).fr (fun q hq => hq) eV0, rfl, mt⟩
  · skip
    refine g_aload_n rfl rfl ?_
    refine g_iload_n rfl rfl ?_
    refine g_iconst rfl ?_
    refine g_callVI [aI a, aI 0] [] rfl rfl rfl rfl (Nat.le_of_ble_eq_true rfl) ms.1 (m_is (by omega) ms V0 ok mt a 0) ?_
    rintro r2 _ ⟨rfl, e3⟩
    rw [e3]
    clear e3 r2
    refine g_b_eq rfl (fun c28 => ?_) (fun c28 => ?_)
    · skip
      refine g_iconst rfl ?_
      refine g_istore (l1 := [(5, aI 0), (0, aO (some o)), (1, aI 0), (2, aI a), (3, aI b), (4, aI c)]) rfl rfl ?_
      refine g_iload rfl rfl ?_
      refine g_if_eq_t rfl (by omega) ?_
      refine g_iconst rfl ?_
      refine g_istore (l1 := [(5, aI 0), (0, aO (some o)), (1, aI 0), (2, aI a), (3, aI b), (4, aI c)]) rfl rfl ?_
      refine g_iload rfl rfl ?_
      refine g_if_ne_f rfl (by omega) ?_
      refine g_iconst rfl ?_
      refine g_iret rfl ?_
      rw [three_no (by omega)]
      exact ⟨V0, rfl, (KM.of (G0.wide (T2 := fun q => o + 24 ≤ q ∧ q ≤ o + 31) (fun q hq => by have hq : q = o + 24 ∨ q = o + 25 ∨ q = o + 26 ∨ q = o + 29 := hq; show o + 24 ≤ q ∧ q ≤ o + 31; omega))).fr (fun q hq => hq) eV0, rfl, mt⟩
    · skip
      refine g_aload_n rfl rfl ?_
      refine g_iload rfl rfl ?_
      refine g_iconst rfl ?_
      refine g_callVI [aI c, aI 0] [] rfl rfl rfl rfl (Nat.le_of_ble_eq_true rfl) ms.1 (m_is (by omega) ms V0 ok mt c 0) ?_
      rintro r4 _ ⟨rfl, e5⟩
      rw [e5]
      clear e5 r4
      refine g_b_eq rfl (fun c38 => ?_) (fun c38 => ?_)
      · skip
        refine g_iconst rfl ?_
        refine g_istore (l1 := [(5, aI 0), (0, aO (some o)), (1, aI 0), (2, aI a), (3, aI b), (4, aI c)]) rfl rfl ?_
        refine g_iload rfl rfl ?_
        refine g_if_eq_t rfl (by omega) ?_
        refine g_iconst rfl ?_
        refine g_istore (l1 := [(5, aI 0), (0, aO (some o)), (1, aI 0), (2, aI a), (3, aI b), (4, aI c)]) rfl rfl ?_
        refine g_iload rfl rfl ?_
        refine g_if_ne_f rfl (by omega) ?_
        refine g_iconst rfl ?_
        refine g_iret rfl ?_
        rw [three_no (by omega)]
        exact ⟨V0, rfl, (KM.of (G0.wide (T2 := fun q => o + 24 ≤ q ∧ q ≤ o + 31) (fun q hq => by have hq : q = o + 24 ∨ q = o + 25 ∨ q = o + 26 ∨ q = o + 29 := hq; show o + 24 ≤ q ∧ q ≤ o + 31; omega))).fr (fun q hq => hq) eV0, rfl, mt⟩
      · skip
        refine g_iconst rfl ?_
        refine g_goto rfl ?_
        refine g_istore (l1 := [(5, aI 1), (0, aO (some o)), (1, aI 0), (2, aI a), (3, aI b), (4, aI c)]) rfl rfl ?_
        refine g_iload rfl rfl ?_
        refine g_if_eq_f rfl (by omega) ?_
        refine g_iload_n rfl rfl ?_
        refine g_bipush rfl ?_
        refine g_icmp_ge_f rfl (by omega) ?_
        refine g_aload_n rfl rfl ?_
        refine g_iload_n rfl rfl ?_
        refine g_iconst rfl ?_
        refine g_callVI [aI b, aI 0] [] rfl rfl rfl rfl (Nat.le_of_ble_eq_true rfl) ms.1 (m_is (by omega) ms V0 ok mt b 0) ?_
        rintro r6 _ ⟨rfl, e7⟩
        rw [e7]
        clear e7 r6
        refine g_b_eq rfl (fun c65 => ?_) (fun c65 => ?_)
        · skip
          refine g_iconst rfl ?_
          refine g_istore (l1 := [(5, aI 0), (0, aO (some o)), (1, aI 0), (2, aI a), (3, aI b), (4, aI c)]) rfl rfl ?_
          refine g_iload rfl rfl ?_
          refine g_if_ne_f rfl (by omega) ?_
          refine g_iconst rfl ?_
          refine g_iret rfl ?_
          rw [three_no (by omega)]
          exact ⟨V0, rfl, (KM.of (G0.wide (T2 := fun q => o + 24 ≤ q ∧ q ≤ o + 31) (fun q hq => by have hq : q = o + 24 ∨ q = o + 25 ∨ q = o + 26 ∨ q = o + 29 := hq; show o + 24 ≤ q ∧ q ≤ o + 31; omega))).fr (fun q hq => hq) eV0, rfl, mt⟩
        · skip
          refine g_goto rfl ?_
          refine g_iconst rfl ?_
          refine g_goto rfl ?_
          refine g_istore (l1 := [(5, aI 1), (0, aO (some o)), (1, aI 0), (2, aI a), (3, aI b), (4, aI c)]) rfl rfl ?_
          refine g_iload rfl rfl ?_
          refine g_if_ne_t rfl (by omega) ?_
          have ha : 0 ≤ a ∧ a < sT S := by omega
          have hb : 0 ≤ b ∧ b < sT S := by omega
          have hc : 0 ≤ c ∧ c < sT S := by omega
          refine g_aload_n rfl rfl ?_
          refine g_iload_n rfl rfl ?_
          refine g_callVI [aI a] [] rfl rfl rfl rfl (Nat.le_of_ble_eq_true rfl) ms.1 (m_isFar (by omega) ms V0 ok mt a ha) ?_
          rintro r8 _ ⟨rfl, e9⟩
          rw [e9]
          clear e9 r8
          refine g_b_ne rfl (fun c115 => ?_) (fun c115 => ?_)
          · skip
            refine g_bipush rfl ?_
            refine g_iret rfl ?_
            rw [three_far (by omega) (by omega)]
            exact ⟨V0, rfl, (KM.of (G0.wide (T2 := fun q => o + 24 ≤ q ∧ q ≤ o + 31) (fun q hq => by have hq : q = o + 24 ∨ q = o + 25 ∨ q = o + 26 ∨ q = o + 29 := hq; show o + 24 ≤ q ∧ q ≤ o + 31; omega))).fr (fun q hq => hq) eV0, rfl, mt⟩
          · skip
            refine g_aload_n rfl rfl ?_
            refine g_iload rfl rfl ?_
            refine g_callVI [aI c] [] rfl rfl rfl rfl (Nat.le_of_ble_eq_true rfl) ms.1 (m_isFar (by omega) ms V0 ok mt c hc) ?_
            rintro r10 _ ⟨rfl, e11⟩
            rw [e11]
            clear e11 r10
            refine g_b_ne rfl (fun c124 => ?_) (fun c124 => ?_)
            · skip
              refine g_bipush rfl ?_
              refine g_iret rfl ?_
              rw [three_far (by omega) (by omega)]
              exact ⟨V0, rfl, (KM.of (G0.wide (T2 := fun q => o + 24 ≤ q ∧ q ≤ o + 31) (fun q hq => by have hq : q = o + 24 ∨ q = o + 25 ∨ q = o + 26 ∨ q = o + 29 := hq; show o + 24 ≤ q ∧ q ≤ o + 31; omega))).fr (fun q hq => hq) eV0, rfl, mt⟩
            · skip
              refine g_iload_n rfl rfl ?_
              refine g_bipush rfl ?_
              refine g_icmp_ge_f rfl (by omega) ?_
              refine g_aload_n rfl rfl ?_
              refine g_iload_n rfl rfl ?_
              refine g_callVI [aI b] [] rfl rfl rfl rfl (Nat.le_of_ble_eq_true rfl) ms.1 (m_isFar (by omega) ms V0 ok mt b hb) ?_
              rintro r12 _ ⟨rfl, e13⟩
              rw [e13]
              clear e13 r12
              refine g_b_eq rfl (fun c138 => ?_) (fun c138 => ?_)
              · skip
                refine g_aload_n rfl rfl ?_
                refine g_aload_n rfl rfl ?_
                refine g_getR rfl ms.1 (mr_one ms) ?_
                refine g_iload_n rfl rfl ?_
                refine g_callVN [aO (some (o + 24)), aI a] [] rfl rfl rfl rfl (Nat.le_of_ble_eq_true rfl) ms.1 (m_load (by omega) ms V0 ok mt (by have := G0.2.2.1; omega) ((o + 24)) (show SLa o ((o + 24)) by unfold SLa; omega) a ha) ?_
                rintro _ ⟨V14, rfl, g14, t14, u14, v14, y14, s14, xt14, xu14, xv14, xy14⟩
                have G_15 := G0.trans (g14.wide (fun q hq => by have hq : q = o + 24 := hq; show q = o + 24 ∨ q = o + 25 ∨ q = o + 26 ∨ q = o + 29; omega))
                refine g_aload_n rfl rfl ?_
                refine g_aload_n rfl rfl ?_
                refine g_getR rfl ms.1 (mr_three ms) ?_
                refine g_iload rfl rfl ?_
                refine g_callVN [aO (some (o + 26)), aI c] [] rfl rfl rfl rfl (Nat.le_of_ble_eq_true rfl) ms.1 (m_load (by omega) ms V14 ok (g14.mt (show ¬((o + 4) = o + 24) by omega) (show ¬((o + 5) = o + 24) by omega) mt) (by have := G_15.2.2.1; omega) ((o + 26)) (show SLa o ((o + 26)) by unfold SLa; omega) c hc) ?_
                rintro _ ⟨V16, rfl, g16, t16, u16, v16, y16, s16, xt16, xu16, xv16, xy16⟩
                have G_17 := G_15.trans (g16.wide (fun q hq => by have hq : q = o + 26 := hq; show q = o + 24 ∨ q = o + 25 ∨ q = o + 26 ∨ q = o + 29; omega))
                refine g_iload_n rfl rfl ?_
                refine g_bipush rfl ?_
                refine g_icmp_ge_f rfl (by omega) ?_
                refine g_aload_n rfl rfl ?_
                refine g_aload_n rfl rfl ?_
                refine g_getR rfl ms.1 (mr_two ms) ?_
                refine g_iload_n rfl rfl ?_
                refine g_callVN [aO (some (o + 25)), aI b] [] rfl rfl rfl rfl (Nat.le_of_ble_eq_true rfl) ms.1 (m_load (by omega) ms V16 ok (g16.mt (show ¬((o + 4) = o + 26) by omega) (show ¬((o + 5) = o + 26) by omega) (g14.mt (show ¬((o + 4) = o + 24) by omega) (show ¬((o + 5) = o + 24) by omega) mt)) (by have := G_17.2.2.1; omega) ((o + 25)) (show SLa o ((o + 25)) by unfold SLa; omega) b hb) ?_
                rintro _ ⟨V18, rfl, g18, t18, u18, v18, y18, s18, xt18, xu18, xv18, xy18⟩
                have G_19 := G_17.trans (g18.wide (fun q hq => by have hq : q = o + 25 := hq; show q = o + 24 ∨ q = o + 25 ∨ q = o + 26 ∨ q = o + 29; omega))
                refine g_iload_n rfl rfl ?_
                refine g_tsw (t := 224) rfl (by rfl) ?_
                refine g_aload_n rfl rfl ?_
                refine g_aload_n rfl rfl ?_
                refine g_getR rfl ms.1 (mr_one ms) ?_
                refine g_aload_n rfl rfl ?_
                refine g_getR rfl ms.1 (mr_two ms) ?_
                refine g_aload_n rfl rfl ?_
                refine g_getR rfl ms.1 (mr_three ms) ?_
                refine g_aload_n rfl rfl ?_
                refine g_getR rfl ms.1 (mr_got ms) ?_
                refine g_callVI [aO (some (o + 24)), aO (some (o + 25)), aO (some (o + 26)), aO (some (o + 29))] [] rfl rfl rfl rfl (Nat.le_of_ble_eq_true rfl) ms.1 (m_thru (by omega) ms V18 (by have := G_19.2.2.1; omega) ((o + 24)) (show SLa o ((o + 24)) by unfold SLa; omega) (show SB V18 o (o + 24) (tpR S a) (20) from ⟨_, _, _, _, (g18.sa (show SLa o ((o + 24)) by unfold SLa; omega) (show ¬(o + 24 = o + 25) by omega) (g16.sa (show SLa o ((o + 24)) by unfold SLa; omega) (show ¬(o + 24 = o + 26) by omega) s14)), ((g18.rb (g16.rb xt14)).up (by omega)), ((g18.rb (g16.rb xu14)).up (by omega)), ((g18.rb (g16.rb xv14)).up (by omega)), ((g18.rb (g16.rb xy14)).up (by omega))⟩) ((o + 25)) (show SLa o ((o + 25)) by unfold SLa; omega) (show SB V18 o (o + 25) (tpR S b) (20) from ⟨_, _, _, _, s18, (xt18.up (by omega)), (xu18.up (by omega)), (xv18.up (by omega)), (xy18.up (by omega))⟩) ((o + 26)) (show SLa o ((o + 26)) by unfold SLa; omega) (show SB V18 o (o + 26) (tpR S c) (20) from ⟨_, _, _, _, (g18.sa (show SLa o ((o + 26)) by unfold SLa; omega) (show ¬(o + 26 = o + 25) by omega) s16), ((g18.rb xt16).up (by omega)), ((g18.rb xu16).up (by omega)), ((g18.rb xv16).up (by omega)), ((g18.rb xy16).up (by omega))⟩) ((o + 29)) (show SLa o ((o + 29)) by unfold SLa; omega) (by omega)) ?_
                rintro r20 _ ⟨V20, rfl, g20, q20⟩
                have G_21 := G_19.trans (g20.wide (fun q hq => by have hq : q = o + 29 := hq; show q = o + 24 ∨ q = o + 25 ∨ q = o + 26 ∨ q = o + 29; omega))
                cases eS20 : m_thru_O (tpR S a) (tpR S b) (tpR S c) with
                | none =>
                  rw [eS20] at q20
                  obtain rfl : r20 = 0 := q20
                  refine g_if_eq_t rfl (by omega) ?_
                  refine g_bipush rfl ?_
                  refine g_iret rfl ?_
                  rw [three_yes (by omega) (by omega)]
                  have eo : m_t0_O S a b c = none := by unfold m_t0_O; exact eS20
                  rw [eo]
                  exact ⟨_, rfl, (KM.of (G_21.wide (T2 := fun q => o + 24 ≤ q ∧ q ≤ o + 31) (fun q hq => by have hq : q = o + 24 ∨ q = o + 25 ∨ q = o + 26 ∨ q = o + 29 := hq; show o + 24 ≤ q ∧ q ≤ o + 31; omega))).fr (fun q hq => hq) eV0, rfl, (g20.mt (show ¬((o + 4) = o + 29) by omega) (show ¬((o + 5) = o + 29) by omega) (g18.mt (show ¬((o + 4) = o + 25) by omega) (show ¬((o + 5) = o + 25) by omega) (g16.mt (show ¬((o + 4) = o + 26) by omega) (show ¬((o + 5) = o + 26) by omega) (g14.mt (show ¬((o + 4) = o + 24) by omega) (show ¬((o + 5) = o + 24) by omega) mt))))⟩
                | some P20 =>
                  rw [eS20] at q20
                  obtain ⟨rfl, t20, u20, v20, y20, s20, xt20, xu20, xv20, xy20⟩ := q20
                  refine g_if_eq_f rfl (by omega) ?_
                  refine g_aload_n rfl rfl ?_
                  refine g_aload_n rfl rfl ?_
                  refine g_getR rfl ms.1 (mr_got ms) ?_
                  refine g_iconst rfl ?_
                  refine g_callVI [aO (some (o + 29)), aI 2] [] rfl rfl rfl rfl (Nat.le_of_ble_eq_true rfl) ms.1 (m_keepT2 (by omega) ms V20 ok (g20.mt (show ¬((o + 4) = o + 29) by omega) (show ¬((o + 5) = o + 29) by omega) (g18.mt (show ¬((o + 4) = o + 25) by omega) (show ¬((o + 5) = o + 25) by omega) (g16.mt (show ¬((o + 4) = o + 26) by omega) (show ¬((o + 5) = o + 26) by omega) (g14.mt (show ¬((o + 4) = o + 24) by omega) (show ¬((o + 5) = o + 24) by omega) mt)))) (by have := G_21.2.2.1; omega) ((o + 29)) (show SLa o ((o + 29)) by unfold SLa; omega) (show SB V20 o (o + 29) P20 (126) from ⟨_, _, _, _, s20, (xt20.up (by omega)), (xu20.up (by omega)), (xv20.up (by omega)), (xy20.up (by omega))⟩) (by omega)) ?_
                  rintro r22 _ ⟨V22, rfl, k22, e22, m22⟩
                  refine g_goto rfl ?_
                  refine g_iret rfl ?_
                  rw [three_yes (by omega) (by omega)]
                  have eo : m_t0_O S a b c = some (P20) := by unfold m_t0_O; exact eS20
                  rw [eo]
                  exact ⟨_, rfl, (Gs.km (G_21.wide (T2 := fun q => o + 24 ≤ q ∧ q ≤ o + 31) (fun q hq => by have hq : q = o + 24 ∨ q = o + 25 ∨ q = o + 26 ∨ q = o + 29 := hq; show o + 24 ≤ q ∧ q ≤ o + 31; omega)) k22 (fun q hq => by have hq : q = o + 29 := hq; omega)).fr (fun q hq => hq) eV0, e22, m22⟩
              · skip
                refine g_bipush rfl ?_
                refine g_iret rfl ?_
                rw [three_far (by omega) (by omega)]
                exact ⟨V0, rfl, (KM.of (G0.wide (T2 := fun q => o + 24 ≤ q ∧ q ≤ o + 31) (fun q hq => by have hq : q = o + 24 ∨ q = o + 25 ∨ q = o + 26 ∨ q = o + 29 := hq; show o + 24 ≤ q ∧ q ≤ o + 31; omega))).fr (fun q hq => hq) eV0, rfl, mt⟩
def m_t1_O (S : aS) (a b c : Int) : Option T4 := some ((((tpR S a).1 * ((tpR S b).2.2.1 * (tpR S c).2.2.1)) + ((tpR S b).1 * ((tpR S a).2.2.1 * (tpR S c).2.2.1))) + ((tpR S c).1 * ((tpR S a).2.2.1 * (tpR S b).2.2.1)), (((tpR S a).2.1 * ((tpR S b).2.2.1 * (tpR S c).2.2.1)) + ((tpR S b).2.1 * ((tpR S a).2.2.1 * (tpR S c).2.2.1))) + ((tpR S c).2.1 * ((tpR S a).2.2.1 * (tpR S b).2.2.1)), 3 * (tpR S a).2.2.1 * ((tpR S b).2.2.1 * (tpR S c).2.2.1), 0)
set_option maxRecDepth 100000 in
set_option maxHeartbeats 4000000 in
theorem m_three1 {w : aW} {d : Nat} (hd : 10 ≤ d) {h : aH} {o : Nat} (ms : MS h o) (V : Nat → Nat → Int) {S : aS} (ok : OkT S) (mt : MT V o S) (a b c : Int) : WP w d 312 [aO (some o), aI 1, aI a, aI b, aI c] (hw h V) (RI (fun r h1 => ∃ V1, h1 = hw h V1 ∧ FR V V1 o ∧ r = (threeM S 0 a b c (m_t1_O S a b c)).1 ∧ MT V1 o (threeM S 0 a b c (m_t1_O S a b c)).2)) := by
  obtain ⟨d, rfl⟩ : ∃ d1, d = d1 + 1 := ⟨d - 1, by omega⟩
  refine WP.enter (cd := cd_X12_three) rfl ?_
  have hn := ok.1
  have hls : largs 0 [aO (some o), aI 1, aI a, aI b, aI c] = [(0, aO (some o)), (1, aI 1), (2, aI a), (3, aI b), (4, aI c)] := rfl
  rw [hls]
  clear hls
  refine g_aload_n rfl rfl ?_
  refine g_iconst rfl ?_
  refine g_putI rfl ms.1 ?_
  refine g_hp (h2 := hw h (vset V o 31 0)) rfl ?_
  refine g_aload_n rfl rfl ?_
  refine g_iconst rfl ?_
  refine g_putI rfl ms.1 ?_
  obtain ⟨V0, eV0⟩ : ∃ W, W = vset (vset V o 31 0) o 1 0 := ⟨_, rfl⟩
  refine g_hp (h2 := hw h V0) (by rw [eV0]; rfl) ?_
  have mt : MT V0 o S := by rw [eV0]; exact mt.rs
  have f0 : V0 o 1 = 0 := by rw [eV0]; exact vset_eq _ _ _ _
  have G0 := Gs.refl V0 o (fun q => q = o + 24 ∨ q = o + 25 ∨ q = o + 26 ∨ q = o + 29)
  refine g_iload_n rfl rfl ?_
  refine g_i2l rfl ?_
  refine g_lconst0 rfl ?_
  refine g_ldc2 rfl ?_
  refine g_callSI [aJ 1, aJ 0, aJ 8] [] rfl rfl rfl rfl (Nat.le_of_ble_eq_true rfl) (c_in (by omega) _ _ _ _) ?_
  rintro r1 _ ⟨rfl, rfl⟩
  refine g_b_eq rfl (fun c19 => ?_) (fun c19 => ?_)
  · skip
    refine g_iconst rfl ?_
    refine g_istore (l1 := [(5, aI 0), (0, aO (some o)), (1, aI 1), (2, aI a), (3, aI b), (4, aI c)]) rfl rfl ?_
    refine g_iload rfl rfl ?_
    refine g_if_eq_t rfl (by omega) ?_
    refine g_iconst rfl ?_
    refine g_istore (l1 := [(5, aI 0), (0, aO (some o)), (1, aI 1), (2, aI a), (3, aI b), (4, aI c)]) rfl rfl ?_
    refine g_iload rfl rfl ?_
    refine g_if_ne_f rfl (by omega) ?_
    refine g_iconst rfl ?_
    refine g_iret rfl ?_
    rw [three_no (by omega)]
    exact ⟨V0, rfl, (KM.of (G0.wide (T2 := fun q => o + 24 ≤ q ∧ q ≤ o + 31) (fun q hq => by have hq : q = o + 24 ∨ q = o + 25 ∨ q = o + 26 ∨ q = o + 29 := hq; show o + 24 ≤ q ∧ q ≤ o + 31; omega))).fr (fun q hq => hq) eV0, rfl, mt⟩
  · skip
    refine g_aload_n rfl rfl ?_
    refine g_iload_n rfl rfl ?_
    refine g_iconst rfl ?_
    refine g_callVI [aI a, aI 0] [] rfl rfl rfl rfl (Nat.le_of_ble_eq_true rfl) ms.1 (m_is (by omega) ms V0 ok mt a 0) ?_
    rintro r2 _ ⟨rfl, e3⟩
    rw [e3]
    clear e3 r2
    refine g_b_eq rfl (fun c28 => ?_) (fun c28 => ?_)
    · skip
      refine g_iconst rfl ?_
      refine g_istore (l1 := [(5, aI 0), (0, aO (some o)), (1, aI 1), (2, aI a), (3, aI b), (4, aI c)]) rfl rfl ?_
      refine g_iload rfl rfl ?_
      refine g_if_eq_t rfl (by omega) ?_
      refine g_iconst rfl ?_
      refine g_istore (l1 := [(5, aI 0), (0, aO (some o)), (1, aI 1), (2, aI a), (3, aI b), (4, aI c)]) rfl rfl ?_
      refine g_iload rfl rfl ?_
      refine g_if_ne_f rfl (by omega) ?_
      refine g_iconst rfl ?_
      refine g_iret rfl ?_
      rw [three_no (by omega)]
      exact ⟨V0, rfl, (KM.of (G0.wide (T2 := fun q => o + 24 ≤ q ∧ q ≤ o + 31) (fun q hq => by have hq : q = o + 24 ∨ q = o + 25 ∨ q = o + 26 ∨ q = o + 29 := hq; show o + 24 ≤ q ∧ q ≤ o + 31; omega))).fr (fun q hq => hq) eV0, rfl, mt⟩
    · skip
      refine g_aload_n rfl rfl ?_
      refine g_iload rfl rfl ?_
      refine g_iconst rfl ?_
      refine g_callVI [aI c, aI 0] [] rfl rfl rfl rfl (Nat.le_of_ble_eq_true rfl) ms.1 (m_is (by omega) ms V0 ok mt c 0) ?_
      rintro r4 _ ⟨rfl, e5⟩
      rw [e5]
      clear e5 r4
      refine g_b_eq rfl (fun c38 => ?_) (fun c38 => ?_)
      · skip
        refine g_iconst rfl ?_
        refine g_istore (l1 := [(5, aI 0), (0, aO (some o)), (1, aI 1), (2, aI a), (3, aI b), (4, aI c)]) rfl rfl ?_
        refine g_iload rfl rfl ?_
        refine g_if_eq_t rfl (by omega) ?_
        refine g_iconst rfl ?_
        refine g_istore (l1 := [(5, aI 0), (0, aO (some o)), (1, aI 1), (2, aI a), (3, aI b), (4, aI c)]) rfl rfl ?_
        refine g_iload rfl rfl ?_
        refine g_if_ne_f rfl (by omega) ?_
        refine g_iconst rfl ?_
        refine g_iret rfl ?_
        rw [three_no (by omega)]
        exact ⟨V0, rfl, (KM.of (G0.wide (T2 := fun q => o + 24 ≤ q ∧ q ≤ o + 31) (fun q hq => by have hq : q = o + 24 ∨ q = o + 25 ∨ q = o + 26 ∨ q = o + 29 := hq; show o + 24 ≤ q ∧ q ≤ o + 31; omega))).fr (fun q hq => hq) eV0, rfl, mt⟩
      · skip
        refine g_iconst rfl ?_
        refine g_goto rfl ?_
        refine g_istore (l1 := [(5, aI 1), (0, aO (some o)), (1, aI 1), (2, aI a), (3, aI b), (4, aI c)]) rfl rfl ?_
        refine g_iload rfl rfl ?_
        refine g_if_eq_f rfl (by omega) ?_
        refine g_iload_n rfl rfl ?_
        refine g_bipush rfl ?_
        refine g_icmp_ge_f rfl (by omega) ?_
        refine g_aload_n rfl rfl ?_
        refine g_iload_n rfl rfl ?_
        refine g_iconst rfl ?_
        refine g_callVI [aI b, aI 0] [] rfl rfl rfl rfl (Nat.le_of_ble_eq_true rfl) ms.1 (m_is (by omega) ms V0 ok mt b 0) ?_
        rintro r6 _ ⟨rfl, e7⟩
        rw [e7]
        clear e7 r6
        refine g_b_eq rfl (fun c65 => ?_) (fun c65 => ?_)
        · skip
          refine g_iconst rfl ?_
          refine g_istore (l1 := [(5, aI 0), (0, aO (some o)), (1, aI 1), (2, aI a), (3, aI b), (4, aI c)]) rfl rfl ?_
          refine g_iload rfl rfl ?_
          refine g_if_ne_f rfl (by omega) ?_
          refine g_iconst rfl ?_
          refine g_iret rfl ?_
          rw [three_no (by omega)]
          exact ⟨V0, rfl, (KM.of (G0.wide (T2 := fun q => o + 24 ≤ q ∧ q ≤ o + 31) (fun q hq => by have hq : q = o + 24 ∨ q = o + 25 ∨ q = o + 26 ∨ q = o + 29 := hq; show o + 24 ≤ q ∧ q ≤ o + 31; omega))).fr (fun q hq => hq) eV0, rfl, mt⟩
        · skip
          refine g_goto rfl ?_
          refine g_iconst rfl ?_
          refine g_goto rfl ?_
          refine g_istore (l1 := [(5, aI 1), (0, aO (some o)), (1, aI 1), (2, aI a), (3, aI b), (4, aI c)]) rfl rfl ?_
          refine g_iload rfl rfl ?_
          refine g_if_ne_t rfl (by omega) ?_
          have ha : 0 ≤ a ∧ a < sT S := by omega
          have hb : 0 ≤ b ∧ b < sT S := by omega
          have hc : 0 ≤ c ∧ c < sT S := by omega
          refine g_aload_n rfl rfl ?_
          refine g_iload_n rfl rfl ?_
          refine g_callVI [aI a] [] rfl rfl rfl rfl (Nat.le_of_ble_eq_true rfl) ms.1 (m_isFar (by omega) ms V0 ok mt a ha) ?_
          rintro r8 _ ⟨rfl, e9⟩
          rw [e9]
          clear e9 r8
          refine g_b_ne rfl (fun c115 => ?_) (fun c115 => ?_)
          · skip
            refine g_bipush rfl ?_
            refine g_iret rfl ?_
            rw [three_far (by omega) (by omega)]
            exact ⟨V0, rfl, (KM.of (G0.wide (T2 := fun q => o + 24 ≤ q ∧ q ≤ o + 31) (fun q hq => by have hq : q = o + 24 ∨ q = o + 25 ∨ q = o + 26 ∨ q = o + 29 := hq; show o + 24 ≤ q ∧ q ≤ o + 31; omega))).fr (fun q hq => hq) eV0, rfl, mt⟩
          · skip
            refine g_aload_n rfl rfl ?_
            refine g_iload rfl rfl ?_
            refine g_callVI [aI c] [] rfl rfl rfl rfl (Nat.le_of_ble_eq_true rfl) ms.1 (m_isFar (by omega) ms V0 ok mt c hc) ?_
            rintro r10 _ ⟨rfl, e11⟩
            rw [e11]
            clear e11 r10
            refine g_b_ne rfl (fun c124 => ?_) (fun c124 => ?_)
            · skip
              refine g_bipush rfl ?_
              refine g_iret rfl ?_
              rw [three_far (by omega) (by omega)]
              exact ⟨V0, rfl, (KM.of (G0.wide (T2 := fun q => o + 24 ≤ q ∧ q ≤ o + 31) (fun q hq => by have hq : q = o + 24 ∨ q = o + 25 ∨ q = o + 26 ∨ q = o + 29 := hq; show o + 24 ≤ q ∧ q ≤ o + 31; omega))).fr (fun q hq => hq) eV0, rfl, mt⟩
            · skip
              refine g_iload_n rfl rfl ?_
              refine g_bipush rfl ?_
              refine g_icmp_ge_f rfl (by omega) ?_
              refine g_aload_n rfl rfl ?_
              refine g_iload_n rfl rfl ?_
              refine g_callVI [aI b] [] rfl rfl rfl rfl (Nat.le_of_ble_eq_true rfl) ms.1 (m_isFar (by omega) ms V0 ok mt b hb) ?_
              rintro r12 _ ⟨rfl, e13⟩
              rw [e13]
              clear e13 r12
              refine g_b_eq rfl (fun c138 => ?_) (fun c138 => ?_)
              · skip
                refine g_aload_n rfl rfl ?_
                refine g_aload_n rfl rfl ?_
                refine g_getR rfl ms.1 (mr_one ms) ?_
                refine g_iload_n rfl rfl ?_
                refine g_callVN [aO (some (o + 24)), aI a] [] rfl rfl rfl rfl (Nat.le_of_ble_eq_true rfl) ms.1 (m_load (by omega) ms V0 ok mt (by have := G0.2.2.1; omega) ((o + 24)) (show SLa o ((o + 24)) by unfold SLa; omega) a ha) ?_
                rintro _ ⟨V14, rfl, g14, t14, u14, v14, y14, s14, xt14, xu14, xv14, xy14⟩
                have G_15 := G0.trans (g14.wide (fun q hq => by have hq : q = o + 24 := hq; show q = o + 24 ∨ q = o + 25 ∨ q = o + 26 ∨ q = o + 29; omega))
                refine g_aload_n rfl rfl ?_
                refine g_aload_n rfl rfl ?_
                refine g_getR rfl ms.1 (mr_three ms) ?_
                refine g_iload rfl rfl ?_
                refine g_callVN [aO (some (o + 26)), aI c] [] rfl rfl rfl rfl (Nat.le_of_ble_eq_true rfl) ms.1 (m_load (by omega) ms V14 ok (g14.mt (show ¬((o + 4) = o + 24) by omega) (show ¬((o + 5) = o + 24) by omega) mt) (by have := G_15.2.2.1; omega) ((o + 26)) (show SLa o ((o + 26)) by unfold SLa; omega) c hc) ?_
                rintro _ ⟨V16, rfl, g16, t16, u16, v16, y16, s16, xt16, xu16, xv16, xy16⟩
                have G_17 := G_15.trans (g16.wide (fun q hq => by have hq : q = o + 26 := hq; show q = o + 24 ∨ q = o + 25 ∨ q = o + 26 ∨ q = o + 29; omega))
                refine g_iload_n rfl rfl ?_
                refine g_bipush rfl ?_
                refine g_icmp_ge_f rfl (by omega) ?_
                refine g_aload_n rfl rfl ?_
                refine g_aload_n rfl rfl ?_
                refine g_getR rfl ms.1 (mr_two ms) ?_
                refine g_iload_n rfl rfl ?_
                refine g_callVN [aO (some (o + 25)), aI b] [] rfl rfl rfl rfl (Nat.le_of_ble_eq_true rfl) ms.1 (m_load (by omega) ms V16 ok (g16.mt (show ¬((o + 4) = o + 26) by omega) (show ¬((o + 5) = o + 26) by omega) (g14.mt (show ¬((o + 4) = o + 24) by omega) (show ¬((o + 5) = o + 24) by omega) mt)) (by have := G_17.2.2.1; omega) ((o + 25)) (show SLa o ((o + 25)) by unfold SLa; omega) b hb) ?_
                rintro _ ⟨V18, rfl, g18, t18, u18, v18, y18, s18, xt18, xu18, xv18, xy18⟩
                have G_19 := G_17.trans (g18.wide (fun q hq => by have hq : q = o + 25 := hq; show q = o + 24 ∨ q = o + 25 ∨ q = o + 26 ∨ q = o + 29; omega))
                refine g_iload_n rfl rfl ?_
                refine g_tsw (t := 262) rfl (by rfl) ?_
                refine g_aload_n rfl rfl ?_
                refine g_aload_n rfl rfl ?_
                refine g_getR rfl ms.1 (mr_two ms) ?_
                refine g_iconst rfl ?_
                refine g_iald (i := 2) rfl (mt_two ms) (by omega) (by omega) ?_
                refine g_top (v2 := aI ((v18 : Int))) (congrArg aI (by exact s18.2.2.1)) ?_
                refine g_aload_n rfl rfl ?_
                refine g_getR rfl ms.1 (mr_three ms) ?_
                refine g_iconst rfl ?_
                refine g_iald (i := 2) rfl (mt_three ms) (by omega) (by omega) ?_
                refine g_top (v2 := aI ((v16 : Int))) (congrArg aI (by exact (g18.sa (show SLa o ((o + 26)) by unfold SLa; omega) (show ¬(o + 26 = o + 25) by omega) s16).2.2.1)) ?_
                refine g_callVI [aI ((v18 : Int)), aI ((v16 : Int))] [] rfl rfl rfl rfl (Nat.le_of_ble_eq_true rfl) ms.1 (r_mul (by omega) ms V18 (by have := G_19.2.2.1; omega) xv18 (g18.rb xv16) (by omega)) ?_
                rintro _ _ ⟨p20, rfl, V20, rfl, g20, xp20⟩
                have G_21 := G_19.trans (g20.gs _)
                refine g_istore (l1 := [(6, aI ((p20 : Int))), (5, aI 1), (0, aO (some o)), (1, aI 1), (2, aI a), (3, aI b), (4, aI c)]) rfl rfl ?_
                refine g_aload_n rfl rfl ?_
                refine g_aload_n rfl rfl ?_
                refine g_getR rfl ms.1 (mr_one ms) ?_
                refine g_iconst rfl ?_
                refine g_iald (i := 2) rfl (mt_one ms) (by omega) (by omega) ?_
                refine g_top (v2 := aI ((v14 : Int))) (congrArg aI (by exact (g20.sa (show SLa o ((o + 24)) by unfold SLa; omega) (g18.sa (show SLa o ((o + 24)) by unfold SLa; omega) (show ¬(o + 24 = o + 25) by omega) (g16.sa (show SLa o ((o + 24)) by unfold SLa; omega) (show ¬(o + 24 = o + 26) by omega) s14))).2.2.1)) ?_
                refine g_aload_n rfl rfl ?_
                refine g_getR rfl ms.1 (mr_three ms) ?_
                refine g_iconst rfl ?_
                refine g_iald (i := 2) rfl (mt_three ms) (by omega) (by omega) ?_
                refine g_top (v2 := aI ((v16 : Int))) (congrArg aI (by exact (g20.sa (show SLa o ((o + 26)) by unfold SLa; omega) (g18.sa (show SLa o ((o + 26)) by unfold SLa; omega) (show ¬(o + 26 = o + 25) by omega) s16)).2.2.1)) ?_
                refine g_callVI [aI ((v14 : Int)), aI ((v16 : Int))] [] rfl rfl rfl rfl (Nat.le_of_ble_eq_true rfl) ms.1 (r_mul (by omega) ms V20 (by have := G_21.2.2.1; omega) (g20.rb (g18.rb (g16.rb xv14))) (g20.rb (g18.rb xv16)) (by omega)) ?_
                rintro _ _ ⟨p22, rfl, V22, rfl, g22, xp22⟩
                have G_23 := G_21.trans (g22.gs _)
                refine g_istore (l1 := [(7, aI ((p22 : Int))), (6, aI ((p20 : Int))), (5, aI 1), (0, aO (some o)), (1, aI 1), (2, aI a), (3, aI b), (4, aI c)]) rfl rfl ?_
                refine g_aload_n rfl rfl ?_
                refine g_aload_n rfl rfl ?_
                refine g_getR rfl ms.1 (mr_one ms) ?_
                refine g_iconst rfl ?_
                refine g_iald (i := 2) rfl (mt_one ms) (by omega) (by omega) ?_
                refine g_top (v2 := aI ((v14 : Int))) (congrArg aI (by exact (g22.sa (show SLa o ((o + 24)) by unfold SLa; omega) (g20.sa (show SLa o ((o + 24)) by unfold SLa; omega) (g18.sa (show SLa o ((o + 24)) by unfold SLa; omega) (show ¬(o + 24 = o + 25) by omega) (g16.sa (show SLa o ((o + 24)) by unfold SLa; omega) (show ¬(o + 24 = o + 26) by omega) s14)))).2.2.1)) ?_
                refine g_aload_n rfl rfl ?_
                refine g_getR rfl ms.1 (mr_two ms) ?_
                refine g_iconst rfl ?_
                refine g_iald (i := 2) rfl (mt_two ms) (by omega) (by omega) ?_
                refine g_top (v2 := aI ((v18 : Int))) (congrArg aI (by exact (g22.sa (show SLa o ((o + 25)) by unfold SLa; omega) (g20.sa (show SLa o ((o + 25)) by unfold SLa; omega) s18)).2.2.1)) ?_
                refine g_callVI [aI ((v14 : Int)), aI ((v18 : Int))] [] rfl rfl rfl rfl (Nat.le_of_ble_eq_true rfl) ms.1 (r_mul (by omega) ms V22 (by have := G_23.2.2.1; omega) (g22.rb (g20.rb (g18.rb (g16.rb xv14)))) (g22.rb (g20.rb xv18)) (by omega)) ?_
                rintro _ _ ⟨p24, rfl, V24, rfl, g24, xp24⟩
                have G_25 := G_23.trans (g24.gs _)
                refine g_istore (l1 := [(8, aI ((p24 : Int))), (7, aI ((p22 : Int))), (6, aI ((p20 : Int))), (5, aI 1), (0, aO (some o)), (1, aI 1), (2, aI a), (3, aI b), (4, aI c)]) rfl rfl ?_
                refine g_aload_n rfl rfl ?_
                refine g_aload_n rfl rfl ?_
                refine g_aload_n rfl rfl ?_
                refine g_aload_n rfl rfl ?_
                refine g_getR rfl ms.1 (mr_one ms) ?_
                refine g_iconst rfl ?_
                refine g_iald (i := 0) rfl (mt_one ms) (by omega) (by omega) ?_
                refine g_top (v2 := aI ((t14 : Int))) (congrArg aI (by exact (g24.sa (show SLa o ((o + 24)) by unfold SLa; omega) (g22.sa (show SLa o ((o + 24)) by unfold SLa; omega) (g20.sa (show SLa o ((o + 24)) by unfold SLa; omega) (g18.sa (show SLa o ((o + 24)) by unfold SLa; omega) (show ¬(o + 24 = o + 25) by omega) (g16.sa (show SLa o ((o + 24)) by unfold SLa; omega) (show ¬(o + 24 = o + 26) by omega) s14))))).1)) ?_
                refine g_iload rfl rfl ?_
                refine g_callVI [aI ((t14 : Int)), aI ((p20 : Int))] [aO (some o), aO (some o)] rfl rfl rfl rfl (Nat.le_of_ble_eq_true rfl) ms.1 (r_mul (by omega) ms V24 (by have := G_25.2.2.1; omega) (g24.rb (g22.rb (g20.rb (g18.rb (g16.rb xt14))))) (g24.rb (g22.rb xp20)) (by omega)) ?_
                rintro _ _ ⟨p26, rfl, V26, rfl, g26, xp26⟩
                have G_27 := G_25.trans (g26.gs _)
                refine g_aload_n rfl rfl ?_
                refine g_aload_n rfl rfl ?_
                refine g_getR rfl ms.1 (mr_two ms) ?_
                refine g_iconst rfl ?_
                refine g_iald (i := 0) rfl (mt_two ms) (by omega) (by omega) ?_
                refine g_top (v2 := aI ((t18 : Int))) (congrArg aI (by exact (g26.sa (show SLa o ((o + 25)) by unfold SLa; omega) (g24.sa (show SLa o ((o + 25)) by unfold SLa; omega) (g22.sa (show SLa o ((o + 25)) by unfold SLa; omega) (g20.sa (show SLa o ((o + 25)) by unfold SLa; omega) s18)))).1)) ?_
                refine g_iload rfl rfl ?_
                refine g_callVI [aI ((t18 : Int)), aI ((p22 : Int))] [aI ((p26 : Int)), aO (some o), aO (some o)] rfl rfl rfl rfl (Nat.le_of_ble_eq_true rfl) ms.1 (r_mul (by omega) ms V26 (by have := G_27.2.2.1; omega) (g26.rb (g24.rb (g22.rb (g20.rb xt18)))) (g26.rb (g24.rb xp22)) (by omega)) ?_
                rintro _ _ ⟨p28, rfl, V28, rfl, g28, xp28⟩
                have G_29 := G_27.trans (g28.gs _)
                refine g_callVI [aI ((p26 : Int)), aI ((p28 : Int))] [aO (some o)] rfl rfl rfl rfl (Nat.le_of_ble_eq_true rfl) ms.1 (r_add (by omega) ms V28 (by have := G_29.2.2.1; omega) (g28.rb xp26) xp28 (61) (by omega) (by omega) (by omega)) ?_
                rintro _ _ ⟨p30, rfl, V30, rfl, g30, xp30⟩
                have G_31 := G_29.trans (g30.gs _)
                refine g_aload_n rfl rfl ?_
                refine g_aload_n rfl rfl ?_
                refine g_getR rfl ms.1 (mr_three ms) ?_
                refine g_iconst rfl ?_
                refine g_iald (i := 0) rfl (mt_three ms) (by omega) (by omega) ?_
                refine g_top (v2 := aI ((t16 : Int))) (congrArg aI (by exact (g30.sa (show SLa o ((o + 26)) by unfold SLa; omega) (g28.sa (show SLa o ((o + 26)) by unfold SLa; omega) (g26.sa (show SLa o ((o + 26)) by unfold SLa; omega) (g24.sa (show SLa o ((o + 26)) by unfold SLa; omega) (g22.sa (show SLa o ((o + 26)) by unfold SLa; omega) (g20.sa (show SLa o ((o + 26)) by unfold SLa; omega) (g18.sa (show SLa o ((o + 26)) by unfold SLa; omega) (show ¬(o + 26 = o + 25) by omega) s16))))))).1)) ?_
                refine g_iload rfl rfl ?_
                refine g_callVI [aI ((t16 : Int)), aI ((p24 : Int))] [aI ((p30 : Int)), aO (some o)] rfl rfl rfl rfl (Nat.le_of_ble_eq_true rfl) ms.1 (r_mul (by omega) ms V30 (by have := G_31.2.2.1; omega) (g30.rb (g28.rb (g26.rb (g24.rb (g22.rb (g20.rb (g18.rb xt16))))))) (g30.rb (g28.rb (g26.rb xp24))) (by omega)) ?_
                rintro _ _ ⟨p32, rfl, V32, rfl, g32, xp32⟩
                have G_33 := G_31.trans (g32.gs _)
                refine g_callVI [aI ((p30 : Int)), aI ((p32 : Int))] [] rfl rfl rfl rfl (Nat.le_of_ble_eq_true rfl) ms.1 (r_add (by omega) ms V32 (by have := G_33.2.2.1; omega) (g32.rb xp30) xp32 (62) (by omega) (by omega) (by omega)) ?_
                rintro _ _ ⟨p34, rfl, V34, rfl, g34, xp34⟩
                have G_35 := G_33.trans (g34.gs _)
                refine g_istore (l1 := [(9, aI ((p34 : Int))), (8, aI ((p24 : Int))), (7, aI ((p22 : Int))), (6, aI ((p20 : Int))), (5, aI 1), (0, aO (some o)), (1, aI 1), (2, aI a), (3, aI b), (4, aI c)]) rfl rfl ?_
                refine g_aload_n rfl rfl ?_
                refine g_aload_n rfl rfl ?_
                refine g_aload_n rfl rfl ?_
                refine g_aload_n rfl rfl ?_
                refine g_getR rfl ms.1 (mr_one ms) ?_
                refine g_iconst rfl ?_
                refine g_iald (i := 1) rfl (mt_one ms) (by omega) (by omega) ?_
                refine g_top (v2 := aI ((u14 : Int))) (congrArg aI (by exact (g34.sa (show SLa o ((o + 24)) by unfold SLa; omega) (g32.sa (show SLa o ((o + 24)) by unfold SLa; omega) (g30.sa (show SLa o ((o + 24)) by unfold SLa; omega) (g28.sa (show SLa o ((o + 24)) by unfold SLa; omega) (g26.sa (show SLa o ((o + 24)) by unfold SLa; omega) (g24.sa (show SLa o ((o + 24)) by unfold SLa; omega) (g22.sa (show SLa o ((o + 24)) by unfold SLa; omega) (g20.sa (show SLa o ((o + 24)) by unfold SLa; omega) (g18.sa (show SLa o ((o + 24)) by unfold SLa; omega) (show ¬(o + 24 = o + 25) by omega) (g16.sa (show SLa o ((o + 24)) by unfold SLa; omega) (show ¬(o + 24 = o + 26) by omega) s14)))))))))).2.1)) ?_
                refine g_iload rfl rfl ?_
                refine g_callVI [aI ((u14 : Int)), aI ((p20 : Int))] [aO (some o), aO (some o)] rfl rfl rfl rfl (Nat.le_of_ble_eq_true rfl) ms.1 (r_mul (by omega) ms V34 (by have := G_35.2.2.1; omega) (g34.rb (g32.rb (g30.rb (g28.rb (g26.rb (g24.rb (g22.rb (g20.rb (g18.rb (g16.rb xu14)))))))))) (g34.rb (g32.rb (g30.rb (g28.rb (g26.rb (g24.rb (g22.rb xp20))))))) (by omega)) ?_
                rintro _ _ ⟨p36, rfl, V36, rfl, g36, xp36⟩
                have G_37 := G_35.trans (g36.gs _)
                refine g_aload_n rfl rfl ?_
                refine g_aload_n rfl rfl ?_
                refine g_getR rfl ms.1 (mr_two ms) ?_
                refine g_iconst rfl ?_
                refine g_iald (i := 1) rfl (mt_two ms) (by omega) (by omega) ?_
                refine g_top (v2 := aI ((u18 : Int))) (congrArg aI (by exact (g36.sa (show SLa o ((o + 25)) by unfold SLa; omega) (g34.sa (show SLa o ((o + 25)) by unfold SLa; omega) (g32.sa (show SLa o ((o + 25)) by unfold SLa; omega) (g30.sa (show SLa o ((o + 25)) by unfold SLa; omega) (g28.sa (show SLa o ((o + 25)) by unfold SLa; omega) (g26.sa (show SLa o ((o + 25)) by unfold SLa; omega) (g24.sa (show SLa o ((o + 25)) by unfold SLa; omega) (g22.sa (show SLa o ((o + 25)) by unfold SLa; omega) (g20.sa (show SLa o ((o + 25)) by unfold SLa; omega) s18))))))))).2.1)) ?_
                refine g_iload rfl rfl ?_
                refine g_callVI [aI ((u18 : Int)), aI ((p22 : Int))] [aI ((p36 : Int)), aO (some o), aO (some o)] rfl rfl rfl rfl (Nat.le_of_ble_eq_true rfl) ms.1 (r_mul (by omega) ms V36 (by have := G_37.2.2.1; omega) (g36.rb (g34.rb (g32.rb (g30.rb (g28.rb (g26.rb (g24.rb (g22.rb (g20.rb xu18))))))))) (g36.rb (g34.rb (g32.rb (g30.rb (g28.rb (g26.rb (g24.rb xp22))))))) (by omega)) ?_
                rintro _ _ ⟨p38, rfl, V38, rfl, g38, xp38⟩
                have G_39 := G_37.trans (g38.gs _)
                refine g_callVI [aI ((p36 : Int)), aI ((p38 : Int))] [aO (some o)] rfl rfl rfl rfl (Nat.le_of_ble_eq_true rfl) ms.1 (r_add (by omega) ms V38 (by have := G_39.2.2.1; omega) (g38.rb xp36) xp38 (61) (by omega) (by omega) (by omega)) ?_
                rintro _ _ ⟨p40, rfl, V40, rfl, g40, xp40⟩
                have G_41 := G_39.trans (g40.gs _)
                refine g_aload_n rfl rfl ?_
                refine g_aload_n rfl rfl ?_
                refine g_getR rfl ms.1 (mr_three ms) ?_
                refine g_iconst rfl ?_
                refine g_iald (i := 1) rfl (mt_three ms) (by omega) (by omega) ?_
                refine g_top (v2 := aI ((u16 : Int))) (congrArg aI (by exact (g40.sa (show SLa o ((o + 26)) by unfold SLa; omega) (g38.sa (show SLa o ((o + 26)) by unfold SLa; omega) (g36.sa (show SLa o ((o + 26)) by unfold SLa; omega) (g34.sa (show SLa o ((o + 26)) by unfold SLa; omega) (g32.sa (show SLa o ((o + 26)) by unfold SLa; omega) (g30.sa (show SLa o ((o + 26)) by unfold SLa; omega) (g28.sa (show SLa o ((o + 26)) by unfold SLa; omega) (g26.sa (show SLa o ((o + 26)) by unfold SLa; omega) (g24.sa (show SLa o ((o + 26)) by unfold SLa; omega) (g22.sa (show SLa o ((o + 26)) by unfold SLa; omega) (g20.sa (show SLa o ((o + 26)) by unfold SLa; omega) (g18.sa (show SLa o ((o + 26)) by unfold SLa; omega) (show ¬(o + 26 = o + 25) by omega) s16)))))))))))).2.1)) ?_
                refine g_iload rfl rfl ?_
                refine g_callVI [aI ((u16 : Int)), aI ((p24 : Int))] [aI ((p40 : Int)), aO (some o)] rfl rfl rfl rfl (Nat.le_of_ble_eq_true rfl) ms.1 (r_mul (by omega) ms V40 (by have := G_41.2.2.1; omega) (g40.rb (g38.rb (g36.rb (g34.rb (g32.rb (g30.rb (g28.rb (g26.rb (g24.rb (g22.rb (g20.rb (g18.rb xu16)))))))))))) (g40.rb (g38.rb (g36.rb (g34.rb (g32.rb (g30.rb (g28.rb (g26.rb xp24)))))))) (by omega)) ?_
                rintro _ _ ⟨p42, rfl, V42, rfl, g42, xp42⟩
                have G_43 := G_41.trans (g42.gs _)
                refine g_callVI [aI ((p40 : Int)), aI ((p42 : Int))] [] rfl rfl rfl rfl (Nat.le_of_ble_eq_true rfl) ms.1 (r_add (by omega) ms V42 (by have := G_43.2.2.1; omega) (g42.rb xp40) xp42 (62) (by omega) (by omega) (by omega)) ?_
                rintro _ _ ⟨p44, rfl, V44, rfl, g44, xp44⟩
                have G_45 := G_43.trans (g44.gs _)
                refine g_istore (l1 := [(10, aI ((p44 : Int))), (9, aI ((p34 : Int))), (8, aI ((p24 : Int))), (7, aI ((p22 : Int))), (6, aI ((p20 : Int))), (5, aI 1), (0, aO (some o)), (1, aI 1), (2, aI a), (3, aI b), (4, aI c)]) rfl rfl ?_
                refine g_aload_n rfl rfl ?_
                refine g_aload_n rfl rfl ?_
                refine g_getR rfl ms.1 (mr_got ms) ?_
                refine g_iload rfl rfl ?_
                refine g_iload rfl rfl ?_
                refine g_aload_n rfl rfl ?_
                refine g_aload_n rfl rfl ?_
                refine g_ldc2 rfl ?_
                refine g_callVI [aJ 3] [aO (some o), aI ((p44 : Int)), aI ((p34 : Int)), aO (some (o + 29)), aO (some o)] rfl rfl rfl rfl (Nat.le_of_ble_eq_true rfl) ms.1 (r_num (by omega) ms V44 (by have := G_45.2.2.1; omega) 3 (by omega) 2 (by decide)) ?_
                rintro _ _ ⟨p46, rfl, V46, rfl, g46, xp46⟩
                have G_47 := G_45.trans (g46.gs _)
                refine g_aload_n rfl rfl ?_
                refine g_getR rfl ms.1 (mr_one ms) ?_
                refine g_iconst rfl ?_
                refine g_iald (i := 2) rfl (mt_one ms) (by omega) (by omega) ?_
                refine g_top (v2 := aI ((v14 : Int))) (congrArg aI (by exact (g46.sa (show SLa o ((o + 24)) by unfold SLa; omega) (g44.sa (show SLa o ((o + 24)) by unfold SLa; omega) (g42.sa (show SLa o ((o + 24)) by unfold SLa; omega) (g40.sa (show SLa o ((o + 24)) by unfold SLa; omega) (g38.sa (show SLa o ((o + 24)) by unfold SLa; omega) (g36.sa (show SLa o ((o + 24)) by unfold SLa; omega) (g34.sa (show SLa o ((o + 24)) by unfold SLa; omega) (g32.sa (show SLa o ((o + 24)) by unfold SLa; omega) (g30.sa (show SLa o ((o + 24)) by unfold SLa; omega) (g28.sa (show SLa o ((o + 24)) by unfold SLa; omega) (g26.sa (show SLa o ((o + 24)) by unfold SLa; omega) (g24.sa (show SLa o ((o + 24)) by unfold SLa; omega) (g22.sa (show SLa o ((o + 24)) by unfold SLa; omega) (g20.sa (show SLa o ((o + 24)) by unfold SLa; omega) (g18.sa (show SLa o ((o + 24)) by unfold SLa; omega) (show ¬(o + 24 = o + 25) by omega) (g16.sa (show SLa o ((o + 24)) by unfold SLa; omega) (show ¬(o + 24 = o + 26) by omega) s14)))))))))))))))).2.2.1)) ?_
                refine g_iload rfl rfl ?_
                refine g_callVI [aI ((p46 : Int)), aI ((v14 : Int)), aI ((p20 : Int))] [aI ((p44 : Int)), aI ((p34 : Int)), aO (some (o + 29)), aO (some o)] rfl rfl rfl rfl (Nat.le_of_ble_eq_true rfl) ms.1 (r_mul3 (by omega) ms V46 (by have := G_47.2.2.1; omega) xp46 (g46.rb (g44.rb (g42.rb (g40.rb (g38.rb (g36.rb (g34.rb (g32.rb (g30.rb (g28.rb (g26.rb (g24.rb (g22.rb (g20.rb (g18.rb (g16.rb xv14)))))))))))))))) (g46.rb (g44.rb (g42.rb (g40.rb (g38.rb (g36.rb (g34.rb (g32.rb (g30.rb (g28.rb (g26.rb (g24.rb (g22.rb xp20))))))))))))) (by omega)) ?_
                rintro _ _ ⟨p48, rfl, V48, rfl, g48, xp48⟩
                have G_49 := G_47.trans (g48.gs _)
                refine g_callVN [aO (some (o + 29)), aI ((p34 : Int)), aI ((p44 : Int)), aI ((p48 : Int))] [] rfl rfl rfl rfl (Nat.le_of_ble_eq_true rfl) ms.1 (m_put (by omega) ms V48 (by have := G_49.2.2.1; omega) ((o + 29)) (show SLa o ((o + 29)) by unfold SLa; omega) p34 p44 p48) ?_
                rintro _ ⟨V50, rfl, p50, g50, s50, xp50⟩
                have G_51 := G_49.trans (g50.wide (fun q hq => by have hq : q = o + 29 := hq; show q = o + 24 ∨ q = o + 25 ∨ q = o + 26 ∨ q = o + 29; omega))
                refine g_aload_n rfl rfl ?_
                refine g_aload_n rfl rfl ?_
                refine g_getR rfl ms.1 (mr_got ms) ?_
                refine g_iconst rfl ?_
                refine g_callVI [aO (some (o + 29)), aI 0] [] rfl rfl rfl rfl (Nat.le_of_ble_eq_true rfl) ms.1 (m_keepT0 (by omega) ms V50 ok (g50.mt (show ¬((o + 4) = o + 29) by omega) (show ¬((o + 5) = o + 29) by omega) (g48.mt (g46.mt (g44.mt (g42.mt (g40.mt (g38.mt (g36.mt (g34.mt (g32.mt (g30.mt (g28.mt (g26.mt (g24.mt (g22.mt (g20.mt (g18.mt (show ¬((o + 4) = o + 25) by omega) (show ¬((o + 5) = o + 25) by omega) (g16.mt (show ¬((o + 4) = o + 26) by omega) (show ¬((o + 5) = o + 26) by omega) (g14.mt (show ¬((o + 4) = o + 24) by omega) (show ¬((o + 5) = o + 24) by omega) mt))))))))))))))))))) (by have := G_51.2.2.1; omega) ((o + 29)) (show SLa o ((o + 29)) by unfold SLa; omega) (show SB V50 o (o + 29) ((((((tpR S a).1) * (((tpR S b).2.2.1) * ((tpR S c).2.2.1))) + (((tpR S b).1) * (((tpR S a).2.2.1) * ((tpR S c).2.2.1)))) + (((tpR S c).1) * (((tpR S a).2.2.1) * ((tpR S b).2.2.1))), ((((tpR S a).2.1) * (((tpR S b).2.2.1) * ((tpR S c).2.2.1))) + (((tpR S b).2.1) * (((tpR S a).2.2.1) * ((tpR S c).2.2.1)))) + (((tpR S c).2.1) * (((tpR S a).2.2.1) * ((tpR S b).2.2.1))), 3 * ((tpR S a).2.2.1) * (((tpR S b).2.2.1) * ((tpR S c).2.2.1)), 0)) (62) from ⟨_, _, _, _, s50, ((g50.rb (g48.rb (g46.rb (g44.rb (g42.rb (g40.rb (g38.rb (g36.rb xp34)))))))).up (by omega)), ((g50.rb (g48.rb (g46.rb xp44))).up (by omega)), ((g50.rb xp48).up (by omega)), (xp50.up (by omega))⟩) (by omega)) ?_
                rintro r52 _ ⟨V52, rfl, k52, e52, m52⟩
                refine g_iret rfl ?_
                rw [three_yes (by omega) (by omega)]
                have eo : m_t1_O S a b c = some ((((((tpR S a).1) * (((tpR S b).2.2.1) * ((tpR S c).2.2.1))) + (((tpR S b).1) * (((tpR S a).2.2.1) * ((tpR S c).2.2.1)))) + (((tpR S c).1) * (((tpR S a).2.2.1) * ((tpR S b).2.2.1))), ((((tpR S a).2.1) * (((tpR S b).2.2.1) * ((tpR S c).2.2.1))) + (((tpR S b).2.1) * (((tpR S a).2.2.1) * ((tpR S c).2.2.1)))) + (((tpR S c).2.1) * (((tpR S a).2.2.1) * ((tpR S b).2.2.1))), 3 * ((tpR S a).2.2.1) * (((tpR S b).2.2.1) * ((tpR S c).2.2.1)), 0)) := rfl
                rw [eo]
                exact ⟨_, rfl, (Gs.km (G_51.wide (T2 := fun q => o + 24 ≤ q ∧ q ≤ o + 31) (fun q hq => by have hq : q = o + 24 ∨ q = o + 25 ∨ q = o + 26 ∨ q = o + 29 := hq; show o + 24 ≤ q ∧ q ≤ o + 31; omega)) k52 (fun q hq => by have hq : q = o + 29 := hq; omega)).fr (fun q hq => hq) eV0, e52, m52⟩
              · skip
                refine g_bipush rfl ?_
                refine g_iret rfl ?_
                rw [three_far (by omega) (by omega)]
                exact ⟨V0, rfl, (KM.of (G0.wide (T2 := fun q => o + 24 ≤ q ∧ q ≤ o + 31) (fun q hq => by have hq : q = o + 24 ∨ q = o + 25 ∨ q = o + 26 ∨ q = o + 29 := hq; show o + 24 ≤ q ∧ q ≤ o + 31; omega))).fr (fun q hq => hq) eV0, rfl, mt⟩
set_option maxRecDepth 100000 in
set_option maxHeartbeats 4000000 in
theorem m_three2 {w : aW} {d : Nat} (hd : 10 ≤ d) {h : aH} {o : Nat} (ms : MS h o) (V : Nat → Nat → Int) {S : aS} (ok : OkT S) (mt : MT V o S) (a b c : Int) : WP w d 312 [aO (some o), aI 2, aI a, aI b, aI c] (hw h V) (RI (fun r h1 => ∃ V1, h1 = hw h V1 ∧ FR V V1 o ∧ r = (threeM S 0 a b c (m_t_heights_O S a b c)).1 ∧ MT V1 o (threeM S 0 a b c (m_t_heights_O S a b c)).2)) := by
  obtain ⟨d, rfl⟩ : ∃ d1, d = d1 + 1 := ⟨d - 1, by omega⟩
  refine WP.enter (cd := cd_X12_three) rfl ?_
  have hn := ok.1
  have hls : largs 0 [aO (some o), aI 2, aI a, aI b, aI c] = [(0, aO (some o)), (1, aI 2), (2, aI a), (3, aI b), (4, aI c)] := rfl
  rw [hls]
  clear hls
  refine g_aload_n rfl rfl ?_
  refine g_iconst rfl ?_
  refine g_putI rfl ms.1 ?_
  refine g_hp (h2 := hw h (vset V o 31 0)) rfl ?_
  refine g_aload_n rfl rfl ?_
  refine g_iconst rfl ?_
  refine g_putI rfl ms.1 ?_
  obtain ⟨V0, eV0⟩ : ∃ W, W = vset (vset V o 31 0) o 1 0 := ⟨_, rfl⟩
  refine g_hp (h2 := hw h V0) (by rw [eV0]; rfl) ?_
  have mt : MT V0 o S := by rw [eV0]; exact mt.rs
  have f0 : V0 o 1 = 0 := by rw [eV0]; exact vset_eq _ _ _ _
  have G0 := Gs.refl V0 o (fun q => q = o + 24 ∨ q = o + 25 ∨ q = o + 26)
  refine g_iload_n rfl rfl ?_
  refine g_i2l rfl ?_
  refine g_lconst0 rfl ?_
  refine g_ldc2 rfl ?_
  refine g_callSI [aJ 2, aJ 0, aJ 8] [] rfl rfl rfl rfl (Nat.le_of_ble_eq_true rfl) (c_in (by omega) _ _ _ _) ?_
  rintro r1 _ ⟨rfl, rfl⟩
  refine g_b_eq rfl (fun c19 => ?_) (fun c19 => ?_)
  · skip
    refine g_iconst rfl ?_
    refine g_istore (l1 := [(5, aI 0), (0, aO (some o)), (1, aI 2), (2, aI a), (3, aI b), (4, aI c)]) rfl rfl ?_
    refine g_iload rfl rfl ?_
    refine g_if_eq_t rfl (by omega) ?_
    refine g_iconst rfl ?_
    refine g_istore (l1 := [(5, aI 0), (0, aO (some o)), (1, aI 2), (2, aI a), (3, aI b), (4, aI c)]) rfl rfl ?_
    refine g_iload rfl rfl ?_
    refine g_if_ne_f rfl (by omega) ?_
    refine g_iconst rfl ?_
    refine g_iret rfl ?_
    rw [three_no (by omega)]
    exact ⟨V0, rfl, (KM.of (G0.wide (T2 := fun q => o + 24 ≤ q ∧ q ≤ o + 31) (fun q hq => by have hq : q = o + 24 ∨ q = o + 25 ∨ q = o + 26 := hq; show o + 24 ≤ q ∧ q ≤ o + 31; omega))).fr (fun q hq => hq) eV0, rfl, mt⟩
  · skip
    refine g_aload_n rfl rfl ?_
    refine g_iload_n rfl rfl ?_
    refine g_iconst rfl ?_
    refine g_callVI [aI a, aI 0] [] rfl rfl rfl rfl (Nat.le_of_ble_eq_true rfl) ms.1 (m_is (by omega) ms V0 ok mt a 0) ?_
    rintro r2 _ ⟨rfl, e3⟩
    rw [e3]
    clear e3 r2
    refine g_b_eq rfl (fun c28 => ?_) (fun c28 => ?_)
    · skip
      refine g_iconst rfl ?_
      refine g_istore (l1 := [(5, aI 0), (0, aO (some o)), (1, aI 2), (2, aI a), (3, aI b), (4, aI c)]) rfl rfl ?_
      refine g_iload rfl rfl ?_
      refine g_if_eq_t rfl (by omega) ?_
      refine g_iconst rfl ?_
      refine g_istore (l1 := [(5, aI 0), (0, aO (some o)), (1, aI 2), (2, aI a), (3, aI b), (4, aI c)]) rfl rfl ?_
      refine g_iload rfl rfl ?_
      refine g_if_ne_f rfl (by omega) ?_
      refine g_iconst rfl ?_
      refine g_iret rfl ?_
      rw [three_no (by omega)]
      exact ⟨V0, rfl, (KM.of (G0.wide (T2 := fun q => o + 24 ≤ q ∧ q ≤ o + 31) (fun q hq => by have hq : q = o + 24 ∨ q = o + 25 ∨ q = o + 26 := hq; show o + 24 ≤ q ∧ q ≤ o + 31; omega))).fr (fun q hq => hq) eV0, rfl, mt⟩
    · skip
      refine g_aload_n rfl rfl ?_
      refine g_iload rfl rfl ?_
      refine g_iconst rfl ?_
      refine g_callVI [aI c, aI 0] [] rfl rfl rfl rfl (Nat.le_of_ble_eq_true rfl) ms.1 (m_is (by omega) ms V0 ok mt c 0) ?_
      rintro r4 _ ⟨rfl, e5⟩
      rw [e5]
      clear e5 r4
      refine g_b_eq rfl (fun c38 => ?_) (fun c38 => ?_)
      · skip
        refine g_iconst rfl ?_
        refine g_istore (l1 := [(5, aI 0), (0, aO (some o)), (1, aI 2), (2, aI a), (3, aI b), (4, aI c)]) rfl rfl ?_
        refine g_iload rfl rfl ?_
        refine g_if_eq_t rfl (by omega) ?_
        refine g_iconst rfl ?_
        refine g_istore (l1 := [(5, aI 0), (0, aO (some o)), (1, aI 2), (2, aI a), (3, aI b), (4, aI c)]) rfl rfl ?_
        refine g_iload rfl rfl ?_
        refine g_if_ne_f rfl (by omega) ?_
        refine g_iconst rfl ?_
        refine g_iret rfl ?_
        rw [three_no (by omega)]
        exact ⟨V0, rfl, (KM.of (G0.wide (T2 := fun q => o + 24 ≤ q ∧ q ≤ o + 31) (fun q hq => by have hq : q = o + 24 ∨ q = o + 25 ∨ q = o + 26 := hq; show o + 24 ≤ q ∧ q ≤ o + 31; omega))).fr (fun q hq => hq) eV0, rfl, mt⟩
      · skip
        refine g_iconst rfl ?_
        refine g_goto rfl ?_
        refine g_istore (l1 := [(5, aI 1), (0, aO (some o)), (1, aI 2), (2, aI a), (3, aI b), (4, aI c)]) rfl rfl ?_
        refine g_iload rfl rfl ?_
        refine g_if_eq_f rfl (by omega) ?_
        refine g_iload_n rfl rfl ?_
        refine g_bipush rfl ?_
        refine g_icmp_ge_f rfl (by omega) ?_
        refine g_aload_n rfl rfl ?_
        refine g_iload_n rfl rfl ?_
        refine g_iconst rfl ?_
        refine g_callVI [aI b, aI 0] [] rfl rfl rfl rfl (Nat.le_of_ble_eq_true rfl) ms.1 (m_is (by omega) ms V0 ok mt b 0) ?_
        rintro r6 _ ⟨rfl, e7⟩
        rw [e7]
        clear e7 r6
        refine g_b_eq rfl (fun c65 => ?_) (fun c65 => ?_)
        · skip
          refine g_iconst rfl ?_
          refine g_istore (l1 := [(5, aI 0), (0, aO (some o)), (1, aI 2), (2, aI a), (3, aI b), (4, aI c)]) rfl rfl ?_
          refine g_iload rfl rfl ?_
          refine g_if_ne_f rfl (by omega) ?_
          refine g_iconst rfl ?_
          refine g_iret rfl ?_
          rw [three_no (by omega)]
          exact ⟨V0, rfl, (KM.of (G0.wide (T2 := fun q => o + 24 ≤ q ∧ q ≤ o + 31) (fun q hq => by have hq : q = o + 24 ∨ q = o + 25 ∨ q = o + 26 := hq; show o + 24 ≤ q ∧ q ≤ o + 31; omega))).fr (fun q hq => hq) eV0, rfl, mt⟩
        · skip
          refine g_goto rfl ?_
          refine g_iconst rfl ?_
          refine g_goto rfl ?_
          refine g_istore (l1 := [(5, aI 1), (0, aO (some o)), (1, aI 2), (2, aI a), (3, aI b), (4, aI c)]) rfl rfl ?_
          refine g_iload rfl rfl ?_
          refine g_if_ne_t rfl (by omega) ?_
          have ha : 0 ≤ a ∧ a < sT S := by omega
          have hb : 0 ≤ b ∧ b < sT S := by omega
          have hc : 0 ≤ c ∧ c < sT S := by omega
          refine g_aload_n rfl rfl ?_
          refine g_iload_n rfl rfl ?_
          refine g_callVI [aI a] [] rfl rfl rfl rfl (Nat.le_of_ble_eq_true rfl) ms.1 (m_isFar (by omega) ms V0 ok mt a ha) ?_
          rintro r8 _ ⟨rfl, e9⟩
          rw [e9]
          clear e9 r8
          refine g_b_ne rfl (fun c115 => ?_) (fun c115 => ?_)
          · skip
            refine g_bipush rfl ?_
            refine g_iret rfl ?_
            rw [three_far (by omega) (by omega)]
            exact ⟨V0, rfl, (KM.of (G0.wide (T2 := fun q => o + 24 ≤ q ∧ q ≤ o + 31) (fun q hq => by have hq : q = o + 24 ∨ q = o + 25 ∨ q = o + 26 := hq; show o + 24 ≤ q ∧ q ≤ o + 31; omega))).fr (fun q hq => hq) eV0, rfl, mt⟩
          · skip
            refine g_aload_n rfl rfl ?_
            refine g_iload rfl rfl ?_
            refine g_callVI [aI c] [] rfl rfl rfl rfl (Nat.le_of_ble_eq_true rfl) ms.1 (m_isFar (by omega) ms V0 ok mt c hc) ?_
            rintro r10 _ ⟨rfl, e11⟩
            rw [e11]
            clear e11 r10
            refine g_b_ne rfl (fun c124 => ?_) (fun c124 => ?_)
            · skip
              refine g_bipush rfl ?_
              refine g_iret rfl ?_
              rw [three_far (by omega) (by omega)]
              exact ⟨V0, rfl, (KM.of (G0.wide (T2 := fun q => o + 24 ≤ q ∧ q ≤ o + 31) (fun q hq => by have hq : q = o + 24 ∨ q = o + 25 ∨ q = o + 26 := hq; show o + 24 ≤ q ∧ q ≤ o + 31; omega))).fr (fun q hq => hq) eV0, rfl, mt⟩
            · skip
              refine g_iload_n rfl rfl ?_
              refine g_bipush rfl ?_
              refine g_icmp_ge_f rfl (by omega) ?_
              refine g_aload_n rfl rfl ?_
              refine g_iload_n rfl rfl ?_
              refine g_callVI [aI b] [] rfl rfl rfl rfl (Nat.le_of_ble_eq_true rfl) ms.1 (m_isFar (by omega) ms V0 ok mt b hb) ?_
              rintro r12 _ ⟨rfl, e13⟩
              rw [e13]
              clear e13 r12
              refine g_b_eq rfl (fun c138 => ?_) (fun c138 => ?_)
              · skip
                refine g_aload_n rfl rfl ?_
                refine g_aload_n rfl rfl ?_
                refine g_getR rfl ms.1 (mr_one ms) ?_
                refine g_iload_n rfl rfl ?_
                refine g_callVN [aO (some (o + 24)), aI a] [] rfl rfl rfl rfl (Nat.le_of_ble_eq_true rfl) ms.1 (m_load (by omega) ms V0 ok mt (by have := G0.2.2.1; omega) ((o + 24)) (show SLa o ((o + 24)) by unfold SLa; omega) a ha) ?_
                rintro _ ⟨V14, rfl, g14, t14, u14, v14, y14, s14, xt14, xu14, xv14, xy14⟩
                have G_15 := G0.trans (g14.wide (fun q hq => by have hq : q = o + 24 := hq; show q = o + 24 ∨ q = o + 25 ∨ q = o + 26; omega))
                refine g_aload_n rfl rfl ?_
                refine g_aload_n rfl rfl ?_
                refine g_getR rfl ms.1 (mr_three ms) ?_
                refine g_iload rfl rfl ?_
                refine g_callVN [aO (some (o + 26)), aI c] [] rfl rfl rfl rfl (Nat.le_of_ble_eq_true rfl) ms.1 (m_load (by omega) ms V14 ok (g14.mt (show ¬((o + 4) = o + 24) by omega) (show ¬((o + 5) = o + 24) by omega) mt) (by have := G_15.2.2.1; omega) ((o + 26)) (show SLa o ((o + 26)) by unfold SLa; omega) c hc) ?_
                rintro _ ⟨V16, rfl, g16, t16, u16, v16, y16, s16, xt16, xu16, xv16, xy16⟩
                have G_17 := G_15.trans (g16.wide (fun q hq => by have hq : q = o + 26 := hq; show q = o + 24 ∨ q = o + 25 ∨ q = o + 26; omega))
                refine g_iload_n rfl rfl ?_
                refine g_bipush rfl ?_
                refine g_icmp_ge_f rfl (by omega) ?_
                refine g_aload_n rfl rfl ?_
                refine g_aload_n rfl rfl ?_
                refine g_getR rfl ms.1 (mr_two ms) ?_
                refine g_iload_n rfl rfl ?_
                refine g_callVN [aO (some (o + 25)), aI b] [] rfl rfl rfl rfl (Nat.le_of_ble_eq_true rfl) ms.1 (m_load (by omega) ms V16 ok (g16.mt (show ¬((o + 4) = o + 26) by omega) (show ¬((o + 5) = o + 26) by omega) (g14.mt (show ¬((o + 4) = o + 24) by omega) (show ¬((o + 5) = o + 24) by omega) mt)) (by have := G_17.2.2.1; omega) ((o + 25)) (show SLa o ((o + 25)) by unfold SLa; omega) b hb) ?_
                rintro _ ⟨V18, rfl, g18, t18, u18, v18, y18, s18, xt18, xu18, xv18, xy18⟩
                have G_19 := G_17.trans (g18.wide (fun q hq => by have hq : q = o + 25 := hq; show q = o + 24 ∨ q = o + 25 ∨ q = o + 26; omega))
                refine g_iload_n rfl rfl ?_
                refine g_tsw (t := 449) rfl (by rfl) ?_
                refine g_aload_n rfl rfl ?_
                refine g_callVI [] [] rfl rfl rfl rfl (Nat.le_of_ble_eq_true rfl) ms.1 (m_heights (by omega) ms V18 ok (g18.mt (show ¬((o + 4) = o + 25) by omega) (show ¬((o + 5) = o + 25) by omega) (g16.mt (show ¬((o + 4) = o + 26) by omega) (show ¬((o + 5) = o + 26) by omega) (g14.mt (show ¬((o + 4) = o + 24) by omega) (show ¬((o + 5) = o + 24) by omega) mt))) a b c (by have := G_19.2.2.1; omega) (show SB V18 o (o + 24) (tpR S a) (20) from ⟨_, _, _, _, (g18.sa (show SLa o ((o + 24)) by unfold SLa; omega) (show ¬(o + 24 = o + 25) by omega) (g16.sa (show SLa o ((o + 24)) by unfold SLa; omega) (show ¬(o + 24 = o + 26) by omega) s14)), ((g18.rb (g16.rb xt14)).up (by omega)), ((g18.rb (g16.rb xu14)).up (by omega)), ((g18.rb (g16.rb xv14)).up (by omega)), ((g18.rb (g16.rb xy14)).up (by omega))⟩) (show SB V18 o (o + 25) (tpR S b) (20) from ⟨_, _, _, _, s18, (xt18.up (by omega)), (xu18.up (by omega)), (xv18.up (by omega)), (xy18.up (by omega))⟩) (show SB V18 o (o + 26) (tpR S c) (20) from ⟨_, _, _, _, (g18.sa (show SLa o ((o + 26)) by unfold SLa; omega) (show ¬(o + 26 = o + 25) by omega) s16), ((g18.rb xt16).up (by omega)), ((g18.rb xu16).up (by omega)), ((g18.rb xv16).up (by omega)), ((g18.rb xy16).up (by omega))⟩)) ?_
                rintro r20 _ ⟨V20, rfl, k20, e20, m20⟩
                refine g_iret rfl ?_
                rw [three_yes (by omega) (by omega)]
                exact ⟨_, rfl, (Gs.km (G_19.wide (T2 := fun q => o + 24 ≤ q ∧ q ≤ o + 31) (fun q hq => by have hq : q = o + 24 ∨ q = o + 25 ∨ q = o + 26 := hq; show o + 24 ≤ q ∧ q ≤ o + 31; omega)) k20 (fun q hq => by omega)).fr (fun q hq => hq) eV0, e20, m20⟩
              · skip
                refine g_bipush rfl ?_
                refine g_iret rfl ?_
                rw [three_far (by omega) (by omega)]
                exact ⟨V0, rfl, (KM.of (G0.wide (T2 := fun q => o + 24 ≤ q ∧ q ≤ o + 31) (fun q hq => by have hq : q = o + 24 ∨ q = o + 25 ∨ q = o + 26 := hq; show o + 24 ≤ q ∧ q ≤ o + 31; omega))).fr (fun q hq => hq) eV0, rfl, mt⟩
def m_t3_O (S : aS) (a b c : Int) : Option T4 := match m_thru_O (tpR S a) (tpR S b) (tpR S c) with
  | none => none
  | some C => some (-C.2.1, -C.2.2.1, 2 * C.1, 0)
theorem m_t3_no {S : aS} {a b c : Int} (h : m_thru_O (tpR S a) (tpR S b) (tpR S c) = none) : m_t3_O S a b c = none := by unfold m_t3_O; rw [h]
theorem m_t3_yes {S : aS} {a b c : Int} {C : T4} (h : m_thru_O (tpR S a) (tpR S b) (tpR S c) = some C) : m_t3_O S a b c = some (-C.2.1, -C.2.2.1, 2 * C.1, 0) := by unfold m_t3_O; rw [h]
set_option maxRecDepth 100000 in
set_option maxHeartbeats 4000000 in
theorem m_three3 {w : aW} {d : Nat} (hd : 10 ≤ d) {h : aH} {o : Nat} (ms : MS h o) (V : Nat → Nat → Int) {S : aS} (ok : OkT S) (mt : MT V o S) (a b c : Int) : WP w d 312 [aO (some o), aI 3, aI a, aI b, aI c] (hw h V) (RI (fun r h1 => ∃ V1, h1 = hw h V1 ∧ FR V V1 o ∧ r = (threeM S 0 a b c (m_t3_O S a b c)).1 ∧ MT V1 o (threeM S 0 a b c (m_t3_O S a b c)).2)) := by
  obtain ⟨d, rfl⟩ : ∃ d1, d = d1 + 1 := ⟨d - 1, by omega⟩
  refine WP.enter (cd := cd_X12_three) rfl ?_
  have hn := ok.1
  have hls : largs 0 [aO (some o), aI 3, aI a, aI b, aI c] = [(0, aO (some o)), (1, aI 3), (2, aI a), (3, aI b), (4, aI c)] := rfl
  rw [hls]
  clear hls
  refine g_aload_n rfl rfl ?_
  refine g_iconst rfl ?_
  refine g_putI rfl ms.1 ?_
  refine g_hp (h2 := hw h (vset V o 31 0)) rfl ?_
  refine g_aload_n rfl rfl ?_
  refine g_iconst rfl ?_
  refine g_putI rfl ms.1 ?_
  obtain ⟨V0, eV0⟩ : ∃ W, W = vset (vset V o 31 0) o 1 0 := ⟨_, rfl⟩
  refine g_hp (h2 := hw h V0) (by rw [eV0]; rfl) ?_
  have mt : MT V0 o S := by rw [eV0]; exact mt.rs
  have f0 : V0 o 1 = 0 := by rw [eV0]; exact vset_eq _ _ _ _
  have G0 := Gs.refl V0 o (fun q => q = o + 24 ∨ q = o + 25 ∨ q = o + 26 ∨ q = o + 29 ∨ q = o + 27)
  refine g_iload_n rfl rfl ?_
  refine g_i2l rfl ?_
  refine g_lconst0 rfl ?_
  refine g_ldc2 rfl ?_
  refine g_callSI [aJ 3, aJ 0, aJ 8] [] rfl rfl rfl rfl (Nat.le_of_ble_eq_true rfl) (c_in (by omega) _ _ _ _) ?_
  rintro r1 _ ⟨rfl, rfl⟩
  refine g_b_eq rfl (fun c19 => ?_) (fun c19 => ?_)
  · skip
    refine g_iconst rfl ?_
    refine g_istore (l1 := [(5, aI 0), (0, aO (some o)), (1, aI 3), (2, aI a), (3, aI b), (4, aI c)]) rfl rfl ?_
    refine g_iload rfl rfl ?_
    refine g_if_eq_t rfl (by omega) ?_
    refine g_iconst rfl ?_
    refine g_istore (l1 := [(5, aI 0), (0, aO (some o)), (1, aI 3), (2, aI a), (3, aI b), (4, aI c)]) rfl rfl ?_
    refine g_iload rfl rfl ?_
    refine g_if_ne_f rfl (by omega) ?_
    refine g_iconst rfl ?_
    refine g_iret rfl ?_
    rw [three_no (by omega)]
    exact ⟨V0, rfl, (KM.of (G0.wide (T2 := fun q => o + 24 ≤ q ∧ q ≤ o + 31) (fun q hq => by have hq : q = o + 24 ∨ q = o + 25 ∨ q = o + 26 ∨ q = o + 29 ∨ q = o + 27 := hq; show o + 24 ≤ q ∧ q ≤ o + 31; omega))).fr (fun q hq => hq) eV0, rfl, mt⟩
  · skip
    refine g_aload_n rfl rfl ?_
    refine g_iload_n rfl rfl ?_
    refine g_iconst rfl ?_
    refine g_callVI [aI a, aI 0] [] rfl rfl rfl rfl (Nat.le_of_ble_eq_true rfl) ms.1 (m_is (by omega) ms V0 ok mt a 0) ?_
    rintro r2 _ ⟨rfl, e3⟩
    rw [e3]
    clear e3 r2
    refine g_b_eq rfl (fun c28 => ?_) (fun c28 => ?_)
    · skip
      refine g_iconst rfl ?_
      refine g_istore (l1 := [(5, aI 0), (0, aO (some o)), (1, aI 3), (2, aI a), (3, aI b), (4, aI c)]) rfl rfl ?_
      refine g_iload rfl rfl ?_
      refine g_if_eq_t rfl (by omega) ?_
      refine g_iconst rfl ?_
      refine g_istore (l1 := [(5, aI 0), (0, aO (some o)), (1, aI 3), (2, aI a), (3, aI b), (4, aI c)]) rfl rfl ?_
      refine g_iload rfl rfl ?_
      refine g_if_ne_f rfl (by omega) ?_
      refine g_iconst rfl ?_
      refine g_iret rfl ?_
      rw [three_no (by omega)]
      exact ⟨V0, rfl, (KM.of (G0.wide (T2 := fun q => o + 24 ≤ q ∧ q ≤ o + 31) (fun q hq => by have hq : q = o + 24 ∨ q = o + 25 ∨ q = o + 26 ∨ q = o + 29 ∨ q = o + 27 := hq; show o + 24 ≤ q ∧ q ≤ o + 31; omega))).fr (fun q hq => hq) eV0, rfl, mt⟩
    · skip
      refine g_aload_n rfl rfl ?_
      refine g_iload rfl rfl ?_
      refine g_iconst rfl ?_
      refine g_callVI [aI c, aI 0] [] rfl rfl rfl rfl (Nat.le_of_ble_eq_true rfl) ms.1 (m_is (by omega) ms V0 ok mt c 0) ?_
      rintro r4 _ ⟨rfl, e5⟩
      rw [e5]
      clear e5 r4
      refine g_b_eq rfl (fun c38 => ?_) (fun c38 => ?_)
      · skip
        refine g_iconst rfl ?_
        refine g_istore (l1 := [(5, aI 0), (0, aO (some o)), (1, aI 3), (2, aI a), (3, aI b), (4, aI c)]) rfl rfl ?_
        refine g_iload rfl rfl ?_
        refine g_if_eq_t rfl (by omega) ?_
        refine g_iconst rfl ?_
        refine g_istore (l1 := [(5, aI 0), (0, aO (some o)), (1, aI 3), (2, aI a), (3, aI b), (4, aI c)]) rfl rfl ?_
        refine g_iload rfl rfl ?_
        refine g_if_ne_f rfl (by omega) ?_
        refine g_iconst rfl ?_
        refine g_iret rfl ?_
        rw [three_no (by omega)]
        exact ⟨V0, rfl, (KM.of (G0.wide (T2 := fun q => o + 24 ≤ q ∧ q ≤ o + 31) (fun q hq => by have hq : q = o + 24 ∨ q = o + 25 ∨ q = o + 26 ∨ q = o + 29 ∨ q = o + 27 := hq; show o + 24 ≤ q ∧ q ≤ o + 31; omega))).fr (fun q hq => hq) eV0, rfl, mt⟩
      · skip
        refine g_iconst rfl ?_
        refine g_goto rfl ?_
        refine g_istore (l1 := [(5, aI 1), (0, aO (some o)), (1, aI 3), (2, aI a), (3, aI b), (4, aI c)]) rfl rfl ?_
        refine g_iload rfl rfl ?_
        refine g_if_eq_f rfl (by omega) ?_
        refine g_iload_n rfl rfl ?_
        refine g_bipush rfl ?_
        refine g_icmp_ge_f rfl (by omega) ?_
        refine g_aload_n rfl rfl ?_
        refine g_iload_n rfl rfl ?_
        refine g_iconst rfl ?_
        refine g_callVI [aI b, aI 0] [] rfl rfl rfl rfl (Nat.le_of_ble_eq_true rfl) ms.1 (m_is (by omega) ms V0 ok mt b 0) ?_
        rintro r6 _ ⟨rfl, e7⟩
        rw [e7]
        clear e7 r6
        refine g_b_eq rfl (fun c65 => ?_) (fun c65 => ?_)
        · skip
          refine g_iconst rfl ?_
          refine g_istore (l1 := [(5, aI 0), (0, aO (some o)), (1, aI 3), (2, aI a), (3, aI b), (4, aI c)]) rfl rfl ?_
          refine g_iload rfl rfl ?_
          refine g_if_ne_f rfl (by omega) ?_
          refine g_iconst rfl ?_
          refine g_iret rfl ?_
          rw [three_no (by omega)]
          exact ⟨V0, rfl, (KM.of (G0.wide (T2 := fun q => o + 24 ≤ q ∧ q ≤ o + 31) (fun q hq => by have hq : q = o + 24 ∨ q = o + 25 ∨ q = o + 26 ∨ q = o + 29 ∨ q = o + 27 := hq; show o + 24 ≤ q ∧ q ≤ o + 31; omega))).fr (fun q hq => hq) eV0, rfl, mt⟩
        · skip
          refine g_goto rfl ?_
          refine g_iconst rfl ?_
          refine g_goto rfl ?_
          refine g_istore (l1 := [(5, aI 1), (0, aO (some o)), (1, aI 3), (2, aI a), (3, aI b), (4, aI c)]) rfl rfl ?_
          refine g_iload rfl rfl ?_
          refine g_if_ne_t rfl (by omega) ?_
          have ha : 0 ≤ a ∧ a < sT S := by omega
          have hb : 0 ≤ b ∧ b < sT S := by omega
          have hc : 0 ≤ c ∧ c < sT S := by omega
          refine g_aload_n rfl rfl ?_
          refine g_iload_n rfl rfl ?_
          refine g_callVI [aI a] [] rfl rfl rfl rfl (Nat.le_of_ble_eq_true rfl) ms.1 (m_isFar (by omega) ms V0 ok mt a ha) ?_
          rintro r8 _ ⟨rfl, e9⟩
          rw [e9]
          clear e9 r8
          refine g_b_ne rfl (fun c115 => ?_) (fun c115 => ?_)
          · skip
            refine g_bipush rfl ?_
            refine g_iret rfl ?_
            rw [three_far (by omega) (by omega)]
            exact ⟨V0, rfl, (KM.of (G0.wide (T2 := fun q => o + 24 ≤ q ∧ q ≤ o + 31) (fun q hq => by have hq : q = o + 24 ∨ q = o + 25 ∨ q = o + 26 ∨ q = o + 29 ∨ q = o + 27 := hq; show o + 24 ≤ q ∧ q ≤ o + 31; omega))).fr (fun q hq => hq) eV0, rfl, mt⟩
          · skip
            refine g_aload_n rfl rfl ?_
            refine g_iload rfl rfl ?_
            refine g_callVI [aI c] [] rfl rfl rfl rfl (Nat.le_of_ble_eq_true rfl) ms.1 (m_isFar (by omega) ms V0 ok mt c hc) ?_
            rintro r10 _ ⟨rfl, e11⟩
            rw [e11]
            clear e11 r10
            refine g_b_ne rfl (fun c124 => ?_) (fun c124 => ?_)
            · skip
              refine g_bipush rfl ?_
              refine g_iret rfl ?_
              rw [three_far (by omega) (by omega)]
              exact ⟨V0, rfl, (KM.of (G0.wide (T2 := fun q => o + 24 ≤ q ∧ q ≤ o + 31) (fun q hq => by have hq : q = o + 24 ∨ q = o + 25 ∨ q = o + 26 ∨ q = o + 29 ∨ q = o + 27 := hq; show o + 24 ≤ q ∧ q ≤ o + 31; omega))).fr (fun q hq => hq) eV0, rfl, mt⟩
            · skip
              refine g_iload_n rfl rfl ?_
              refine g_bipush rfl ?_
              refine g_icmp_ge_f rfl (by omega) ?_
              refine g_aload_n rfl rfl ?_
              refine g_iload_n rfl rfl ?_
              refine g_callVI [aI b] [] rfl rfl rfl rfl (Nat.le_of_ble_eq_true rfl) ms.1 (m_isFar (by omega) ms V0 ok mt b hb) ?_
              rintro r12 _ ⟨rfl, e13⟩
              rw [e13]
              clear e13 r12
              refine g_b_eq rfl (fun c138 => ?_) (fun c138 => ?_)
              · skip
                refine g_aload_n rfl rfl ?_
                refine g_aload_n rfl rfl ?_
                refine g_getR rfl ms.1 (mr_one ms) ?_
                refine g_iload_n rfl rfl ?_
                refine g_callVN [aO (some (o + 24)), aI a] [] rfl rfl rfl rfl (Nat.le_of_ble_eq_true rfl) ms.1 (m_load (by omega) ms V0 ok mt (by have := G0.2.2.1; omega) ((o + 24)) (show SLa o ((o + 24)) by unfold SLa; omega) a ha) ?_
                rintro _ ⟨V14, rfl, g14, t14, u14, v14, y14, s14, xt14, xu14, xv14, xy14⟩
                have G_15 := G0.trans (g14.wide (fun q hq => by have hq : q = o + 24 := hq; show q = o + 24 ∨ q = o + 25 ∨ q = o + 26 ∨ q = o + 29 ∨ q = o + 27; omega))
                refine g_aload_n rfl rfl ?_
                refine g_aload_n rfl rfl ?_
                refine g_getR rfl ms.1 (mr_three ms) ?_
                refine g_iload rfl rfl ?_
                refine g_callVN [aO (some (o + 26)), aI c] [] rfl rfl rfl rfl (Nat.le_of_ble_eq_true rfl) ms.1 (m_load (by omega) ms V14 ok (g14.mt (show ¬((o + 4) = o + 24) by omega) (show ¬((o + 5) = o + 24) by omega) mt) (by have := G_15.2.2.1; omega) ((o + 26)) (show SLa o ((o + 26)) by unfold SLa; omega) c hc) ?_
                rintro _ ⟨V16, rfl, g16, t16, u16, v16, y16, s16, xt16, xu16, xv16, xy16⟩
                have G_17 := G_15.trans (g16.wide (fun q hq => by have hq : q = o + 26 := hq; show q = o + 24 ∨ q = o + 25 ∨ q = o + 26 ∨ q = o + 29 ∨ q = o + 27; omega))
                refine g_iload_n rfl rfl ?_
                refine g_bipush rfl ?_
                refine g_icmp_ge_f rfl (by omega) ?_
                refine g_aload_n rfl rfl ?_
                refine g_aload_n rfl rfl ?_
                refine g_getR rfl ms.1 (mr_two ms) ?_
                refine g_iload_n rfl rfl ?_
                refine g_callVN [aO (some (o + 25)), aI b] [] rfl rfl rfl rfl (Nat.le_of_ble_eq_true rfl) ms.1 (m_load (by omega) ms V16 ok (g16.mt (show ¬((o + 4) = o + 26) by omega) (show ¬((o + 5) = o + 26) by omega) (g14.mt (show ¬((o + 4) = o + 24) by omega) (show ¬((o + 5) = o + 24) by omega) mt)) (by have := G_17.2.2.1; omega) ((o + 25)) (show SLa o ((o + 25)) by unfold SLa; omega) b hb) ?_
                rintro _ ⟨V18, rfl, g18, t18, u18, v18, y18, s18, xt18, xu18, xv18, xy18⟩
                have G_19 := G_17.trans (g18.wide (fun q hq => by have hq : q = o + 25 := hq; show q = o + 24 ∨ q = o + 25 ∨ q = o + 26 ∨ q = o + 29 ∨ q = o + 27; omega))
                refine g_iload_n rfl rfl ?_
                refine g_tsw (t := 454) rfl (by rfl) ?_
                refine g_aload_n rfl rfl ?_
                refine g_aload_n rfl rfl ?_
                refine g_getR rfl ms.1 (mr_one ms) ?_
                refine g_aload_n rfl rfl ?_
                refine g_getR rfl ms.1 (mr_two ms) ?_
                refine g_aload_n rfl rfl ?_
                refine g_getR rfl ms.1 (mr_three ms) ?_
                refine g_aload_n rfl rfl ?_
                refine g_getR rfl ms.1 (mr_got ms) ?_
                refine g_callVI [aO (some (o + 24)), aO (some (o + 25)), aO (some (o + 26)), aO (some (o + 29))] [] rfl rfl rfl rfl (Nat.le_of_ble_eq_true rfl) ms.1 (m_thru (by omega) ms V18 (by have := G_19.2.2.1; omega) ((o + 24)) (show SLa o ((o + 24)) by unfold SLa; omega) (show SB V18 o (o + 24) (tpR S a) (20) from ⟨_, _, _, _, (g18.sa (show SLa o ((o + 24)) by unfold SLa; omega) (show ¬(o + 24 = o + 25) by omega) (g16.sa (show SLa o ((o + 24)) by unfold SLa; omega) (show ¬(o + 24 = o + 26) by omega) s14)), ((g18.rb (g16.rb xt14)).up (by omega)), ((g18.rb (g16.rb xu14)).up (by omega)), ((g18.rb (g16.rb xv14)).up (by omega)), ((g18.rb (g16.rb xy14)).up (by omega))⟩) ((o + 25)) (show SLa o ((o + 25)) by unfold SLa; omega) (show SB V18 o (o + 25) (tpR S b) (20) from ⟨_, _, _, _, s18, (xt18.up (by omega)), (xu18.up (by omega)), (xv18.up (by omega)), (xy18.up (by omega))⟩) ((o + 26)) (show SLa o ((o + 26)) by unfold SLa; omega) (show SB V18 o (o + 26) (tpR S c) (20) from ⟨_, _, _, _, (g18.sa (show SLa o ((o + 26)) by unfold SLa; omega) (show ¬(o + 26 = o + 25) by omega) s16), ((g18.rb xt16).up (by omega)), ((g18.rb xu16).up (by omega)), ((g18.rb xv16).up (by omega)), ((g18.rb xy16).up (by omega))⟩) ((o + 29)) (show SLa o ((o + 29)) by unfold SLa; omega) (by omega)) ?_
                rintro r20 _ ⟨V20, rfl, g20, q20⟩
                have G_21 := G_19.trans (g20.wide (fun q hq => by have hq : q = o + 29 := hq; show q = o + 24 ∨ q = o + 25 ∨ q = o + 26 ∨ q = o + 29 ∨ q = o + 27; omega))
                cases eS20 : m_thru_O (tpR S a) (tpR S b) (tpR S c) with
                | none =>
                  rw [eS20] at q20
                  obtain rfl : r20 = 0 := q20
                  refine g_if_ne_f rfl (by omega) ?_
                  refine g_bipush rfl ?_
                  refine g_iret rfl ?_
                  rw [three_yes (by omega) (by omega)]
                  have eo : m_t3_O S a b c = none := m_t3_no eS20
                  rw [eo]
                  exact ⟨_, rfl, (KM.of (G_21.wide (T2 := fun q => o + 24 ≤ q ∧ q ≤ o + 31) (fun q hq => by have hq : q = o + 24 ∨ q = o + 25 ∨ q = o + 26 ∨ q = o + 29 ∨ q = o + 27 := hq; show o + 24 ≤ q ∧ q ≤ o + 31; omega))).fr (fun q hq => hq) eV0, rfl, (g20.mt (show ¬((o + 4) = o + 29) by omega) (show ¬((o + 5) = o + 29) by omega) (g18.mt (show ¬((o + 4) = o + 25) by omega) (show ¬((o + 5) = o + 25) by omega) (g16.mt (show ¬((o + 4) = o + 26) by omega) (show ¬((o + 5) = o + 26) by omega) (g14.mt (show ¬((o + 4) = o + 24) by omega) (show ¬((o + 5) = o + 24) by omega) mt))))⟩
                | some P20 =>
                  rw [eS20] at q20
                  obtain ⟨rfl, t20, u20, v20, y20, s20, xt20, xu20, xv20, xy20⟩ := q20
                  refine g_if_ne_t rfl (by omega) ?_
                  refine g_aload_n rfl rfl ?_
                  refine g_aload_n rfl rfl ?_
                  refine g_getR rfl ms.1 (mr_four ms) ?_
                  refine g_aload_n rfl rfl ?_
                  refine g_aload_n rfl rfl ?_
                  refine g_getR rfl ms.1 (mr_got ms) ?_
                  refine g_iconst rfl ?_
                  refine g_iald (i := 1) rfl (mt_got ms) (by omega) (by omega) ?_
                  refine g_top (v2 := aI ((u20 : Int))) (congrArg aI (by exact s20.2.1)) ?_
                  refine g_callVI [aI ((u20 : Int))] [aO (some (o + 27)), aO (some o)] rfl rfl rfl rfl (Nat.le_of_ble_eq_true rfl) ms.1 (r_neg (by omega) ms V20 (by have := G_21.2.2.1; omega) xu20 (by omega)) ?_
                  rintro _ _ ⟨p22, rfl, V22, rfl, g22, xp22⟩
                  have G_23 := G_21.trans (g22.gs _)
                  refine g_aload_n rfl rfl ?_
                  refine g_aload_n rfl rfl ?_
                  refine g_getR rfl ms.1 (mr_got ms) ?_
                  refine g_iconst rfl ?_
                  refine g_iald (i := 2) rfl (mt_got ms) (by omega) (by omega) ?_
                  refine g_top (v2 := aI ((v20 : Int))) (congrArg aI (by exact (g22.sa (show SLa o ((o + 29)) by unfold SLa; omega) s20).2.2.1)) ?_
                  refine g_callVI [aI ((v20 : Int))] [aI ((p22 : Int)), aO (some (o + 27)), aO (some o)] rfl rfl rfl rfl (Nat.le_of_ble_eq_true rfl) ms.1 (r_neg (by omega) ms V22 (by have := G_23.2.2.1; omega) (g22.rb xv20) (by omega)) ?_
                  rintro _ _ ⟨p24, rfl, V24, rfl, g24, xp24⟩
                  have G_25 := G_23.trans (g24.gs _)
                  refine g_aload_n rfl rfl ?_
                  refine g_aload_n rfl rfl ?_
                  refine g_getR rfl ms.1 (mr_got ms) ?_
                  refine g_iconst rfl ?_
                  refine g_iald (i := 0) rfl (mt_got ms) (by omega) (by omega) ?_
                  refine g_top (v2 := aI ((t20 : Int))) (congrArg aI (by exact (g24.sa (show SLa o ((o + 29)) by unfold SLa; omega) (g22.sa (show SLa o ((o + 29)) by unfold SLa; omega) s20)).1)) ?_
                  refine g_callVI [aI ((t20 : Int))] [aI ((p24 : Int)), aI ((p22 : Int)), aO (some (o + 27)), aO (some o)] rfl rfl rfl rfl (Nat.le_of_ble_eq_true rfl) ms.1 (r_twice (by omega) ms V24 (by have := G_25.2.2.1; omega) (g24.rb (g22.rb xt20)) (by omega)) ?_
                  rintro _ _ ⟨p26, rfl, V26, rfl, g26, xp26⟩
                  have G_27 := G_25.trans (g26.gs _)
                  refine g_callVN [aO (some (o + 27)), aI ((p22 : Int)), aI ((p24 : Int)), aI ((p26 : Int))] [] rfl rfl rfl rfl (Nat.le_of_ble_eq_true rfl) ms.1 (m_put (by omega) ms V26 (by have := G_27.2.2.1; omega) ((o + 27)) (show SLa o ((o + 27)) by unfold SLa; omega) p22 p24 p26) ?_
                  rintro _ ⟨V28, rfl, p28, g28, s28, xp28⟩
                  have G_29 := G_27.trans (g28.wide (fun q hq => by have hq : q = o + 27 := hq; show q = o + 24 ∨ q = o + 25 ∨ q = o + 26 ∨ q = o + 29 ∨ q = o + 27; omega))
                  refine g_aload_n rfl rfl ?_
                  refine g_aload_n rfl rfl ?_
                  refine g_getR rfl ms.1 (mr_four ms) ?_
                  refine g_iconst rfl ?_
                  refine g_callVI [aO (some (o + 27)), aI 0] [] rfl rfl rfl rfl (Nat.le_of_ble_eq_true rfl) ms.1 (m_keepT0 (by omega) ms V28 ok (g28.mt (show ¬((o + 4) = o + 27) by omega) (show ¬((o + 5) = o + 27) by omega) (g26.mt (g24.mt (g22.mt (g20.mt (show ¬((o + 4) = o + 29) by omega) (show ¬((o + 5) = o + 29) by omega) (g18.mt (show ¬((o + 4) = o + 25) by omega) (show ¬((o + 5) = o + 25) by omega) (g16.mt (show ¬((o + 4) = o + 26) by omega) (show ¬((o + 5) = o + 26) by omega) (g14.mt (show ¬((o + 4) = o + 24) by omega) (show ¬((o + 5) = o + 24) by omega) mt)))))))) (by have := G_29.2.2.1; omega) ((o + 27)) (show SLa o ((o + 27)) by unfold SLa; omega) (show SB V28 o (o + 27) ((-P20.2.1, -P20.2.2.1, 2 * P20.1, 0)) (127) from ⟨_, _, _, _, s28, ((g28.rb (g26.rb (g24.rb xp22))).up (by omega)), ((g28.rb (g26.rb xp24)).up (by omega)), ((g28.rb xp26).up (by omega)), (xp28.up (by omega))⟩) (by omega)) ?_
                  rintro r30 _ ⟨V30, rfl, k30, e30, m30⟩
                  refine g_iret rfl ?_
                  rw [three_yes (by omega) (by omega)]
                  have eo : m_t3_O S a b c = some ((-P20.2.1, -P20.2.2.1, 2 * P20.1, 0)) := m_t3_yes eS20
                  rw [eo]
                  exact ⟨_, rfl, (Gs.km (G_29.wide (T2 := fun q => o + 24 ≤ q ∧ q ≤ o + 31) (fun q hq => by have hq : q = o + 24 ∨ q = o + 25 ∨ q = o + 26 ∨ q = o + 29 ∨ q = o + 27 := hq; show o + 24 ≤ q ∧ q ≤ o + 31; omega)) k30 (fun q hq => by have hq : q = o + 27 := hq; omega)).fr (fun q hq => hq) eV0, e30, m30⟩
              · skip
                refine g_bipush rfl ?_
                refine g_iret rfl ?_
                rw [three_far (by omega) (by omega)]
                exact ⟨V0, rfl, (KM.of (G0.wide (T2 := fun q => o + 24 ≤ q ∧ q ≤ o + 31) (fun q hq => by have hq : q = o + 24 ∨ q = o + 25 ∨ q = o + 26 ∨ q = o + 29 ∨ q = o + 27 := hq; show o + 24 ≤ q ∧ q ≤ o + 31; omega))).fr (fun q hq => hq) eV0, rfl, mt⟩
set_option maxRecDepth 100000 in
set_option maxHeartbeats 4000000 in
theorem m_three4 {w : aW} {d : Nat} (hd : 10 ≤ d) {h : aH} {o : Nat} (ms : MS h o) (V : Nat → Nat → Int) {S : aS} (ok : OkT S) (mt : MT V o S) (a b c : Int) : WP w d 312 [aO (some o), aI 4, aI a, aI b, aI c] (hw h V) (RI (fun r h1 => ∃ V1, h1 = hw h V1 ∧ FR V V1 o ∧ r = (threeM S 2 a b c (m_t_nine_O S a b c)).1 ∧ MT V1 o (threeM S 2 a b c (m_t_nine_O S a b c)).2)) := by
  obtain ⟨d, rfl⟩ : ∃ d1, d = d1 + 1 := ⟨d - 1, by omega⟩
  refine WP.enter (cd := cd_X12_three) rfl ?_
  have hn := ok.1
  have hls : largs 0 [aO (some o), aI 4, aI a, aI b, aI c] = [(0, aO (some o)), (1, aI 4), (2, aI a), (3, aI b), (4, aI c)] := rfl
  rw [hls]
  clear hls
  refine g_aload_n rfl rfl ?_
  refine g_iconst rfl ?_
  refine g_putI rfl ms.1 ?_
  refine g_hp (h2 := hw h (vset V o 31 0)) rfl ?_
  refine g_aload_n rfl rfl ?_
  refine g_iconst rfl ?_
  refine g_putI rfl ms.1 ?_
  obtain ⟨V0, eV0⟩ : ∃ W, W = vset (vset V o 31 0) o 1 0 := ⟨_, rfl⟩
  refine g_hp (h2 := hw h V0) (by rw [eV0]; rfl) ?_
  have mt : MT V0 o S := by rw [eV0]; exact mt.rs
  have f0 : V0 o 1 = 0 := by rw [eV0]; exact vset_eq _ _ _ _
  have G0 := Gs.refl V0 o (fun q => q = o + 24 ∨ q = o + 25 ∨ q = o + 26)
  refine g_iload_n rfl rfl ?_
  refine g_i2l rfl ?_
  refine g_lconst0 rfl ?_
  refine g_ldc2 rfl ?_
  refine g_callSI [aJ 4, aJ 0, aJ 8] [] rfl rfl rfl rfl (Nat.le_of_ble_eq_true rfl) (c_in (by omega) _ _ _ _) ?_
  rintro r1 _ ⟨rfl, rfl⟩
  refine g_b_eq rfl (fun c19 => ?_) (fun c19 => ?_)
  · skip
    refine g_iconst rfl ?_
    refine g_istore (l1 := [(5, aI 0), (0, aO (some o)), (1, aI 4), (2, aI a), (3, aI b), (4, aI c)]) rfl rfl ?_
    refine g_iload rfl rfl ?_
    refine g_if_eq_t rfl (by omega) ?_
    refine g_iconst rfl ?_
    refine g_istore (l1 := [(5, aI 0), (0, aO (some o)), (1, aI 4), (2, aI a), (3, aI b), (4, aI c)]) rfl rfl ?_
    refine g_iload rfl rfl ?_
    refine g_if_ne_f rfl (by omega) ?_
    refine g_iconst rfl ?_
    refine g_iret rfl ?_
    rw [three_no (by omega)]
    exact ⟨V0, rfl, (KM.of (G0.wide (T2 := fun q => o + 24 ≤ q ∧ q ≤ o + 31) (fun q hq => by have hq : q = o + 24 ∨ q = o + 25 ∨ q = o + 26 := hq; show o + 24 ≤ q ∧ q ≤ o + 31; omega))).fr (fun q hq => hq) eV0, rfl, mt⟩
  · skip
    refine g_aload_n rfl rfl ?_
    refine g_iload_n rfl rfl ?_
    refine g_iconst rfl ?_
    refine g_callVI [aI a, aI 0] [] rfl rfl rfl rfl (Nat.le_of_ble_eq_true rfl) ms.1 (m_is (by omega) ms V0 ok mt a 0) ?_
    rintro r2 _ ⟨rfl, e3⟩
    rw [e3]
    clear e3 r2
    refine g_b_eq rfl (fun c28 => ?_) (fun c28 => ?_)
    · skip
      refine g_iconst rfl ?_
      refine g_istore (l1 := [(5, aI 0), (0, aO (some o)), (1, aI 4), (2, aI a), (3, aI b), (4, aI c)]) rfl rfl ?_
      refine g_iload rfl rfl ?_
      refine g_if_eq_t rfl (by omega) ?_
      refine g_iconst rfl ?_
      refine g_istore (l1 := [(5, aI 0), (0, aO (some o)), (1, aI 4), (2, aI a), (3, aI b), (4, aI c)]) rfl rfl ?_
      refine g_iload rfl rfl ?_
      refine g_if_ne_f rfl (by omega) ?_
      refine g_iconst rfl ?_
      refine g_iret rfl ?_
      rw [three_no (by omega)]
      exact ⟨V0, rfl, (KM.of (G0.wide (T2 := fun q => o + 24 ≤ q ∧ q ≤ o + 31) (fun q hq => by have hq : q = o + 24 ∨ q = o + 25 ∨ q = o + 26 := hq; show o + 24 ≤ q ∧ q ≤ o + 31; omega))).fr (fun q hq => hq) eV0, rfl, mt⟩
    · skip
      refine g_aload_n rfl rfl ?_
      refine g_iload rfl rfl ?_
      refine g_iconst rfl ?_
      refine g_callVI [aI c, aI 0] [] rfl rfl rfl rfl (Nat.le_of_ble_eq_true rfl) ms.1 (m_is (by omega) ms V0 ok mt c 0) ?_
      rintro r4 _ ⟨rfl, e5⟩
      rw [e5]
      clear e5 r4
      refine g_b_eq rfl (fun c38 => ?_) (fun c38 => ?_)
      · skip
        refine g_iconst rfl ?_
        refine g_istore (l1 := [(5, aI 0), (0, aO (some o)), (1, aI 4), (2, aI a), (3, aI b), (4, aI c)]) rfl rfl ?_
        refine g_iload rfl rfl ?_
        refine g_if_eq_t rfl (by omega) ?_
        refine g_iconst rfl ?_
        refine g_istore (l1 := [(5, aI 0), (0, aO (some o)), (1, aI 4), (2, aI a), (3, aI b), (4, aI c)]) rfl rfl ?_
        refine g_iload rfl rfl ?_
        refine g_if_ne_f rfl (by omega) ?_
        refine g_iconst rfl ?_
        refine g_iret rfl ?_
        rw [three_no (by omega)]
        exact ⟨V0, rfl, (KM.of (G0.wide (T2 := fun q => o + 24 ≤ q ∧ q ≤ o + 31) (fun q hq => by have hq : q = o + 24 ∨ q = o + 25 ∨ q = o + 26 := hq; show o + 24 ≤ q ∧ q ≤ o + 31; omega))).fr (fun q hq => hq) eV0, rfl, mt⟩
      · skip
        refine g_iconst rfl ?_
        refine g_goto rfl ?_
        refine g_istore (l1 := [(5, aI 1), (0, aO (some o)), (1, aI 4), (2, aI a), (3, aI b), (4, aI c)]) rfl rfl ?_
        refine g_iload rfl rfl ?_
        refine g_if_eq_f rfl (by omega) ?_
        refine g_iload_n rfl rfl ?_
        refine g_bipush rfl ?_
        refine g_icmp_ge_f rfl (by omega) ?_
        refine g_aload_n rfl rfl ?_
        refine g_iload_n rfl rfl ?_
        refine g_iconst rfl ?_
        refine g_callVI [aI b, aI 0] [] rfl rfl rfl rfl (Nat.le_of_ble_eq_true rfl) ms.1 (m_is (by omega) ms V0 ok mt b 0) ?_
        rintro r6 _ ⟨rfl, e7⟩
        rw [e7]
        clear e7 r6
        refine g_b_eq rfl (fun c65 => ?_) (fun c65 => ?_)
        · skip
          refine g_iconst rfl ?_
          refine g_istore (l1 := [(5, aI 0), (0, aO (some o)), (1, aI 4), (2, aI a), (3, aI b), (4, aI c)]) rfl rfl ?_
          refine g_iload rfl rfl ?_
          refine g_if_ne_f rfl (by omega) ?_
          refine g_iconst rfl ?_
          refine g_iret rfl ?_
          rw [three_no (by omega)]
          exact ⟨V0, rfl, (KM.of (G0.wide (T2 := fun q => o + 24 ≤ q ∧ q ≤ o + 31) (fun q hq => by have hq : q = o + 24 ∨ q = o + 25 ∨ q = o + 26 := hq; show o + 24 ≤ q ∧ q ≤ o + 31; omega))).fr (fun q hq => hq) eV0, rfl, mt⟩
        · skip
          refine g_goto rfl ?_
          refine g_iconst rfl ?_
          refine g_goto rfl ?_
          refine g_istore (l1 := [(5, aI 1), (0, aO (some o)), (1, aI 4), (2, aI a), (3, aI b), (4, aI c)]) rfl rfl ?_
          refine g_iload rfl rfl ?_
          refine g_if_ne_t rfl (by omega) ?_
          have ha : 0 ≤ a ∧ a < sT S := by omega
          have hb : 0 ≤ b ∧ b < sT S := by omega
          have hc : 0 ≤ c ∧ c < sT S := by omega
          refine g_aload_n rfl rfl ?_
          refine g_iload_n rfl rfl ?_
          refine g_callVI [aI a] [] rfl rfl rfl rfl (Nat.le_of_ble_eq_true rfl) ms.1 (m_isFar (by omega) ms V0 ok mt a ha) ?_
          rintro r8 _ ⟨rfl, e9⟩
          rw [e9]
          clear e9 r8
          refine g_b_ne rfl (fun c115 => ?_) (fun c115 => ?_)
          · skip
            refine g_bipush rfl ?_
            refine g_iret rfl ?_
            rw [three_far (by omega) (by omega)]
            exact ⟨V0, rfl, (KM.of (G0.wide (T2 := fun q => o + 24 ≤ q ∧ q ≤ o + 31) (fun q hq => by have hq : q = o + 24 ∨ q = o + 25 ∨ q = o + 26 := hq; show o + 24 ≤ q ∧ q ≤ o + 31; omega))).fr (fun q hq => hq) eV0, rfl, mt⟩
          · skip
            refine g_aload_n rfl rfl ?_
            refine g_iload rfl rfl ?_
            refine g_callVI [aI c] [] rfl rfl rfl rfl (Nat.le_of_ble_eq_true rfl) ms.1 (m_isFar (by omega) ms V0 ok mt c hc) ?_
            rintro r10 _ ⟨rfl, e11⟩
            rw [e11]
            clear e11 r10
            refine g_b_ne rfl (fun c124 => ?_) (fun c124 => ?_)
            · skip
              refine g_bipush rfl ?_
              refine g_iret rfl ?_
              rw [three_far (by omega) (by omega)]
              exact ⟨V0, rfl, (KM.of (G0.wide (T2 := fun q => o + 24 ≤ q ∧ q ≤ o + 31) (fun q hq => by have hq : q = o + 24 ∨ q = o + 25 ∨ q = o + 26 := hq; show o + 24 ≤ q ∧ q ≤ o + 31; omega))).fr (fun q hq => hq) eV0, rfl, mt⟩
            · skip
              refine g_iload_n rfl rfl ?_
              refine g_bipush rfl ?_
              refine g_icmp_ge_f rfl (by omega) ?_
              refine g_aload_n rfl rfl ?_
              refine g_iload_n rfl rfl ?_
              refine g_callVI [aI b] [] rfl rfl rfl rfl (Nat.le_of_ble_eq_true rfl) ms.1 (m_isFar (by omega) ms V0 ok mt b hb) ?_
              rintro r12 _ ⟨rfl, e13⟩
              rw [e13]
              clear e13 r12
              refine g_b_eq rfl (fun c138 => ?_) (fun c138 => ?_)
              · skip
                refine g_aload_n rfl rfl ?_
                refine g_aload_n rfl rfl ?_
                refine g_getR rfl ms.1 (mr_one ms) ?_
                refine g_iload_n rfl rfl ?_
                refine g_callVN [aO (some (o + 24)), aI a] [] rfl rfl rfl rfl (Nat.le_of_ble_eq_true rfl) ms.1 (m_load (by omega) ms V0 ok mt (by have := G0.2.2.1; omega) ((o + 24)) (show SLa o ((o + 24)) by unfold SLa; omega) a ha) ?_
                rintro _ ⟨V14, rfl, g14, t14, u14, v14, y14, s14, xt14, xu14, xv14, xy14⟩
                have G_15 := G0.trans (g14.wide (fun q hq => by have hq : q = o + 24 := hq; show q = o + 24 ∨ q = o + 25 ∨ q = o + 26; omega))
                refine g_aload_n rfl rfl ?_
                refine g_aload_n rfl rfl ?_
                refine g_getR rfl ms.1 (mr_three ms) ?_
                refine g_iload rfl rfl ?_
                refine g_callVN [aO (some (o + 26)), aI c] [] rfl rfl rfl rfl (Nat.le_of_ble_eq_true rfl) ms.1 (m_load (by omega) ms V14 ok (g14.mt (show ¬((o + 4) = o + 24) by omega) (show ¬((o + 5) = o + 24) by omega) mt) (by have := G_15.2.2.1; omega) ((o + 26)) (show SLa o ((o + 26)) by unfold SLa; omega) c hc) ?_
                rintro _ ⟨V16, rfl, g16, t16, u16, v16, y16, s16, xt16, xu16, xv16, xy16⟩
                have G_17 := G_15.trans (g16.wide (fun q hq => by have hq : q = o + 26 := hq; show q = o + 24 ∨ q = o + 25 ∨ q = o + 26; omega))
                refine g_iload_n rfl rfl ?_
                refine g_bipush rfl ?_
                refine g_icmp_ge_f rfl (by omega) ?_
                refine g_aload_n rfl rfl ?_
                refine g_aload_n rfl rfl ?_
                refine g_getR rfl ms.1 (mr_two ms) ?_
                refine g_iload_n rfl rfl ?_
                refine g_callVN [aO (some (o + 25)), aI b] [] rfl rfl rfl rfl (Nat.le_of_ble_eq_true rfl) ms.1 (m_load (by omega) ms V16 ok (g16.mt (show ¬((o + 4) = o + 26) by omega) (show ¬((o + 5) = o + 26) by omega) (g14.mt (show ¬((o + 4) = o + 24) by omega) (show ¬((o + 5) = o + 24) by omega) mt)) (by have := G_17.2.2.1; omega) ((o + 25)) (show SLa o ((o + 25)) by unfold SLa; omega) b hb) ?_
                rintro _ ⟨V18, rfl, g18, t18, u18, v18, y18, s18, xt18, xu18, xv18, xy18⟩
                have G_19 := G_17.trans (g18.wide (fun q hq => by have hq : q = o + 25 := hq; show q = o + 24 ∨ q = o + 25 ∨ q = o + 26; omega))
                refine g_iload_n rfl rfl ?_
                refine g_tsw (t := 528) rfl (by rfl) ?_
                refine g_aload_n rfl rfl ?_
                refine g_callVI [] [] rfl rfl rfl rfl (Nat.le_of_ble_eq_true rfl) ms.1 (m_nine (by omega) ms V18 ok (g18.mt (show ¬((o + 4) = o + 25) by omega) (show ¬((o + 5) = o + 25) by omega) (g16.mt (show ¬((o + 4) = o + 26) by omega) (show ¬((o + 5) = o + 26) by omega) (g14.mt (show ¬((o + 4) = o + 24) by omega) (show ¬((o + 5) = o + 24) by omega) mt))) a b c (by have := G_19.2.2.1; omega) (show SB V18 o (o + 24) (tpR S a) (20) from ⟨_, _, _, _, (g18.sa (show SLa o ((o + 24)) by unfold SLa; omega) (show ¬(o + 24 = o + 25) by omega) (g16.sa (show SLa o ((o + 24)) by unfold SLa; omega) (show ¬(o + 24 = o + 26) by omega) s14)), ((g18.rb (g16.rb xt14)).up (by omega)), ((g18.rb (g16.rb xu14)).up (by omega)), ((g18.rb (g16.rb xv14)).up (by omega)), ((g18.rb (g16.rb xy14)).up (by omega))⟩) (show SB V18 o (o + 25) (tpR S b) (20) from ⟨_, _, _, _, s18, (xt18.up (by omega)), (xu18.up (by omega)), (xv18.up (by omega)), (xy18.up (by omega))⟩) (show SB V18 o (o + 26) (tpR S c) (20) from ⟨_, _, _, _, (g18.sa (show SLa o ((o + 26)) by unfold SLa; omega) (show ¬(o + 26 = o + 25) by omega) s16), ((g18.rb xt16).up (by omega)), ((g18.rb xu16).up (by omega)), ((g18.rb xv16).up (by omega)), ((g18.rb xy16).up (by omega))⟩)) ?_
                rintro r20 _ ⟨V20, rfl, k20, e20, m20⟩
                refine g_iret rfl ?_
                rw [three_yes (by omega) (by omega)]
                exact ⟨_, rfl, (Gs.km (G_19.wide (T2 := fun q => o + 24 ≤ q ∧ q ≤ o + 31) (fun q hq => by have hq : q = o + 24 ∨ q = o + 25 ∨ q = o + 26 := hq; show o + 24 ≤ q ∧ q ≤ o + 31; omega)) k20 (fun q hq => by omega)).fr (fun q hq => hq) eV0, e20, m20⟩
              · skip
                refine g_bipush rfl ?_
                refine g_iret rfl ?_
                rw [three_far (by omega) (by omega)]
                exact ⟨V0, rfl, (KM.of (G0.wide (T2 := fun q => o + 24 ≤ q ∧ q ≤ o + 31) (fun q hq => by have hq : q = o + 24 ∨ q = o + 25 ∨ q = o + 26 := hq; show o + 24 ≤ q ∧ q ≤ o + 31; omega))).fr (fun q hq => hq) eV0, rfl, mt⟩
def m_t5_O (S : aS) (a b c : Int) : Option T4 := m_harm_O (tpR S a) (tpR S b) ((tpR S c).1, (tpR S c).2.1, (tpR S c).2.2.1, 0)
set_option maxRecDepth 100000 in
set_option maxHeartbeats 4000000 in
theorem m_three5 {w : aW} {d : Nat} (hd : 10 ≤ d) {h : aH} {o : Nat} (ms : MS h o) (V : Nat → Nat → Int) {S : aS} (ok : OkT S) (mt : MT V o S) (a b c : Int) : WP w d 312 [aO (some o), aI 5, aI a, aI b, aI c] (hw h V) (RI (fun r h1 => ∃ V1, h1 = hw h V1 ∧ FR V V1 o ∧ r = (threeM S 0 a b c (m_t5_O S a b c)).1 ∧ MT V1 o (threeM S 0 a b c (m_t5_O S a b c)).2)) := by
  obtain ⟨d, rfl⟩ : ∃ d1, d = d1 + 1 := ⟨d - 1, by omega⟩
  refine WP.enter (cd := cd_X12_three) rfl ?_
  have hn := ok.1
  have hls : largs 0 [aO (some o), aI 5, aI a, aI b, aI c] = [(0, aO (some o)), (1, aI 5), (2, aI a), (3, aI b), (4, aI c)] := rfl
  rw [hls]
  clear hls
  refine g_aload_n rfl rfl ?_
  refine g_iconst rfl ?_
  refine g_putI rfl ms.1 ?_
  refine g_hp (h2 := hw h (vset V o 31 0)) rfl ?_
  refine g_aload_n rfl rfl ?_
  refine g_iconst rfl ?_
  refine g_putI rfl ms.1 ?_
  obtain ⟨V0, eV0⟩ : ∃ W, W = vset (vset V o 31 0) o 1 0 := ⟨_, rfl⟩
  refine g_hp (h2 := hw h V0) (by rw [eV0]; rfl) ?_
  have mt : MT V0 o S := by rw [eV0]; exact mt.rs
  have f0 : V0 o 1 = 0 := by rw [eV0]; exact vset_eq _ _ _ _
  have G0 := Gs.refl V0 o (fun q => q = o + 24 ∨ q = o + 25 ∨ q = o + 26 ∨ q = o + 29 ∨ q = o + 30 ∨ q = o + 27 ∨ q = o + 28)
  refine g_iload_n rfl rfl ?_
  refine g_i2l rfl ?_
  refine g_lconst0 rfl ?_
  refine g_ldc2 rfl ?_
  refine g_callSI [aJ 5, aJ 0, aJ 8] [] rfl rfl rfl rfl (Nat.le_of_ble_eq_true rfl) (c_in (by omega) _ _ _ _) ?_
  rintro r1 _ ⟨rfl, rfl⟩
  refine g_b_eq rfl (fun c19 => ?_) (fun c19 => ?_)
  · skip
    refine g_iconst rfl ?_
    refine g_istore (l1 := [(5, aI 0), (0, aO (some o)), (1, aI 5), (2, aI a), (3, aI b), (4, aI c)]) rfl rfl ?_
    refine g_iload rfl rfl ?_
    refine g_if_eq_t rfl (by omega) ?_
    refine g_iconst rfl ?_
    refine g_istore (l1 := [(5, aI 0), (0, aO (some o)), (1, aI 5), (2, aI a), (3, aI b), (4, aI c)]) rfl rfl ?_
    refine g_iload rfl rfl ?_
    refine g_if_ne_f rfl (by omega) ?_
    refine g_iconst rfl ?_
    refine g_iret rfl ?_
    rw [three_no (by omega)]
    exact ⟨V0, rfl, (KM.of (G0.wide (T2 := fun q => o + 24 ≤ q ∧ q ≤ o + 31) (fun q hq => by have hq : q = o + 24 ∨ q = o + 25 ∨ q = o + 26 ∨ q = o + 29 ∨ q = o + 30 ∨ q = o + 27 ∨ q = o + 28 := hq; show o + 24 ≤ q ∧ q ≤ o + 31; omega))).fr (fun q hq => hq) eV0, rfl, mt⟩
  · skip
    refine g_aload_n rfl rfl ?_
    refine g_iload_n rfl rfl ?_
    refine g_iconst rfl ?_
    refine g_callVI [aI a, aI 0] [] rfl rfl rfl rfl (Nat.le_of_ble_eq_true rfl) ms.1 (m_is (by omega) ms V0 ok mt a 0) ?_
    rintro r2 _ ⟨rfl, e3⟩
    rw [e3]
    clear e3 r2
    refine g_b_eq rfl (fun c28 => ?_) (fun c28 => ?_)
    · skip
      refine g_iconst rfl ?_
      refine g_istore (l1 := [(5, aI 0), (0, aO (some o)), (1, aI 5), (2, aI a), (3, aI b), (4, aI c)]) rfl rfl ?_
      refine g_iload rfl rfl ?_
      refine g_if_eq_t rfl (by omega) ?_
      refine g_iconst rfl ?_
      refine g_istore (l1 := [(5, aI 0), (0, aO (some o)), (1, aI 5), (2, aI a), (3, aI b), (4, aI c)]) rfl rfl ?_
      refine g_iload rfl rfl ?_
      refine g_if_ne_f rfl (by omega) ?_
      refine g_iconst rfl ?_
      refine g_iret rfl ?_
      rw [three_no (by omega)]
      exact ⟨V0, rfl, (KM.of (G0.wide (T2 := fun q => o + 24 ≤ q ∧ q ≤ o + 31) (fun q hq => by have hq : q = o + 24 ∨ q = o + 25 ∨ q = o + 26 ∨ q = o + 29 ∨ q = o + 30 ∨ q = o + 27 ∨ q = o + 28 := hq; show o + 24 ≤ q ∧ q ≤ o + 31; omega))).fr (fun q hq => hq) eV0, rfl, mt⟩
    · skip
      refine g_aload_n rfl rfl ?_
      refine g_iload rfl rfl ?_
      refine g_iconst rfl ?_
      refine g_callVI [aI c, aI 0] [] rfl rfl rfl rfl (Nat.le_of_ble_eq_true rfl) ms.1 (m_is (by omega) ms V0 ok mt c 0) ?_
      rintro r4 _ ⟨rfl, e5⟩
      rw [e5]
      clear e5 r4
      refine g_b_eq rfl (fun c38 => ?_) (fun c38 => ?_)
      · skip
        refine g_iconst rfl ?_
        refine g_istore (l1 := [(5, aI 0), (0, aO (some o)), (1, aI 5), (2, aI a), (3, aI b), (4, aI c)]) rfl rfl ?_
        refine g_iload rfl rfl ?_
        refine g_if_eq_t rfl (by omega) ?_
        refine g_iconst rfl ?_
        refine g_istore (l1 := [(5, aI 0), (0, aO (some o)), (1, aI 5), (2, aI a), (3, aI b), (4, aI c)]) rfl rfl ?_
        refine g_iload rfl rfl ?_
        refine g_if_ne_f rfl (by omega) ?_
        refine g_iconst rfl ?_
        refine g_iret rfl ?_
        rw [three_no (by omega)]
        exact ⟨V0, rfl, (KM.of (G0.wide (T2 := fun q => o + 24 ≤ q ∧ q ≤ o + 31) (fun q hq => by have hq : q = o + 24 ∨ q = o + 25 ∨ q = o + 26 ∨ q = o + 29 ∨ q = o + 30 ∨ q = o + 27 ∨ q = o + 28 := hq; show o + 24 ≤ q ∧ q ≤ o + 31; omega))).fr (fun q hq => hq) eV0, rfl, mt⟩
      · skip
        refine g_iconst rfl ?_
        refine g_goto rfl ?_
        refine g_istore (l1 := [(5, aI 1), (0, aO (some o)), (1, aI 5), (2, aI a), (3, aI b), (4, aI c)]) rfl rfl ?_
        refine g_iload rfl rfl ?_
        refine g_if_eq_f rfl (by omega) ?_
        refine g_iload_n rfl rfl ?_
        refine g_bipush rfl ?_
        refine g_icmp_ge_f rfl (by omega) ?_
        refine g_aload_n rfl rfl ?_
        refine g_iload_n rfl rfl ?_
        refine g_iconst rfl ?_
        refine g_callVI [aI b, aI 0] [] rfl rfl rfl rfl (Nat.le_of_ble_eq_true rfl) ms.1 (m_is (by omega) ms V0 ok mt b 0) ?_
        rintro r6 _ ⟨rfl, e7⟩
        rw [e7]
        clear e7 r6
        refine g_b_eq rfl (fun c65 => ?_) (fun c65 => ?_)
        · skip
          refine g_iconst rfl ?_
          refine g_istore (l1 := [(5, aI 0), (0, aO (some o)), (1, aI 5), (2, aI a), (3, aI b), (4, aI c)]) rfl rfl ?_
          refine g_iload rfl rfl ?_
          refine g_if_ne_f rfl (by omega) ?_
          refine g_iconst rfl ?_
          refine g_iret rfl ?_
          rw [three_no (by omega)]
          exact ⟨V0, rfl, (KM.of (G0.wide (T2 := fun q => o + 24 ≤ q ∧ q ≤ o + 31) (fun q hq => by have hq : q = o + 24 ∨ q = o + 25 ∨ q = o + 26 ∨ q = o + 29 ∨ q = o + 30 ∨ q = o + 27 ∨ q = o + 28 := hq; show o + 24 ≤ q ∧ q ≤ o + 31; omega))).fr (fun q hq => hq) eV0, rfl, mt⟩
        · skip
          refine g_goto rfl ?_
          refine g_iconst rfl ?_
          refine g_goto rfl ?_
          refine g_istore (l1 := [(5, aI 1), (0, aO (some o)), (1, aI 5), (2, aI a), (3, aI b), (4, aI c)]) rfl rfl ?_
          refine g_iload rfl rfl ?_
          refine g_if_ne_t rfl (by omega) ?_
          have ha : 0 ≤ a ∧ a < sT S := by omega
          have hb : 0 ≤ b ∧ b < sT S := by omega
          have hc : 0 ≤ c ∧ c < sT S := by omega
          refine g_aload_n rfl rfl ?_
          refine g_iload_n rfl rfl ?_
          refine g_callVI [aI a] [] rfl rfl rfl rfl (Nat.le_of_ble_eq_true rfl) ms.1 (m_isFar (by omega) ms V0 ok mt a ha) ?_
          rintro r8 _ ⟨rfl, e9⟩
          rw [e9]
          clear e9 r8
          refine g_b_ne rfl (fun c115 => ?_) (fun c115 => ?_)
          · skip
            refine g_bipush rfl ?_
            refine g_iret rfl ?_
            rw [three_far (by omega) (by omega)]
            exact ⟨V0, rfl, (KM.of (G0.wide (T2 := fun q => o + 24 ≤ q ∧ q ≤ o + 31) (fun q hq => by have hq : q = o + 24 ∨ q = o + 25 ∨ q = o + 26 ∨ q = o + 29 ∨ q = o + 30 ∨ q = o + 27 ∨ q = o + 28 := hq; show o + 24 ≤ q ∧ q ≤ o + 31; omega))).fr (fun q hq => hq) eV0, rfl, mt⟩
          · skip
            refine g_aload_n rfl rfl ?_
            refine g_iload rfl rfl ?_
            refine g_callVI [aI c] [] rfl rfl rfl rfl (Nat.le_of_ble_eq_true rfl) ms.1 (m_isFar (by omega) ms V0 ok mt c hc) ?_
            rintro r10 _ ⟨rfl, e11⟩
            rw [e11]
            clear e11 r10
            refine g_b_ne rfl (fun c124 => ?_) (fun c124 => ?_)
            · skip
              refine g_bipush rfl ?_
              refine g_iret rfl ?_
              rw [three_far (by omega) (by omega)]
              exact ⟨V0, rfl, (KM.of (G0.wide (T2 := fun q => o + 24 ≤ q ∧ q ≤ o + 31) (fun q hq => by have hq : q = o + 24 ∨ q = o + 25 ∨ q = o + 26 ∨ q = o + 29 ∨ q = o + 30 ∨ q = o + 27 ∨ q = o + 28 := hq; show o + 24 ≤ q ∧ q ≤ o + 31; omega))).fr (fun q hq => hq) eV0, rfl, mt⟩
            · skip
              refine g_iload_n rfl rfl ?_
              refine g_bipush rfl ?_
              refine g_icmp_ge_f rfl (by omega) ?_
              refine g_aload_n rfl rfl ?_
              refine g_iload_n rfl rfl ?_
              refine g_callVI [aI b] [] rfl rfl rfl rfl (Nat.le_of_ble_eq_true rfl) ms.1 (m_isFar (by omega) ms V0 ok mt b hb) ?_
              rintro r12 _ ⟨rfl, e13⟩
              rw [e13]
              clear e13 r12
              refine g_b_eq rfl (fun c138 => ?_) (fun c138 => ?_)
              · skip
                refine g_aload_n rfl rfl ?_
                refine g_aload_n rfl rfl ?_
                refine g_getR rfl ms.1 (mr_one ms) ?_
                refine g_iload_n rfl rfl ?_
                refine g_callVN [aO (some (o + 24)), aI a] [] rfl rfl rfl rfl (Nat.le_of_ble_eq_true rfl) ms.1 (m_load (by omega) ms V0 ok mt (by have := G0.2.2.1; omega) ((o + 24)) (show SLa o ((o + 24)) by unfold SLa; omega) a ha) ?_
                rintro _ ⟨V14, rfl, g14, t14, u14, v14, y14, s14, xt14, xu14, xv14, xy14⟩
                have G_15 := G0.trans (g14.wide (fun q hq => by have hq : q = o + 24 := hq; show q = o + 24 ∨ q = o + 25 ∨ q = o + 26 ∨ q = o + 29 ∨ q = o + 30 ∨ q = o + 27 ∨ q = o + 28; omega))
                refine g_aload_n rfl rfl ?_
                refine g_aload_n rfl rfl ?_
                refine g_getR rfl ms.1 (mr_three ms) ?_
                refine g_iload rfl rfl ?_
                refine g_callVN [aO (some (o + 26)), aI c] [] rfl rfl rfl rfl (Nat.le_of_ble_eq_true rfl) ms.1 (m_load (by omega) ms V14 ok (g14.mt (show ¬((o + 4) = o + 24) by omega) (show ¬((o + 5) = o + 24) by omega) mt) (by have := G_15.2.2.1; omega) ((o + 26)) (show SLa o ((o + 26)) by unfold SLa; omega) c hc) ?_
                rintro _ ⟨V16, rfl, g16, t16, u16, v16, y16, s16, xt16, xu16, xv16, xy16⟩
                have G_17 := G_15.trans (g16.wide (fun q hq => by have hq : q = o + 26 := hq; show q = o + 24 ∨ q = o + 25 ∨ q = o + 26 ∨ q = o + 29 ∨ q = o + 30 ∨ q = o + 27 ∨ q = o + 28; omega))
                refine g_iload_n rfl rfl ?_
                refine g_bipush rfl ?_
                refine g_icmp_ge_f rfl (by omega) ?_
                refine g_aload_n rfl rfl ?_
                refine g_aload_n rfl rfl ?_
                refine g_getR rfl ms.1 (mr_two ms) ?_
                refine g_iload_n rfl rfl ?_
                refine g_callVN [aO (some (o + 25)), aI b] [] rfl rfl rfl rfl (Nat.le_of_ble_eq_true rfl) ms.1 (m_load (by omega) ms V16 ok (g16.mt (show ¬((o + 4) = o + 26) by omega) (show ¬((o + 5) = o + 26) by omega) (g14.mt (show ¬((o + 4) = o + 24) by omega) (show ¬((o + 5) = o + 24) by omega) mt)) (by have := G_17.2.2.1; omega) ((o + 25)) (show SLa o ((o + 25)) by unfold SLa; omega) b hb) ?_
                rintro _ ⟨V18, rfl, g18, t18, u18, v18, y18, s18, xt18, xu18, xv18, xy18⟩
                have G_19 := G_17.trans (g18.wide (fun q hq => by have hq : q = o + 25 := hq; show q = o + 24 ∨ q = o + 25 ∨ q = o + 26 ∨ q = o + 29 ∨ q = o + 30 ∨ q = o + 27 ∨ q = o + 28; omega))
                refine g_iload_n rfl rfl ?_
                refine g_tsw (t := 533) rfl (by rfl) ?_
                refine g_aload_n rfl rfl ?_
                refine g_aload_n rfl rfl ?_
                refine g_getR rfl ms.1 (mr_got ms) ?_
                refine g_iload rfl rfl ?_
                refine g_callVN [aO (some (o + 29)), aI c] [] rfl rfl rfl rfl (Nat.le_of_ble_eq_true rfl) ms.1 (m_load (by omega) ms V18 ok (g18.mt (show ¬((o + 4) = o + 25) by omega) (show ¬((o + 5) = o + 25) by omega) (g16.mt (show ¬((o + 4) = o + 26) by omega) (show ¬((o + 5) = o + 26) by omega) (g14.mt (show ¬((o + 4) = o + 24) by omega) (show ¬((o + 5) = o + 24) by omega) mt))) (by have := G_19.2.2.1; omega) ((o + 29)) (show SLa o ((o + 29)) by unfold SLa; omega) c hc) ?_
                rintro _ ⟨V20, rfl, g20, t20, u20, v20, y20, s20, xt20, xu20, xv20, xy20⟩
                have G_21 := G_19.trans (g20.wide (fun q hq => by have hq : q = o + 29 := hq; show q = o + 24 ∨ q = o + 25 ∨ q = o + 26 ∨ q = o + 29 ∨ q = o + 30 ∨ q = o + 27 ∨ q = o + 28; omega))
                refine g_aload_n rfl rfl ?_
                refine g_aload_n rfl rfl ?_
                refine g_getR rfl ms.1 (mr_limits ms) ?_
                refine g_aload_n rfl rfl ?_
                refine g_getR rfl ms.1 (mr_got ms) ?_
                refine g_iconst rfl ?_
                refine g_iald (i := 0) rfl (mt_got ms) (by omega) (by omega) ?_
                refine g_top (v2 := aI ((t20 : Int))) (congrArg aI (by exact s20.1)) ?_
                refine g_aload_n rfl rfl ?_
                refine g_getR rfl ms.1 (mr_got ms) ?_
                refine g_iconst rfl ?_
                refine g_iald (i := 1) rfl (mt_got ms) (by omega) (by omega) ?_
                refine g_top (v2 := aI ((u20 : Int))) (congrArg aI (by exact s20.2.1)) ?_
                refine g_aload_n rfl rfl ?_
                refine g_getR rfl ms.1 (mr_got ms) ?_
                refine g_iconst rfl ?_
                refine g_iald (i := 2) rfl (mt_got ms) (by omega) (by omega) ?_
                refine g_top (v2 := aI ((v20 : Int))) (congrArg aI (by exact s20.2.2.1)) ?_
                refine g_callVN [aO (some (o + 30)), aI ((t20 : Int)), aI ((u20 : Int)), aI ((v20 : Int))] [] rfl rfl rfl rfl (Nat.le_of_ble_eq_true rfl) ms.1 (m_put (by omega) ms V20 (by have := G_21.2.2.1; omega) ((o + 30)) (show SLa o ((o + 30)) by unfold SLa; omega) t20 u20 v20) ?_
                rintro _ ⟨V22, rfl, p22, g22, s22, xp22⟩
                have G_23 := G_21.trans (g22.wide (fun q hq => by have hq : q = o + 30 := hq; show q = o + 24 ∨ q = o + 25 ∨ q = o + 26 ∨ q = o + 29 ∨ q = o + 30 ∨ q = o + 27 ∨ q = o + 28; omega))
                refine g_aload_n rfl rfl ?_
                refine g_aload_n rfl rfl ?_
                refine g_getR rfl ms.1 (mr_one ms) ?_
                refine g_aload_n rfl rfl ?_
                refine g_getR rfl ms.1 (mr_two ms) ?_
                refine g_aload_n rfl rfl ?_
                refine g_getR rfl ms.1 (mr_limits ms) ?_
                refine g_aload_n rfl rfl ?_
                refine g_getR rfl ms.1 (mr_got ms) ?_
                refine g_callVI [aO (some (o + 24)), aO (some (o + 25)), aO (some (o + 30)), aO (some (o + 29))] [] rfl rfl rfl rfl (Nat.le_of_ble_eq_true rfl) ms.1 (m_harm (by omega) ms V22 (by have := G_23.2.2.1; omega) ((o + 24)) (show SLa o ((o + 24)) by unfold SLa; omega) (show SB V22 o (o + 24) (tpR S a) (20) from ⟨_, _, _, _, (g22.sa (show SLa o ((o + 24)) by unfold SLa; omega) (show ¬(o + 24 = o + 30) by omega) (g20.sa (show SLa o ((o + 24)) by unfold SLa; omega) (show ¬(o + 24 = o + 29) by omega) (g18.sa (show SLa o ((o + 24)) by unfold SLa; omega) (show ¬(o + 24 = o + 25) by omega) (g16.sa (show SLa o ((o + 24)) by unfold SLa; omega) (show ¬(o + 24 = o + 26) by omega) s14)))), ((g22.rb (g20.rb (g18.rb (g16.rb xt14)))).up (by omega)), ((g22.rb (g20.rb (g18.rb (g16.rb xu14)))).up (by omega)), ((g22.rb (g20.rb (g18.rb (g16.rb xv14)))).up (by omega)), ((g22.rb (g20.rb (g18.rb (g16.rb xy14)))).up (by omega))⟩) ((o + 25)) (show SLa o ((o + 25)) by unfold SLa; omega) (show SB V22 o (o + 25) (tpR S b) (20) from ⟨_, _, _, _, (g22.sa (show SLa o ((o + 25)) by unfold SLa; omega) (show ¬(o + 25 = o + 30) by omega) (g20.sa (show SLa o ((o + 25)) by unfold SLa; omega) (show ¬(o + 25 = o + 29) by omega) s18)), ((g22.rb (g20.rb xt18)).up (by omega)), ((g22.rb (g20.rb xu18)).up (by omega)), ((g22.rb (g20.rb xv18)).up (by omega)), ((g22.rb (g20.rb xy18)).up (by omega))⟩) ((o + 30)) (show SLa o ((o + 30)) by unfold SLa; omega) (show SB V22 o (o + 30) (((tpR S c).1, (tpR S c).2.1, (tpR S c).2.2.1, 0)) (20) from ⟨_, _, _, _, s22, ((g22.rb xt20).up (by omega)), ((g22.rb xu20).up (by omega)), ((g22.rb xv20).up (by omega)), (xp22.up (by omega))⟩) ((o + 29)) (show SLa o ((o + 29)) by unfold SLa; omega) (by omega) (by omega) (by omega) (by omega) (by omega) (by omega) (by omega) (by omega) (by omega)) ?_
                rintro r24 _ ⟨V24, rfl, g24, q24⟩
                have G_25 := G_23.trans (g24.wide (fun q hq => by have hq : q = o + 26 ∨ q = o + 27 ∨ q = o + 28 ∨ q = o + 29 := hq; show q = o + 24 ∨ q = o + 25 ∨ q = o + 26 ∨ q = o + 29 ∨ q = o + 30 ∨ q = o + 27 ∨ q = o + 28; omega))
                cases eS24 : m_harm_O (tpR S a) (tpR S b) (((tpR S c).1, (tpR S c).2.1, (tpR S c).2.2.1, 0)) with
                | none =>
                  rw [eS24] at q24
                  obtain rfl : r24 = 0 := q24
                  refine g_if_eq_t rfl (by omega) ?_
                  refine g_bipush rfl ?_
                  refine g_iret rfl ?_
                  rw [three_yes (by omega) (by omega)]
                  have eo : m_t5_O S a b c = none := by unfold m_t5_O; exact eS24
                  rw [eo]
                  exact ⟨_, rfl, (KM.of (G_25.wide (T2 := fun q => o + 24 ≤ q ∧ q ≤ o + 31) (fun q hq => by have hq : q = o + 24 ∨ q = o + 25 ∨ q = o + 26 ∨ q = o + 29 ∨ q = o + 30 ∨ q = o + 27 ∨ q = o + 28 := hq; show o + 24 ≤ q ∧ q ≤ o + 31; omega))).fr (fun q hq => hq) eV0, rfl, (g24.mt (show ¬((o + 4) = o + 26 ∨ (o + 4) = o + 27 ∨ (o + 4) = o + 28 ∨ (o + 4) = o + 29) by omega) (show ¬((o + 5) = o + 26 ∨ (o + 5) = o + 27 ∨ (o + 5) = o + 28 ∨ (o + 5) = o + 29) by omega) (g22.mt (show ¬((o + 4) = o + 30) by omega) (show ¬((o + 5) = o + 30) by omega) (g20.mt (show ¬((o + 4) = o + 29) by omega) (show ¬((o + 5) = o + 29) by omega) (g18.mt (show ¬((o + 4) = o + 25) by omega) (show ¬((o + 5) = o + 25) by omega) (g16.mt (show ¬((o + 4) = o + 26) by omega) (show ¬((o + 5) = o + 26) by omega) (g14.mt (show ¬((o + 4) = o + 24) by omega) (show ¬((o + 5) = o + 24) by omega) mt))))))⟩
                | some P24 =>
                  rw [eS24] at q24
                  obtain ⟨rfl, t24, u24, v24, y24, s24, xt24, xu24, xv24, xy24⟩ := q24
                  refine g_if_eq_f rfl (by omega) ?_
                  refine g_aload_n rfl rfl ?_
                  refine g_aload_n rfl rfl ?_
                  refine g_getR rfl ms.1 (mr_got ms) ?_
                  refine g_iconst rfl ?_
                  refine g_callVI [aO (some (o + 29)), aI 0] [] rfl rfl rfl rfl (Nat.le_of_ble_eq_true rfl) ms.1 (m_keepT0 (by omega) ms V24 ok (g24.mt (show ¬((o + 4) = o + 26 ∨ (o + 4) = o + 27 ∨ (o + 4) = o + 28 ∨ (o + 4) = o + 29) by omega) (show ¬((o + 5) = o + 26 ∨ (o + 5) = o + 27 ∨ (o + 5) = o + 28 ∨ (o + 5) = o + 29) by omega) (g22.mt (show ¬((o + 4) = o + 30) by omega) (show ¬((o + 5) = o + 30) by omega) (g20.mt (show ¬((o + 4) = o + 29) by omega) (show ¬((o + 5) = o + 29) by omega) (g18.mt (show ¬((o + 4) = o + 25) by omega) (show ¬((o + 5) = o + 25) by omega) (g16.mt (show ¬((o + 4) = o + 26) by omega) (show ¬((o + 5) = o + 26) by omega) (g14.mt (show ¬((o + 4) = o + 24) by omega) (show ¬((o + 5) = o + 24) by omega) mt)))))) (by have := G_25.2.2.1; omega) ((o + 29)) (show SLa o ((o + 29)) by unfold SLa; omega) (show SB V24 o (o + 29) P24 (62) from ⟨_, _, _, _, s24, (xt24.up (by omega)), (xu24.up (by omega)), (xv24.up (by omega)), (xy24.up (by omega))⟩) (by omega)) ?_
                  rintro r26 _ ⟨V26, rfl, k26, e26, m26⟩
                  refine g_goto rfl ?_
                  refine g_iret rfl ?_
                  rw [three_yes (by omega) (by omega)]
                  have eo : m_t5_O S a b c = some (P24) := by unfold m_t5_O; exact eS24
                  rw [eo]
                  exact ⟨_, rfl, (Gs.km (G_25.wide (T2 := fun q => o + 24 ≤ q ∧ q ≤ o + 31) (fun q hq => by have hq : q = o + 24 ∨ q = o + 25 ∨ q = o + 26 ∨ q = o + 29 ∨ q = o + 30 ∨ q = o + 27 ∨ q = o + 28 := hq; show o + 24 ≤ q ∧ q ≤ o + 31; omega)) k26 (fun q hq => by have hq : q = o + 29 := hq; omega)).fr (fun q hq => hq) eV0, e26, m26⟩
              · skip
                refine g_bipush rfl ?_
                refine g_iret rfl ?_
                rw [three_far (by omega) (by omega)]
                exact ⟨V0, rfl, (KM.of (G0.wide (T2 := fun q => o + 24 ≤ q ∧ q ≤ o + 31) (fun q hq => by have hq : q = o + 24 ∨ q = o + 25 ∨ q = o + 26 ∨ q = o + 29 ∨ q = o + 30 ∨ q = o + 27 ∨ q = o + 28 := hq; show o + 24 ≤ q ∧ q ≤ o + 31; omega))).fr (fun q hq => hq) eV0, rfl, mt⟩
set_option maxRecDepth 100000 in
set_option maxHeartbeats 4000000 in
theorem m_three6 {w : aW} {d : Nat} (hd : 10 ≤ d) {h : aH} {o : Nat} (ms : MS h o) (V : Nat → Nat → Int) {S : aS} (ok : OkT S) (mt : MT V o S) (a b c : Int) : WP w d 312 [aO (some o), aI 6, aI a, aI b, aI c] (hw h V) (RI (fun r h1 => ∃ V1, h1 = hw h V1 ∧ FR V V1 o ∧ r = (threeM S 0 a b c (m_t_moved_O S a b c)).1 ∧ MT V1 o (threeM S 0 a b c (m_t_moved_O S a b c)).2)) := by
  obtain ⟨d, rfl⟩ : ∃ d1, d = d1 + 1 := ⟨d - 1, by omega⟩
  refine WP.enter (cd := cd_X12_three) rfl ?_
  have hn := ok.1
  have hls : largs 0 [aO (some o), aI 6, aI a, aI b, aI c] = [(0, aO (some o)), (1, aI 6), (2, aI a), (3, aI b), (4, aI c)] := rfl
  rw [hls]
  clear hls
  refine g_aload_n rfl rfl ?_
  refine g_iconst rfl ?_
  refine g_putI rfl ms.1 ?_
  refine g_hp (h2 := hw h (vset V o 31 0)) rfl ?_
  refine g_aload_n rfl rfl ?_
  refine g_iconst rfl ?_
  refine g_putI rfl ms.1 ?_
  obtain ⟨V0, eV0⟩ : ∃ W, W = vset (vset V o 31 0) o 1 0 := ⟨_, rfl⟩
  refine g_hp (h2 := hw h V0) (by rw [eV0]; rfl) ?_
  have mt : MT V0 o S := by rw [eV0]; exact mt.rs
  have f0 : V0 o 1 = 0 := by rw [eV0]; exact vset_eq _ _ _ _
  have G0 := Gs.refl V0 o (fun q => q = o + 24 ∨ q = o + 25 ∨ q = o + 26)
  refine g_iload_n rfl rfl ?_
  refine g_i2l rfl ?_
  refine g_lconst0 rfl ?_
  refine g_ldc2 rfl ?_
  refine g_callSI [aJ 6, aJ 0, aJ 8] [] rfl rfl rfl rfl (Nat.le_of_ble_eq_true rfl) (c_in (by omega) _ _ _ _) ?_
  rintro r1 _ ⟨rfl, rfl⟩
  refine g_b_eq rfl (fun c19 => ?_) (fun c19 => ?_)
  · skip
    refine g_iconst rfl ?_
    refine g_istore (l1 := [(5, aI 0), (0, aO (some o)), (1, aI 6), (2, aI a), (3, aI b), (4, aI c)]) rfl rfl ?_
    refine g_iload rfl rfl ?_
    refine g_if_eq_t rfl (by omega) ?_
    refine g_iconst rfl ?_
    refine g_istore (l1 := [(5, aI 0), (0, aO (some o)), (1, aI 6), (2, aI a), (3, aI b), (4, aI c)]) rfl rfl ?_
    refine g_iload rfl rfl ?_
    refine g_if_ne_f rfl (by omega) ?_
    refine g_iconst rfl ?_
    refine g_iret rfl ?_
    rw [three_no (by omega)]
    exact ⟨V0, rfl, (KM.of (G0.wide (T2 := fun q => o + 24 ≤ q ∧ q ≤ o + 31) (fun q hq => by have hq : q = o + 24 ∨ q = o + 25 ∨ q = o + 26 := hq; show o + 24 ≤ q ∧ q ≤ o + 31; omega))).fr (fun q hq => hq) eV0, rfl, mt⟩
  · skip
    refine g_aload_n rfl rfl ?_
    refine g_iload_n rfl rfl ?_
    refine g_iconst rfl ?_
    refine g_callVI [aI a, aI 0] [] rfl rfl rfl rfl (Nat.le_of_ble_eq_true rfl) ms.1 (m_is (by omega) ms V0 ok mt a 0) ?_
    rintro r2 _ ⟨rfl, e3⟩
    rw [e3]
    clear e3 r2
    refine g_b_eq rfl (fun c28 => ?_) (fun c28 => ?_)
    · skip
      refine g_iconst rfl ?_
      refine g_istore (l1 := [(5, aI 0), (0, aO (some o)), (1, aI 6), (2, aI a), (3, aI b), (4, aI c)]) rfl rfl ?_
      refine g_iload rfl rfl ?_
      refine g_if_eq_t rfl (by omega) ?_
      refine g_iconst rfl ?_
      refine g_istore (l1 := [(5, aI 0), (0, aO (some o)), (1, aI 6), (2, aI a), (3, aI b), (4, aI c)]) rfl rfl ?_
      refine g_iload rfl rfl ?_
      refine g_if_ne_f rfl (by omega) ?_
      refine g_iconst rfl ?_
      refine g_iret rfl ?_
      rw [three_no (by omega)]
      exact ⟨V0, rfl, (KM.of (G0.wide (T2 := fun q => o + 24 ≤ q ∧ q ≤ o + 31) (fun q hq => by have hq : q = o + 24 ∨ q = o + 25 ∨ q = o + 26 := hq; show o + 24 ≤ q ∧ q ≤ o + 31; omega))).fr (fun q hq => hq) eV0, rfl, mt⟩
    · skip
      refine g_aload_n rfl rfl ?_
      refine g_iload rfl rfl ?_
      refine g_iconst rfl ?_
      refine g_callVI [aI c, aI 0] [] rfl rfl rfl rfl (Nat.le_of_ble_eq_true rfl) ms.1 (m_is (by omega) ms V0 ok mt c 0) ?_
      rintro r4 _ ⟨rfl, e5⟩
      rw [e5]
      clear e5 r4
      refine g_b_eq rfl (fun c38 => ?_) (fun c38 => ?_)
      · skip
        refine g_iconst rfl ?_
        refine g_istore (l1 := [(5, aI 0), (0, aO (some o)), (1, aI 6), (2, aI a), (3, aI b), (4, aI c)]) rfl rfl ?_
        refine g_iload rfl rfl ?_
        refine g_if_eq_t rfl (by omega) ?_
        refine g_iconst rfl ?_
        refine g_istore (l1 := [(5, aI 0), (0, aO (some o)), (1, aI 6), (2, aI a), (3, aI b), (4, aI c)]) rfl rfl ?_
        refine g_iload rfl rfl ?_
        refine g_if_ne_f rfl (by omega) ?_
        refine g_iconst rfl ?_
        refine g_iret rfl ?_
        rw [three_no (by omega)]
        exact ⟨V0, rfl, (KM.of (G0.wide (T2 := fun q => o + 24 ≤ q ∧ q ≤ o + 31) (fun q hq => by have hq : q = o + 24 ∨ q = o + 25 ∨ q = o + 26 := hq; show o + 24 ≤ q ∧ q ≤ o + 31; omega))).fr (fun q hq => hq) eV0, rfl, mt⟩
      · skip
        refine g_iconst rfl ?_
        refine g_goto rfl ?_
        refine g_istore (l1 := [(5, aI 1), (0, aO (some o)), (1, aI 6), (2, aI a), (3, aI b), (4, aI c)]) rfl rfl ?_
        refine g_iload rfl rfl ?_
        refine g_if_eq_f rfl (by omega) ?_
        refine g_iload_n rfl rfl ?_
        refine g_bipush rfl ?_
        refine g_icmp_ge_f rfl (by omega) ?_
        refine g_aload_n rfl rfl ?_
        refine g_iload_n rfl rfl ?_
        refine g_iconst rfl ?_
        refine g_callVI [aI b, aI 0] [] rfl rfl rfl rfl (Nat.le_of_ble_eq_true rfl) ms.1 (m_is (by omega) ms V0 ok mt b 0) ?_
        rintro r6 _ ⟨rfl, e7⟩
        rw [e7]
        clear e7 r6
        refine g_b_eq rfl (fun c65 => ?_) (fun c65 => ?_)
        · skip
          refine g_iconst rfl ?_
          refine g_istore (l1 := [(5, aI 0), (0, aO (some o)), (1, aI 6), (2, aI a), (3, aI b), (4, aI c)]) rfl rfl ?_
          refine g_iload rfl rfl ?_
          refine g_if_ne_f rfl (by omega) ?_
          refine g_iconst rfl ?_
          refine g_iret rfl ?_
          rw [three_no (by omega)]
          exact ⟨V0, rfl, (KM.of (G0.wide (T2 := fun q => o + 24 ≤ q ∧ q ≤ o + 31) (fun q hq => by have hq : q = o + 24 ∨ q = o + 25 ∨ q = o + 26 := hq; show o + 24 ≤ q ∧ q ≤ o + 31; omega))).fr (fun q hq => hq) eV0, rfl, mt⟩
        · skip
          refine g_goto rfl ?_
          refine g_iconst rfl ?_
          refine g_goto rfl ?_
          refine g_istore (l1 := [(5, aI 1), (0, aO (some o)), (1, aI 6), (2, aI a), (3, aI b), (4, aI c)]) rfl rfl ?_
          refine g_iload rfl rfl ?_
          refine g_if_ne_t rfl (by omega) ?_
          have ha : 0 ≤ a ∧ a < sT S := by omega
          have hb : 0 ≤ b ∧ b < sT S := by omega
          have hc : 0 ≤ c ∧ c < sT S := by omega
          refine g_aload_n rfl rfl ?_
          refine g_iload_n rfl rfl ?_
          refine g_callVI [aI a] [] rfl rfl rfl rfl (Nat.le_of_ble_eq_true rfl) ms.1 (m_isFar (by omega) ms V0 ok mt a ha) ?_
          rintro r8 _ ⟨rfl, e9⟩
          rw [e9]
          clear e9 r8
          refine g_b_ne rfl (fun c115 => ?_) (fun c115 => ?_)
          · skip
            refine g_bipush rfl ?_
            refine g_iret rfl ?_
            rw [three_far (by omega) (by omega)]
            exact ⟨V0, rfl, (KM.of (G0.wide (T2 := fun q => o + 24 ≤ q ∧ q ≤ o + 31) (fun q hq => by have hq : q = o + 24 ∨ q = o + 25 ∨ q = o + 26 := hq; show o + 24 ≤ q ∧ q ≤ o + 31; omega))).fr (fun q hq => hq) eV0, rfl, mt⟩
          · skip
            refine g_aload_n rfl rfl ?_
            refine g_iload rfl rfl ?_
            refine g_callVI [aI c] [] rfl rfl rfl rfl (Nat.le_of_ble_eq_true rfl) ms.1 (m_isFar (by omega) ms V0 ok mt c hc) ?_
            rintro r10 _ ⟨rfl, e11⟩
            rw [e11]
            clear e11 r10
            refine g_b_ne rfl (fun c124 => ?_) (fun c124 => ?_)
            · skip
              refine g_bipush rfl ?_
              refine g_iret rfl ?_
              rw [three_far (by omega) (by omega)]
              exact ⟨V0, rfl, (KM.of (G0.wide (T2 := fun q => o + 24 ≤ q ∧ q ≤ o + 31) (fun q hq => by have hq : q = o + 24 ∨ q = o + 25 ∨ q = o + 26 := hq; show o + 24 ≤ q ∧ q ≤ o + 31; omega))).fr (fun q hq => hq) eV0, rfl, mt⟩
            · skip
              refine g_iload_n rfl rfl ?_
              refine g_bipush rfl ?_
              refine g_icmp_ge_f rfl (by omega) ?_
              refine g_aload_n rfl rfl ?_
              refine g_iload_n rfl rfl ?_
              refine g_callVI [aI b] [] rfl rfl rfl rfl (Nat.le_of_ble_eq_true rfl) ms.1 (m_isFar (by omega) ms V0 ok mt b hb) ?_
              rintro r12 _ ⟨rfl, e13⟩
              rw [e13]
              clear e13 r12
              refine g_b_eq rfl (fun c138 => ?_) (fun c138 => ?_)
              · skip
                refine g_aload_n rfl rfl ?_
                refine g_aload_n rfl rfl ?_
                refine g_getR rfl ms.1 (mr_one ms) ?_
                refine g_iload_n rfl rfl ?_
                refine g_callVN [aO (some (o + 24)), aI a] [] rfl rfl rfl rfl (Nat.le_of_ble_eq_true rfl) ms.1 (m_load (by omega) ms V0 ok mt (by have := G0.2.2.1; omega) ((o + 24)) (show SLa o ((o + 24)) by unfold SLa; omega) a ha) ?_
                rintro _ ⟨V14, rfl, g14, t14, u14, v14, y14, s14, xt14, xu14, xv14, xy14⟩
                have G_15 := G0.trans (g14.wide (fun q hq => by have hq : q = o + 24 := hq; show q = o + 24 ∨ q = o + 25 ∨ q = o + 26; omega))
                refine g_aload_n rfl rfl ?_
                refine g_aload_n rfl rfl ?_
                refine g_getR rfl ms.1 (mr_three ms) ?_
                refine g_iload rfl rfl ?_
                refine g_callVN [aO (some (o + 26)), aI c] [] rfl rfl rfl rfl (Nat.le_of_ble_eq_true rfl) ms.1 (m_load (by omega) ms V14 ok (g14.mt (show ¬((o + 4) = o + 24) by omega) (show ¬((o + 5) = o + 24) by omega) mt) (by have := G_15.2.2.1; omega) ((o + 26)) (show SLa o ((o + 26)) by unfold SLa; omega) c hc) ?_
                rintro _ ⟨V16, rfl, g16, t16, u16, v16, y16, s16, xt16, xu16, xv16, xy16⟩
                have G_17 := G_15.trans (g16.wide (fun q hq => by have hq : q = o + 26 := hq; show q = o + 24 ∨ q = o + 25 ∨ q = o + 26; omega))
                refine g_iload_n rfl rfl ?_
                refine g_bipush rfl ?_
                refine g_icmp_ge_f rfl (by omega) ?_
                refine g_aload_n rfl rfl ?_
                refine g_aload_n rfl rfl ?_
                refine g_getR rfl ms.1 (mr_two ms) ?_
                refine g_iload_n rfl rfl ?_
                refine g_callVN [aO (some (o + 25)), aI b] [] rfl rfl rfl rfl (Nat.le_of_ble_eq_true rfl) ms.1 (m_load (by omega) ms V16 ok (g16.mt (show ¬((o + 4) = o + 26) by omega) (show ¬((o + 5) = o + 26) by omega) (g14.mt (show ¬((o + 4) = o + 24) by omega) (show ¬((o + 5) = o + 24) by omega) mt)) (by have := G_17.2.2.1; omega) ((o + 25)) (show SLa o ((o + 25)) by unfold SLa; omega) b hb) ?_
                rintro _ ⟨V18, rfl, g18, t18, u18, v18, y18, s18, xt18, xu18, xv18, xy18⟩
                have G_19 := G_17.trans (g18.wide (fun q hq => by have hq : q = o + 25 := hq; show q = o + 24 ∨ q = o + 25 ∨ q = o + 26; omega))
                refine g_iload_n rfl rfl ?_
                refine g_tsw (t := 607) rfl (by rfl) ?_
                refine g_aload_n rfl rfl ?_
                refine g_callVI [] [] rfl rfl rfl rfl (Nat.le_of_ble_eq_true rfl) ms.1 (m_moved (by omega) ms V18 ok (g18.mt (show ¬((o + 4) = o + 25) by omega) (show ¬((o + 5) = o + 25) by omega) (g16.mt (show ¬((o + 4) = o + 26) by omega) (show ¬((o + 5) = o + 26) by omega) (g14.mt (show ¬((o + 4) = o + 24) by omega) (show ¬((o + 5) = o + 24) by omega) mt))) a b c (by have := G_19.2.2.1; omega) (show SB V18 o (o + 24) (tpR S a) (20) from ⟨_, _, _, _, (g18.sa (show SLa o ((o + 24)) by unfold SLa; omega) (show ¬(o + 24 = o + 25) by omega) (g16.sa (show SLa o ((o + 24)) by unfold SLa; omega) (show ¬(o + 24 = o + 26) by omega) s14)), ((g18.rb (g16.rb xt14)).up (by omega)), ((g18.rb (g16.rb xu14)).up (by omega)), ((g18.rb (g16.rb xv14)).up (by omega)), ((g18.rb (g16.rb xy14)).up (by omega))⟩) (show SB V18 o (o + 25) (tpR S b) (20) from ⟨_, _, _, _, s18, (xt18.up (by omega)), (xu18.up (by omega)), (xv18.up (by omega)), (xy18.up (by omega))⟩) (show SB V18 o (o + 26) (tpR S c) (20) from ⟨_, _, _, _, (g18.sa (show SLa o ((o + 26)) by unfold SLa; omega) (show ¬(o + 26 = o + 25) by omega) s16), ((g18.rb xt16).up (by omega)), ((g18.rb xu16).up (by omega)), ((g18.rb xv16).up (by omega)), ((g18.rb xy16).up (by omega))⟩)) ?_
                rintro r20 _ ⟨V20, rfl, k20, e20, m20⟩
                refine g_iret rfl ?_
                rw [three_yes (by omega) (by omega)]
                exact ⟨_, rfl, (Gs.km (G_19.wide (T2 := fun q => o + 24 ≤ q ∧ q ≤ o + 31) (fun q hq => by have hq : q = o + 24 ∨ q = o + 25 ∨ q = o + 26 := hq; show o + 24 ≤ q ∧ q ≤ o + 31; omega)) k20 (fun q hq => by omega)).fr (fun q hq => hq) eV0, e20, m20⟩
              · skip
                refine g_bipush rfl ?_
                refine g_iret rfl ?_
                rw [three_far (by omega) (by omega)]
                exact ⟨V0, rfl, (KM.of (G0.wide (T2 := fun q => o + 24 ≤ q ∧ q ≤ o + 31) (fun q hq => by have hq : q = o + 24 ∨ q = o + 25 ∨ q = o + 26 := hq; show o + 24 ≤ q ∧ q ≤ o + 31; omega))).fr (fun q hq => hq) eV0, rfl, mt⟩
