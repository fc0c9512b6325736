/-! the reference's face three, kind 7: printed by wip/whole/ef.py -/
def three7M (S : aS) (a b c : Int) : Int × aS := if isS S a 0 ∧ (0 ≤ b ∧ b < sT S) ∧ isS S c 0 then keepM S 0 (if sTp S a.toNat 2 = 0 ∨ sTp S c.toNat 2 = 0 then none else m_t_turned_O S a c) else (-1, S)
theorem three7_no {S : aS} {a b c : Int} (h : ¬(((0 ≤ a ∧ a < sT S) ∧ sTs S a.toNat = 0) ∧ (0 ≤ b ∧ b < sT S) ∧ ((0 ≤ c ∧ c < sT S) ∧ sTs S c.toNat = 0))) : three7M S a b c = (-1, S) := by unfold three7M; rw [if_neg (by unfold isS; exact h)]
theorem three7_far {S : aS} {a b c : Int} (h : ((0 ≤ a ∧ a < sT S) ∧ sTs S a.toNat = 0) ∧ (0 ≤ b ∧ b < sT S) ∧ ((0 ≤ c ∧ c < sT S) ∧ sTs S c.toNat = 0)) (h2 : sTp S a.toNat 2 = 0 ∨ sTp S c.toNat 2 = 0) : three7M S a b c = (-3, S) := by
  unfold three7M
  rw [if_pos (by unfold isS; exact h), if_pos h2]
  rfl
theorem three7_yes {S : aS} {a b c : Int} (h : ((0 ≤ a ∧ a < sT S) ∧ sTs S a.toNat = 0) ∧ (0 ≤ b ∧ b < sT S) ∧ ((0 ≤ c ∧ c < sT S) ∧ sTs S c.toNat = 0)) (h2 : ¬(sTp S a.toNat 2 = 0 ∨ sTp S c.toNat 2 = 0)) : three7M S a b c = keepM S 0 (m_t_turned_O S a c) := by
  unfold three7M
  rw [if_pos (by unfold isS; exact h), if_neg h2]
set_option maxRecDepth 100000 in
set_option maxHeartbeats 4000000 in
theorem m_three7 {w : aW} {d : Nat} (hd : 10 ≤ d) {h : aH} {o : Nat} (ms : MS h o) (V : Nat → Nat → Int) {S : aS} (ok : OkT S) (mt : MT V o S) (a b c : Int) : WP w d 312 [aO (some o), aI 7, aI a, aI b, aI c] (hw h V) (RI (fun r h1 => ∃ V1, h1 = hw h V1 ∧ FR V V1 o ∧ r = (three7M S a b c).1 ∧ MT V1 o (three7M S a b c).2)) := by
  obtain ⟨d, rfl⟩ : ∃ d1, d = d1 + 1 := ⟨d - 1, by omega⟩
  refine WP.enter (cd := cd_X12_three) rfl ?_
  have hn := ok.1
  have hls : largs 0 [aO (some o), aI 7, aI a, aI b, aI c] = [(0, aO (some o)), (1, aI 7), (2, aI a), (3, aI b), (4, aI c)] := rfl
  rw [hls]
  clear hls
  refine g_aload_n rfl rfl ?_
  refine g_iconst rfl ?_
  refine g_putI rfl ms.1 ?_
  refine g_hp (h2 := hw h (vset V o 31 0)) rfl ?_
  refine g_aload_n rfl rfl ?_
  refine g_iconst rfl ?_
  refine g_putI rfl ms.1 ?_
  obtain ⟨V0, eV0⟩ : ∃ W, W = vset (vset V o 31 0) o 1 0 := ⟨_, rfl⟩
  refine g_hp (h2 := hw h V0) (by rw [eV0]; rfl) ?_
  have mt : MT V0 o S := by rw [eV0]; exact mt.rs
  have f0 : V0 o 1 = 0 := by rw [eV0]; exact vset_eq _ _ _ _
  have G0 := Gs.refl V0 o (fun q => q = o + 24 ∨ q = o + 26)
  refine g_iload_n rfl rfl ?_
  refine g_i2l rfl ?_
  refine g_lconst0 rfl ?_
  refine g_ldc2 rfl ?_
  refine g_callSI [aJ 7, aJ 0, aJ 8] [] rfl rfl rfl rfl (Nat.le_of_ble_eq_true rfl) (c_in (by omega) _ _ _ _) ?_
  rintro r1 _ ⟨rfl, rfl⟩
  refine g_b_eq rfl (fun c19 => ?_) (fun c19 => ?_)
  · skip
    refine g_iconst rfl ?_
    refine g_istore (l1 := [(5, aI 0), (0, aO (some o)), (1, aI 7), (2, aI a), (3, aI b), (4, aI c)]) rfl rfl ?_
    refine g_iload rfl rfl ?_
    refine g_if_eq_t rfl (by omega) ?_
    refine g_iconst rfl ?_
    refine g_istore (l1 := [(5, aI 0), (0, aO (some o)), (1, aI 7), (2, aI a), (3, aI b), (4, aI c)]) rfl rfl ?_
    refine g_iload rfl rfl ?_
    refine g_if_ne_f rfl (by omega) ?_
    refine g_iconst rfl ?_
    refine g_iret rfl ?_
    rw [three7_no (by omega)]
    exact ⟨V0, rfl, (KM.of (G0.wide (T2 := fun q => o + 24 ≤ q ∧ q ≤ o + 31) (fun q hq => by have hq : q = o + 24 ∨ q = o + 26 := hq; show o + 24 ≤ q ∧ q ≤ o + 31; omega))).fr (fun q hq => hq) eV0, rfl, mt⟩
  · skip
    refine g_aload_n rfl rfl ?_
    refine g_iload_n rfl rfl ?_
    refine g_iconst rfl ?_
    refine g_callVI [aI a, aI 0] [] rfl rfl rfl rfl (Nat.le_of_ble_eq_true rfl) ms.1 (m_is (by omega) ms V0 ok mt a 0) ?_
    rintro r2 _ ⟨rfl, e3⟩
    rw [e3]
    clear e3 r2
    refine g_b_eq rfl (fun c28 => ?_) (fun c28 => ?_)
    · skip
      refine g_iconst rfl ?_
      refine g_istore (l1 := [(5, aI 0), (0, aO (some o)), (1, aI 7), (2, aI a), (3, aI b), (4, aI c)]) rfl rfl ?_
      refine g_iload rfl rfl ?_
      refine g_if_eq_t rfl (by omega) ?_
      refine g_iconst rfl ?_
      refine g_istore (l1 := [(5, aI 0), (0, aO (some o)), (1, aI 7), (2, aI a), (3, aI b), (4, aI c)]) rfl rfl ?_
      refine g_iload rfl rfl ?_
      refine g_if_ne_f rfl (by omega) ?_
      refine g_iconst rfl ?_
      refine g_iret rfl ?_
      rw [three7_no (by omega)]
      exact ⟨V0, rfl, (KM.of (G0.wide (T2 := fun q => o + 24 ≤ q ∧ q ≤ o + 31) (fun q hq => by have hq : q = o + 24 ∨ q = o + 26 := hq; show o + 24 ≤ q ∧ q ≤ o + 31; omega))).fr (fun q hq => hq) eV0, rfl, mt⟩
    · skip
      refine g_aload_n rfl rfl ?_
      refine g_iload rfl rfl ?_
      refine g_iconst rfl ?_
      refine g_callVI [aI c, aI 0] [] rfl rfl rfl rfl (Nat.le_of_ble_eq_true rfl) ms.1 (m_is (by omega) ms V0 ok mt c 0) ?_
      rintro r4 _ ⟨rfl, e5⟩
      rw [e5]
      clear e5 r4
      refine g_b_eq rfl (fun c38 => ?_) (fun c38 => ?_)
      · skip
        refine g_iconst rfl ?_
        refine g_istore (l1 := [(5, aI 0), (0, aO (some o)), (1, aI 7), (2, aI a), (3, aI b), (4, aI c)]) rfl rfl ?_
        refine g_iload rfl rfl ?_
        refine g_if_eq_t rfl (by omega) ?_
        refine g_iconst rfl ?_
        refine g_istore (l1 := [(5, aI 0), (0, aO (some o)), (1, aI 7), (2, aI a), (3, aI b), (4, aI c)]) rfl rfl ?_
        refine g_iload rfl rfl ?_
        refine g_if_ne_f rfl (by omega) ?_
        refine g_iconst rfl ?_
        refine g_iret rfl ?_
        rw [three7_no (by omega)]
        exact ⟨V0, rfl, (KM.of (G0.wide (T2 := fun q => o + 24 ≤ q ∧ q ≤ o + 31) (fun q hq => by have hq : q = o + 24 ∨ q = o + 26 := hq; show o + 24 ≤ q ∧ q ≤ o + 31; omega))).fr (fun q hq => hq) eV0, rfl, mt⟩
      · skip
        refine g_iconst rfl ?_
        refine g_goto rfl ?_
        refine g_istore (l1 := [(5, aI 1), (0, aO (some o)), (1, aI 7), (2, aI a), (3, aI b), (4, aI c)]) rfl rfl ?_
        refine g_iload rfl rfl ?_
        refine g_if_eq_f rfl (by omega) ?_
        refine g_iload_n rfl rfl ?_
        refine g_bipush rfl ?_
        refine g_icmp_ge_t rfl (by omega) ?_
        refine g_iload_n rfl rfl ?_
        refine g_bipush rfl ?_
        refine g_icmp_ne_f rfl (by omega) ?_
        refine g_aload_n rfl rfl ?_
        refine g_iload_n rfl rfl ?_
        refine g_callVI [aI b] [] rfl rfl rfl rfl (Nat.le_of_ble_eq_true rfl) ms.1 (m_isThing (by omega) ms V0 ok mt b) ?_
        rintro r6 _ ⟨rfl, e7⟩
        rw [e7]
        clear e7 r6
        refine g_b_eq rfl (fun c82 => ?_) (fun c82 => ?_)
        · skip
          refine g_iconst rfl ?_
          refine g_istore (l1 := [(5, aI 0), (0, aO (some o)), (1, aI 7), (2, aI a), (3, aI b), (4, aI c)]) rfl rfl ?_
          refine g_iload rfl rfl ?_
          refine g_if_ne_f rfl (by omega) ?_
          refine g_iconst rfl ?_
          refine g_iret rfl ?_
          rw [three7_no (by omega)]
          exact ⟨V0, rfl, (KM.of (G0.wide (T2 := fun q => o + 24 ≤ q ∧ q ≤ o + 31) (fun q hq => by have hq : q = o + 24 ∨ q = o + 26 := hq; show o + 24 ≤ q ∧ q ≤ o + 31; omega))).fr (fun q hq => hq) eV0, rfl, mt⟩
        · skip
          refine g_goto rfl ?_
          refine g_iconst rfl ?_
          refine g_goto rfl ?_
          refine g_istore (l1 := [(5, aI 1), (0, aO (some o)), (1, aI 7), (2, aI a), (3, aI b), (4, aI c)]) rfl rfl ?_
          refine g_iload rfl rfl ?_
          refine g_if_ne_t rfl (by omega) ?_
          have ha : 0 ≤ a ∧ a < sT S := by omega
          have hc : 0 ≤ c ∧ c < sT S := by omega
          refine g_aload_n rfl rfl ?_
          refine g_iload_n rfl rfl ?_
          refine g_callVI [aI a] [] rfl rfl rfl rfl (Nat.le_of_ble_eq_true rfl) ms.1 (m_isFar (by omega) ms V0 ok mt a ha) ?_
          rintro r8 _ ⟨rfl, e9⟩
          rw [e9]
          clear e9 r8
          refine g_b_ne rfl (fun c115 => ?_) (fun c115 => ?_)
          · skip
            refine g_bipush rfl ?_
            refine g_iret rfl ?_
            rw [three7_far (by omega) (by omega)]
            exact ⟨V0, rfl, (KM.of (G0.wide (T2 := fun q => o + 24 ≤ q ∧ q ≤ o + 31) (fun q hq => by have hq : q = o + 24 ∨ q = o + 26 := hq; show o + 24 ≤ q ∧ q ≤ o + 31; omega))).fr (fun q hq => hq) eV0, rfl, mt⟩
          · skip
            refine g_aload_n rfl rfl ?_
            refine g_iload rfl rfl ?_
            refine g_callVI [aI c] [] rfl rfl rfl rfl (Nat.le_of_ble_eq_true rfl) ms.1 (m_isFar (by omega) ms V0 ok mt c hc) ?_
            rintro r10 _ ⟨rfl, e11⟩
            rw [e11]
            clear e11 r10
            refine g_b_ne rfl (fun c124 => ?_) (fun c124 => ?_)
            · skip
              refine g_bipush rfl ?_
              refine g_iret rfl ?_
              rw [three7_far (by omega) (by omega)]
              exact ⟨V0, rfl, (KM.of (G0.wide (T2 := fun q => o + 24 ≤ q ∧ q ≤ o + 31) (fun q hq => by have hq : q = o + 24 ∨ q = o + 26 := hq; show o + 24 ≤ q ∧ q ≤ o + 31; omega))).fr (fun q hq => hq) eV0, rfl, mt⟩
            · skip
              refine g_iload_n rfl rfl ?_
              refine g_bipush rfl ?_
              refine g_icmp_ge_t rfl (by omega) ?_
              refine g_aload_n rfl rfl ?_
              refine g_aload_n rfl rfl ?_
              refine g_getR rfl ms.1 (mr_one ms) ?_
              refine g_iload_n rfl rfl ?_
              refine g_callVN [aO (some (o + 24)), aI a] [] rfl rfl rfl rfl (Nat.le_of_ble_eq_true rfl) ms.1 (m_load (by omega) ms V0 ok mt (by have := G0.2.2.1; omega) ((o + 24)) (show SLa o ((o + 24)) by unfold SLa; omega) a ha) ?_
              rintro _ ⟨V12, rfl, g12, t12, u12, v12, y12, s12, xt12, xu12, xv12, xy12⟩
              have G_13 := G0.trans (g12.wide (fun q hq => by have hq : q = o + 24 := hq; show q = o + 24 ∨ q = o + 26; omega))
              refine g_aload_n rfl rfl ?_
              refine g_aload_n rfl rfl ?_
              refine g_getR rfl ms.1 (mr_three ms) ?_
              refine g_iload rfl rfl ?_
              refine g_callVN [aO (some (o + 26)), aI c] [] rfl rfl rfl rfl (Nat.le_of_ble_eq_true rfl) ms.1 (m_load (by omega) ms V12 ok (g12.mt (show ¬((o + 4) = o + 24) by omega) (show ¬((o + 5) = o + 24) by omega) mt) (by have := G_13.2.2.1; omega) ((o + 26)) (show SLa o ((o + 26)) by unfold SLa; omega) c hc) ?_
              rintro _ ⟨V14, rfl, g14, t14, u14, v14, y14, s14, xt14, xu14, xv14, xy14⟩
              have G_15 := G_13.trans (g14.wide (fun q hq => by have hq : q = o + 26 := hq; show q = o + 24 ∨ q = o + 26; omega))
              refine g_iload_n rfl rfl ?_
              refine g_bipush rfl ?_
              refine g_icmp_ge_t rfl (by omega) ?_
              refine g_iload_n rfl rfl ?_
              refine g_tsw (t := 612) rfl (by rfl) ?_
              refine g_aload_n rfl rfl ?_
              refine g_callVI [] [] rfl rfl rfl rfl (Nat.le_of_ble_eq_true rfl) ms.1 (m_turned (by omega) ms V14 ok (g14.mt (show ¬((o + 4) = o + 26) by omega) (show ¬((o + 5) = o + 26) by omega) (g12.mt (show ¬((o + 4) = o + 24) by omega) (show ¬((o + 5) = o + 24) by omega) mt)) a c (by have := G_15.2.2.1; omega) (show SB V14 o (o + 24) (tpR S a) (20) from ⟨_, _, _, _, (g14.sa (show SLa o ((o + 24)) by unfold SLa; omega) (show ¬(o + 24 = o + 26) by omega) s12), ((g14.rb xt12).up (by omega)), ((g14.rb xu12).up (by omega)), ((g14.rb xv12).up (by omega)), ((g14.rb xy12).up (by omega))⟩) (show SB V14 o (o + 26) (tpR S c) (20) from ⟨_, _, _, _, s14, (xt14.up (by omega)), (xu14.up (by omega)), (xv14.up (by omega)), (xy14.up (by omega))⟩)) ?_
              rintro r16 _ ⟨V16, rfl, k16, e16, m16⟩
              refine g_iret rfl ?_
              rw [three7_yes (by omega) (by omega)]
              exact ⟨_, rfl, (Gs.km (G_15.wide (T2 := fun q => o + 24 ≤ q ∧ q ≤ o + 31) (fun q hq => by have hq : q = o + 24 ∨ q = o + 26 := hq; show o + 24 ≤ q ∧ q ≤ o + 31; omega)) k16 (fun q hq => by omega)).fr (fun q hq => hq) eV0, e16, m16⟩
