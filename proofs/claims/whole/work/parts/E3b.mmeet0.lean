/-! meeting a circle: printed by wip/whole/e3.py -/
set_option maxRecDepth 100000 in
set_option maxHeartbeats 4000000 in
theorem m_meet0 {w : aW} {d : Nat} (hd : 7 ≤ d) {k : Nat} {h : aH} {o : Nat} (ms : MS h o) (V : Nat → Nat → Int) (hF : 0 ≤ V o 1 ∧ V o 1 + 42 ≤ 700) {L : T4} (aL : Nat) (hL : SLa o aL) (tL : SB V o aL L (k)) {R : T4} (aR : Nat) (hR : SLa o aR) (tR : SB V o aR R (20)) (aU : Nat) (hU : SLa o aU)  (hk : k ≤ 108) : WP w d 297 [aO (some o), aO (some aL), aO (some aR), aI 0, aO (some aU)] (hw h V) (RI (fun r h1 => ∃ V1, h1 = hw h V1 ∧ Gs V V1 o 42 (fun q => q = aU) ∧ BO V1 o aU r (m_meet_O false L R) (2 * k + 166))) := by
  obtain ⟨d, rfl⟩ : ∃ d1, d = d1 + 1 := ⟨d - 1, by omega⟩
  refine WP.enter (cd := cd_X12_meet) rfl ?_
  have G0 := Gs.refl V o (fun q => q = aU)
  obtain ⟨Lp, Lq, Lr, Ls, sL, xLp, xLq, xLr, xLs⟩ := tL
  obtain ⟨Rp, Rq, Rr, Rs, sR, xRp, xRq, xRr, xRs⟩ := tR
  have hs_L := hL
  unfold SLa at hs_L
  have hs_R := hR
  unfold SLa at hs_R
  have hs_U := hU
  unfold SLa at hs_U
  have hls : largs 0 [aO (some o), aO (some aL), aO (some aR), aI 0, aO (some aU)] = [(0, aO (some o)), (1, aO (some aL)), (2, aO (some aR)), (3, aI 0), (4, aO (some aU))] := rfl
  rw [hls]
  clear hls
  refine g_aload_n rfl rfl ?_
  refine g_aload_n rfl rfl ?_
  refine g_iconst rfl ?_
  refine g_iald (i := 0) rfl (ms.slot hL) (by omega) (by omega) ?_
  refine g_top (v2 := aI ((Lp : Int))) (congrArg aI (by exact sL.1)) ?_
  refine g_callVI [aI ((Lp : Int))] [] rfl rfl rfl rfl (Nat.le_of_ble_eq_true rfl) ms.1 (r_sign (by omega) ms V xLp) ?_
  rintro r1 _ ⟨rfl, e2⟩
  rw [e2]
  clear e2 r1
  refine g_if_ne rfl (fun c7 => ?_) (fun c7 => ?_)
  · skip
    refine g_aload_n rfl rfl ?_
    refine g_aload_n rfl rfl ?_
    refine g_aload_n rfl rfl ?_
    refine g_iconst rfl ?_
    refine g_iald (i := 0) rfl (ms.slot hL) (by omega) (by omega) ?_
    refine g_top (v2 := aI ((Lp : Int))) (congrArg aI (by exact sL.1)) ?_
    refine g_callVI [aI ((Lp : Int))] [aO (some o)] rfl rfl rfl rfl (Nat.le_of_ble_eq_true rfl) ms.1 (r_square (by omega) ms V (by have := G0.2.2.1; omega) xLp (by omega)) ?_
    rintro _ _ ⟨p3, rfl, V3, rfl, g3, xp3⟩
    have G_4 := G0.trans (g3.gs _)
    refine g_aload_n rfl rfl ?_
    refine g_aload_n rfl rfl ?_
    refine g_iconst rfl ?_
    refine g_iald (i := 1) rfl (ms.slot hL) (by omega) (by omega) ?_
    refine g_top (v2 := aI ((Lq : Int))) (congrArg aI (by exact (g3.sa hL sL).2.1)) ?_
    refine g_callVI [aI ((Lq : Int))] [aI ((p3 : Int)), aO (some o)] rfl rfl rfl rfl (Nat.le_of_ble_eq_true rfl) ms.1 (r_square (by omega) ms V3 (by have := G_4.2.2.1; omega) (g3.rb xLq) (by omega)) ?_
    rintro _ _ ⟨p5, rfl, V5, rfl, g5, xp5⟩
    have G_6 := G_4.trans (g5.gs _)
    refine g_callVI [aI ((p3 : Int)), aI ((p5 : Int))] [] rfl rfl rfl rfl (Nat.le_of_ble_eq_true rfl) ms.1 (r_add (by omega) ms V5 (by have := G_6.2.2.1; omega) (g5.rb xp3) xp5 (2 * k + 1) (by omega) (by omega) (by omega)) ?_
    rintro _ _ ⟨p7, rfl, V7, rfl, g7, xp7⟩
    have G_8 := G_6.trans (g7.gs _)
    refine g_istore (l1 := [(5, aI ((p7 : Int))), (0, aO (some o)), (1, aO (some aL)), (2, aO (some aR)), (3, aI 0), (4, aO (some aU))]) rfl rfl ?_
    refine g_aload_n rfl rfl ?_
    refine g_aload_n rfl rfl ?_
    refine g_aload_n rfl rfl ?_
    refine g_ldc2 rfl ?_
    refine g_callVI [aJ 2] [aO (some o), aO (some o)] rfl rfl rfl rfl (Nat.le_of_ble_eq_true rfl) ms.1 (r_num (by omega) ms V7 (by have := G_8.2.2.1; omega) 2 (by omega) 1 (by decide)) ?_
    rintro _ _ ⟨p9, rfl, V9, rfl, g9, xp9⟩
    have G_10 := G_8.trans (g9.gs _)
    refine g_aload_n rfl rfl ?_
    refine g_iconst rfl ?_
    refine g_iald (i := 0) rfl (ms.slot hR) (by omega) (by omega) ?_
    refine g_top (v2 := aI ((Rp : Int))) (congrArg aI (by exact (g9.sa hR (g7.sa hR (g5.sa hR (g3.sa hR sR)))).1)) ?_
    refine g_aload_n rfl rfl ?_
    refine g_iconst rfl ?_
    refine g_iald (i := 2) rfl (ms.slot hL) (by omega) (by omega) ?_
    refine g_top (v2 := aI ((Lr : Int))) (congrArg aI (by exact (g9.sa hL (g7.sa hL (g5.sa hL (g3.sa hL sL)))).2.2.1)) ?_
    refine g_callVI [aI ((p9 : Int)), aI ((Rp : Int)), aI ((Lr : Int))] [aO (some o)] rfl rfl rfl rfl (Nat.le_of_ble_eq_true rfl) ms.1 (r_mul3 (by omega) ms V9 (by have := G_10.2.2.1; omega) xp9 (g9.rb (g7.rb (g5.rb (g3.rb xRp)))) (g9.rb (g7.rb (g5.rb (g3.rb xLr)))) (by omega)) ?_
    rintro _ _ ⟨p11, rfl, V11, rfl, g11, xp11⟩
    have G_12 := G_10.trans (g11.gs _)
    refine g_aload_n rfl rfl ?_
    refine g_aload_n rfl rfl ?_
    refine g_aload_n rfl rfl ?_
    refine g_iconst rfl ?_
    refine g_iald (i := 0) rfl (ms.slot hL) (by omega) (by omega) ?_
    refine g_top (v2 := aI ((Lp : Int))) (congrArg aI (by exact (g11.sa hL (g9.sa hL (g7.sa hL (g5.sa hL (g3.sa hL sL))))).1)) ?_
    refine g_aload_n rfl rfl ?_
    refine g_iconst rfl ?_
    refine g_iald (i := 1) rfl (ms.slot hR) (by omega) (by omega) ?_
    refine g_top (v2 := aI ((Rq : Int))) (congrArg aI (by exact (g11.sa hR (g9.sa hR (g7.sa hR (g5.sa hR (g3.sa hR sR))))).2.1)) ?_
    refine g_callVI [aI ((Lp : Int)), aI ((Rq : Int))] [aO (some o), aI ((p11 : Int)), aO (some o)] rfl rfl rfl rfl (Nat.le_of_ble_eq_true rfl) ms.1 (r_mul (by omega) ms V11 (by have := G_12.2.2.1; omega) (g11.rb (g9.rb (g7.rb (g5.rb (g3.rb xLp))))) (g11.rb (g9.rb (g7.rb (g5.rb (g3.rb xRq))))) (by omega)) ?_
    rintro _ _ ⟨p13, rfl, V13, rfl, g13, xp13⟩
    have G_14 := G_12.trans (g13.gs _)
    refine g_aload_n rfl rfl ?_
    refine g_aload_n rfl rfl ?_
    refine g_iconst rfl ?_
    refine g_iald (i := 1) rfl (ms.slot hL) (by omega) (by omega) ?_
    refine g_top (v2 := aI ((Lq : Int))) (congrArg aI (by exact (g13.sa hL (g11.sa hL (g9.sa hL (g7.sa hL (g5.sa hL (g3.sa hL sL)))))).2.1)) ?_
    refine g_aload_n rfl rfl ?_
    refine g_iconst rfl ?_
    refine g_iald (i := 2) rfl (ms.slot hR) (by omega) (by omega) ?_
    refine g_top (v2 := aI ((Rr : Int))) (congrArg aI (by exact (g13.sa hR (g11.sa hR (g9.sa hR (g7.sa hR (g5.sa hR (g3.sa hR sR)))))).2.2.1)) ?_
    refine g_callVI [aI ((Lq : Int)), aI ((Rr : Int))] [aI ((p13 : Int)), aO (some o), aI ((p11 : Int)), aO (some o)] rfl rfl rfl rfl (Nat.le_of_ble_eq_true rfl) ms.1 (r_mul (by omega) ms V13 (by have := G_14.2.2.1; omega) (g13.rb (g11.rb (g9.rb (g7.rb (g5.rb (g3.rb xLq)))))) (g13.rb (g11.rb (g9.rb (g7.rb (g5.rb (g3.rb xRr)))))) (by omega)) ?_
    rintro _ _ ⟨p15, rfl, V15, rfl, g15, xp15⟩
    have G_16 := G_14.trans (g15.gs _)
    refine g_callVI [aI ((p13 : Int)), aI ((p15 : Int))] [aI ((p11 : Int)), aO (some o)] rfl rfl rfl rfl (Nat.le_of_ble_eq_true rfl) ms.1 (r_add (by omega) ms V15 (by have := G_16.2.2.1; omega) (g15.rb xp13) xp15 (k + 21) (by omega) (by omega) (by omega)) ?_
    rintro _ _ ⟨p17, rfl, V17, rfl, g17, xp17⟩
    have G_18 := G_16.trans (g17.gs _)
    refine g_callVI [aI ((p11 : Int)), aI ((p17 : Int))] [] rfl rfl rfl rfl (Nat.le_of_ble_eq_true rfl) ms.1 (r_sub (by omega) ms V17 (by have := G_18.2.2.1; omega) (g17.rb (g15.rb (g13.rb xp11))) xp17 (k + 22) (by omega) (by omega) (by omega)) ?_
    rintro _ _ ⟨p19, rfl, V19, rfl, g19, xp19⟩
    have G_20 := G_18.trans (g19.gs _)
    refine g_istore (l1 := [(6, aI ((p19 : Int))), (5, aI ((p7 : Int))), (0, aO (some o)), (1, aO (some aL)), (2, aO (some aR)), (3, aI 0), (4, aO (some aU))]) rfl rfl ?_
    refine g_aload_n rfl rfl ?_
    refine g_aload_n rfl rfl ?_
    refine g_aload_n rfl rfl ?_
    refine g_aload_n rfl rfl ?_
    refine g_callVI [aO (some aR)] [aO (some o), aO (some o)] rfl rfl rfl rfl (Nat.le_of_ble_eq_true rfl) ms.1 (m_bulge (by omega) ms V19 (by have := G_20.2.2.1; omega) aR hR (show SB V19 o aR R (20) from ⟨_, _, _, _, (g19.sa hR (g17.sa hR (g15.sa hR (g13.sa hR (g11.sa hR (g9.sa hR (g7.sa hR (g5.sa hR (g3.sa hR sR))))))))), ((g19.rb (g17.rb (g15.rb (g13.rb (g11.rb (g9.rb (g7.rb (g5.rb (g3.rb xRp))))))))).up (by omega)), ((g19.rb (g17.rb (g15.rb (g13.rb (g11.rb (g9.rb (g7.rb (g5.rb (g3.rb xRq))))))))).up (by omega)), ((g19.rb (g17.rb (g15.rb (g13.rb (g11.rb (g9.rb (g7.rb (g5.rb (g3.rb xRr))))))))).up (by omega)), ((g19.rb (g17.rb (g15.rb (g13.rb (g11.rb (g9.rb (g7.rb (g5.rb (g3.rb xRs))))))))).up (by omega))⟩)) ?_
    rintro _ _ ⟨p21, rfl, V21, rfl, g21, xp21⟩
    have G_22 := G_20.trans (g21.gs _)
    refine g_iload rfl rfl ?_
    refine g_callVI [aI ((p21 : Int)), aI ((p7 : Int))] [aO (some o)] rfl rfl rfl rfl (Nat.le_of_ble_eq_true rfl) ms.1 (r_mul (by omega) ms V21 (by have := G_22.2.2.1; omega) xp21 (g21.rb (g19.rb (g17.rb (g15.rb (g13.rb (g11.rb (g9.rb xp7))))))) (by omega)) ?_
    rintro _ _ ⟨p23, rfl, V23, rfl, g23, xp23⟩
    have G_24 := G_22.trans (g23.gs _)
    refine g_aload_n rfl rfl ?_
    refine g_iload rfl rfl ?_
    refine g_callVI [aI ((p19 : Int))] [aI ((p23 : Int)), aO (some o)] rfl rfl rfl rfl (Nat.le_of_ble_eq_true rfl) ms.1 (r_square (by omega) ms V23 (by have := G_24.2.2.1; omega) (g23.rb (g21.rb xp19)) (by omega)) ?_
    rintro _ _ ⟨p25, rfl, V25, rfl, g25, xp25⟩
    have G_26 := G_24.trans (g25.gs _)
    refine g_callVI [aI ((p23 : Int)), aI ((p25 : Int))] [] rfl rfl rfl rfl (Nat.le_of_ble_eq_true rfl) ms.1 (r_sub (by omega) ms V25 (by have := G_26.2.2.1; omega) (g25.rb xp23) xp25 (2 * k + 45) (by omega) (by omega) (by omega)) ?_
    rintro _ _ ⟨p27, rfl, V27, rfl, g27, xp27⟩
    have G_28 := G_26.trans (g27.gs _)
    refine g_istore (l1 := [(7, aI ((p27 : Int))), (6, aI ((p19 : Int))), (5, aI ((p7 : Int))), (0, aO (some o)), (1, aO (some aL)), (2, aO (some aR)), (3, aI 0), (4, aO (some aU))]) rfl rfl ?_
    refine g_aload_n rfl rfl ?_
    refine g_iload rfl rfl ?_
    refine g_callVI [aI ((p27 : Int))] [] rfl rfl rfl rfl (Nat.le_of_ble_eq_true rfl) ms.1 (r_sign (by omega) ms V27 xp27) ?_
    rintro r29 _ ⟨rfl, e30⟩
    rw [e30]
    clear e30 r29
    refine g_if_ge rfl (fun c118 => ?_) (fun c118 => ?_)
    · skip
      refine g_aload_n rfl rfl ?_
      refine g_iload rfl rfl ?_
      refine g_callVI [aI ((p27 : Int))] [] rfl rfl rfl rfl (Nat.le_of_ble_eq_true rfl) ms.1 (r_root (by omega) ms V27 (by have := G_28.2.2.1; omega) xp27 (by exact lcmp_ge (by assumption)) (by omega)) ?_
      rintro r31 _ ⟨V31, rfl, g31, q31⟩
      have G_32 := G_28.trans (g31.gs _)
      cases eS31 : rootO (((m_bulge_S R) * ((L.1 * L.1) + (L.2.1 * L.2.1))) - (((2 * R.1 * L.2.2.1) - ((L.1 * R.2.1) + (L.2.1 * R.2.2.1))) * ((2 * R.1 * L.2.2.1) - ((L.1 * R.2.1) + (L.2.1 * R.2.2.1))))) with
      | none =>
        rw [eS31] at q31
        obtain rfl : r31 = -1 := q31
        refine g_istore (l1 := [(8, aI ((-1))), (7, aI ((p27 : Int))), (6, aI ((p19 : Int))), (5, aI ((p7 : Int))), (0, aO (some o)), (1, aO (some aL)), (2, aO (some aR)), (3, aI 0), (4, aO (some aU))]) rfl rfl ?_
        refine g_iload rfl rfl ?_
        refine g_iconst rfl ?_
        refine g_icmp_ne_f rfl (by omega) ?_
        refine g_iconst rfl ?_
        refine g_zret rfl (by omega) ?_
        refine ⟨V31, rfl, G_32.mono (by omega), ?_⟩
        have l0 := @lcmp_0 (L.1) 0
        have m0 := @lcmp_lt (L.1) 0
        have n0 := @lcmp_gt (0) (L.1)
        have n0q := @lcmp_gt (L.1) 0
        have l1 := @lcmp_0 (L.2.1) 0
        have m1 := @lcmp_lt (L.2.1) 0
        have n1 := @lcmp_gt (0) (L.2.1)
        have n1q := @lcmp_gt (L.2.1) 0
        first
          | (rw [m_meet_no (by omega)]; rfl)
          | (rw [m_meet_no2 (by omega) (rootO_neg (lcmp_lt.mp c118))]; rfl)
          | (rw [m_meet_no2 (by omega) eS31]; rfl)
      | some z31 =>
        rw [eS31] at q31
        obtain ⟨p31, rfl, xp31⟩ := q31
        refine g_istore (l1 := [(8, aI ((p31 : Int))), (7, aI ((p27 : Int))), (6, aI ((p19 : Int))), (5, aI ((p7 : Int))), (0, aO (some o)), (1, aO (some aL)), (2, aO (some aR)), (3, aI 0), (4, aO (some aU))]) rfl rfl ?_
        refine g_iload rfl rfl ?_
        refine g_iconst rfl ?_
        refine g_icmp_ne_t rfl (by omega) ?_
        refine g_aload_n rfl rfl ?_
        refine g_aload_n rfl rfl ?_
        refine g_iconst rfl ?_
        refine g_iald (i := 1) rfl (ms.slot hL) (by omega) (by omega) ?_
        refine g_top (v2 := aI ((Lq : Int))) (congrArg aI (by exact (g31.sa hL (g27.sa hL (g25.sa hL (g23.sa hL (g21.sa hL (g19.sa hL (g17.sa hL (g15.sa hL (g13.sa hL (g11.sa hL (g9.sa hL (g7.sa hL (g5.sa hL (g3.sa hL sL)))))))))))))).2.1)) ?_
        refine g_callVI [aI ((Lq : Int))] [] rfl rfl rfl rfl (Nat.le_of_ble_eq_true rfl) ms.1 (r_sign (by omega) ms V31 (g31.rb (g27.rb (g25.rb (g23.rb (g21.rb (g19.rb (g17.rb (g15.rb (g13.rb (g11.rb (g9.rb (g7.rb (g5.rb (g3.rb xLq))))))))))))))) ?_
        rintro r33 _ ⟨rfl, e34⟩
        rw [e34]
        clear e34 r33
        refine g_if_eq rfl (fun c146 => ?_) (fun c146 => ?_)
        · skip
          refine g_aload_n rfl rfl ?_
          refine g_aload_n rfl rfl ?_
          refine g_iconst rfl ?_
          refine g_iald (i := 0) rfl (ms.slot hL) (by omega) (by omega) ?_
          refine g_top (v2 := aI ((Lp : Int))) (congrArg aI (by exact (g31.sa hL (g27.sa hL (g25.sa hL (g23.sa hL (g21.sa hL (g19.sa hL (g17.sa hL (g15.sa hL (g13.sa hL (g11.sa hL (g9.sa hL (g7.sa hL (g5.sa hL (g3.sa hL sL)))))))))))))).1)) ?_
          refine g_callVI [aI ((Lp : Int))] [] rfl rfl rfl rfl (Nat.le_of_ble_eq_true rfl) ms.1 (r_sign (by omega) ms V31 (g31.rb (g27.rb (g25.rb (g23.rb (g21.rb (g19.rb (g17.rb (g15.rb (g13.rb (g11.rb (g9.rb (g7.rb (g5.rb (g3.rb xLp))))))))))))))) ?_
          rintro r35 _ ⟨rfl, e36⟩
          rw [e36]
          clear e36 r35
          refine g_if_le rfl (fun c183 => ?_) (fun c183 => ?_)
          · skip
            refine g_iconst rfl ?_
            refine g_iload_n rfl rfl ?_
            refine g_icmp_eq_t rfl (by omega) ?_
            refine g_iconst rfl ?_
            refine g_istore (l1 := [(9, aI 0), (8, aI ((p31 : Int))), (7, aI ((p27 : Int))), (6, aI ((p19 : Int))), (5, aI ((p7 : Int))), (0, aO (some o)), (1, aO (some aL)), (2, aO (some aR)), (3, aI 0), (4, aO (some aU))]) rfl rfl ?_
            refine g_iload rfl rfl ?_
            refine g_if_eq_t rfl (by omega) ?_
            refine g_aload_n rfl rfl ?_
            refine g_iload rfl rfl ?_
            refine g_callVI [aI ((p31 : Int))] [] rfl rfl rfl rfl (Nat.le_of_ble_eq_true rfl) ms.1 (r_neg (by omega) ms V31 (by have := G_32.2.2.1; omega) xp31 (by omega)) ?_
            rintro _ _ ⟨p37, rfl, V37, rfl, g37, xp37⟩
            have G_38 := G_32.trans (g37.gs _)
            refine g_istore (l1 := [(10, aI ((p37 : Int))), (9, aI 0), (8, aI ((p31 : Int))), (7, aI ((p27 : Int))), (6, aI ((p19 : Int))), (5, aI ((p7 : Int))), (0, aO (some o)), (1, aO (some aL)), (2, aO (some aR)), (3, aI 0), (4, aO (some aU))]) rfl rfl ?_
            refine g_aload_n rfl rfl ?_
            refine g_aload_n rfl rfl ?_
            refine g_aload_n rfl rfl ?_
            refine g_aload_n rfl rfl ?_
            refine g_aload_n rfl rfl ?_
            refine g_iconst rfl ?_
            refine g_iald (i := 1) rfl (ms.slot hR) (by omega) (by omega) ?_
            refine g_top (v2 := aI ((Rq : Int))) (congrArg aI (by exact (g37.sa hR (g31.sa hR (g27.sa hR (g25.sa hR (g23.sa hR (g21.sa hR (g19.sa hR (g17.sa hR (g15.sa hR (g13.sa hR (g11.sa hR (g9.sa hR (g7.sa hR (g5.sa hR (g3.sa hR sR))))))))))))))).2.1)) ?_
            refine g_iload rfl rfl ?_
            refine g_callVI [aI ((Rq : Int)), aI ((p7 : Int))] [aO (some o), aO (some o), aO (some o)] rfl rfl rfl rfl (Nat.le_of_ble_eq_true rfl) ms.1 (r_mul (by omega) ms V37 (by have := G_38.2.2.1; omega) (g37.rb (g31.rb (g27.rb (g25.rb (g23.rb (g21.rb (g19.rb (g17.rb (g15.rb (g13.rb (g11.rb (g9.rb (g7.rb (g5.rb (g3.rb xRq))))))))))))))) (g37.rb (g31.rb (g27.rb (g25.rb (g23.rb (g21.rb (g19.rb (g17.rb (g15.rb (g13.rb (g11.rb (g9.rb xp7)))))))))))) (by omega)) ?_
            rintro _ _ ⟨p39, rfl, V39, rfl, g39, xp39⟩
            have G_40 := G_38.trans (g39.gs _)
            refine g_aload_n rfl rfl ?_
            refine g_iload rfl rfl ?_
            refine g_aload_n rfl rfl ?_
            refine g_iconst rfl ?_
            refine g_iald (i := 0) rfl (ms.slot hL) (by omega) (by omega) ?_
            refine g_top (v2 := aI ((Lp : Int))) (congrArg aI (by exact (g39.sa hL (g37.sa hL (g31.sa hL (g27.sa hL (g25.sa hL (g23.sa hL (g21.sa hL (g19.sa hL (g17.sa hL (g15.sa hL (g13.sa hL (g11.sa hL (g9.sa hL (g7.sa hL (g5.sa hL (g3.sa hL sL)))))))))))))))).1)) ?_
            refine g_callVI [aI ((p19 : Int)), aI ((Lp : Int))] [aI ((p39 : Int)), aO (some o), aO (some o), aO (some o)] rfl rfl rfl rfl (Nat.le_of_ble_eq_true rfl) ms.1 (r_mul (by omega) ms V39 (by have := G_40.2.2.1; omega) (g39.rb (g37.rb (g31.rb (g27.rb (g25.rb (g23.rb (g21.rb xp19))))))) (g39.rb (g37.rb (g31.rb (g27.rb (g25.rb (g23.rb (g21.rb (g19.rb (g17.rb (g15.rb (g13.rb (g11.rb (g9.rb (g7.rb (g5.rb (g3.rb xLp)))))))))))))))) (by omega)) ?_
            rintro _ _ ⟨p41, rfl, V41, rfl, g41, xp41⟩
            have G_42 := G_40.trans (g41.gs _)
            refine g_callVI [aI ((p39 : Int)), aI ((p41 : Int))] [aO (some o), aO (some o)] rfl rfl rfl rfl (Nat.le_of_ble_eq_true rfl) ms.1 (r_add (by omega) ms V41 (by have := G_42.2.2.1; omega) (g41.rb xp39) xp41 (2 * k + 23) (by omega) (by omega) (by omega)) ?_
            rintro _ _ ⟨p43, rfl, V43, rfl, g43, xp43⟩
            have G_44 := G_42.trans (g43.gs _)
            refine g_callVI [aI ((p43 : Int))] [aO (some o)] rfl rfl rfl rfl (Nat.le_of_ble_eq_true rfl) ms.1 (r_neg (by omega) ms V43 (by have := G_44.2.2.1; omega) xp43 (by omega)) ?_
            rintro _ _ ⟨p45, rfl, V45, rfl, g45, xp45⟩
            have G_46 := G_44.trans (g45.gs _)
            refine g_aload_n rfl rfl ?_
            refine g_iload rfl rfl ?_
            refine g_aload_n rfl rfl ?_
            refine g_iconst rfl ?_
            refine g_iald (i := 1) rfl (ms.slot hL) (by omega) (by omega) ?_
            refine g_top (v2 := aI ((Lq : Int))) (congrArg aI (by exact (g45.sa hL (g43.sa hL (g41.sa hL (g39.sa hL (g37.sa hL (g31.sa hL (g27.sa hL (g25.sa hL (g23.sa hL (g21.sa hL (g19.sa hL (g17.sa hL (g15.sa hL (g13.sa hL (g11.sa hL (g9.sa hL (g7.sa hL (g5.sa hL (g3.sa hL sL))))))))))))))))))).2.1)) ?_
            refine g_callVI [aI ((p37 : Int)), aI ((Lq : Int))] [aI ((p45 : Int)), aO (some o)] rfl rfl rfl rfl (Nat.le_of_ble_eq_true rfl) ms.1 (r_mul (by omega) ms V45 (by have := G_46.2.2.1; omega) (g45.rb (g43.rb (g41.rb (g39.rb xp37)))) (g45.rb (g43.rb (g41.rb (g39.rb (g37.rb (g31.rb (g27.rb (g25.rb (g23.rb (g21.rb (g19.rb (g17.rb (g15.rb (g13.rb (g11.rb (g9.rb (g7.rb (g5.rb (g3.rb xLq))))))))))))))))))) (by omega)) ?_
            rintro _ _ ⟨p47, rfl, V47, rfl, g47, xp47⟩
            have G_48 := G_46.trans (g47.gs _)
            refine g_callVI [aI ((p45 : Int)), aI ((p47 : Int))] [] rfl rfl rfl rfl (Nat.le_of_ble_eq_true rfl) ms.1 (r_add (by omega) ms V47 (by have := G_48.2.2.1; omega) (g47.rb xp45) xp47 (2 * k + 166) (by omega) (by omega) (by omega)) ?_
            rintro _ _ ⟨p49, rfl, V49, rfl, g49, xp49⟩
            have G_50 := G_48.trans (g49.gs _)
            refine g_istore (l1 := [(11, aI ((p49 : Int))), (10, aI ((p37 : Int))), (9, aI 0), (8, aI ((p31 : Int))), (7, aI ((p27 : Int))), (6, aI ((p19 : Int))), (5, aI ((p7 : Int))), (0, aO (some o)), (1, aO (some aL)), (2, aO (some aR)), (3, aI 0), (4, aO (some aU))]) rfl rfl ?_
            refine g_aload_n rfl rfl ?_
            refine g_aload_n rfl rfl ?_
            refine g_aload_n rfl rfl ?_
            refine g_aload_n rfl rfl ?_
            refine g_aload_n rfl rfl ?_
            refine g_iconst rfl ?_
            refine g_iald (i := 2) rfl (ms.slot hR) (by omega) (by omega) ?_
            refine g_top (v2 := aI ((Rr : Int))) (congrArg aI (by exact (g49.sa hR (g47.sa hR (g45.sa hR (g43.sa hR (g41.sa hR (g39.sa hR (g37.sa hR (g31.sa hR (g27.sa hR (g25.sa hR (g23.sa hR (g21.sa hR (g19.sa hR (g17.sa hR (g15.sa hR (g13.sa hR (g11.sa hR (g9.sa hR (g7.sa hR (g5.sa hR (g3.sa hR sR))))))))))))))))))))).2.2.1)) ?_
            refine g_iload rfl rfl ?_
            refine g_callVI [aI ((Rr : Int)), aI ((p7 : Int))] [aO (some o), aO (some o), aO (some o)] rfl rfl rfl rfl (Nat.le_of_ble_eq_true rfl) ms.1 (r_mul (by omega) ms V49 (by have := G_50.2.2.1; omega) (g49.rb (g47.rb (g45.rb (g43.rb (g41.rb (g39.rb (g37.rb (g31.rb (g27.rb (g25.rb (g23.rb (g21.rb (g19.rb (g17.rb (g15.rb (g13.rb (g11.rb (g9.rb (g7.rb (g5.rb (g3.rb xRr))))))))))))))))))))) (g49.rb (g47.rb (g45.rb (g43.rb (g41.rb (g39.rb (g37.rb (g31.rb (g27.rb (g25.rb (g23.rb (g21.rb (g19.rb (g17.rb (g15.rb (g13.rb (g11.rb (g9.rb xp7)))))))))))))))))) (by omega)) ?_
            rintro _ _ ⟨p51, rfl, V51, rfl, g51, xp51⟩
            have G_52 := G_50.trans (g51.gs _)
            refine g_aload_n rfl rfl ?_
            refine g_iload rfl rfl ?_
            refine g_aload_n rfl rfl ?_
            refine g_iconst rfl ?_
            refine g_iald (i := 1) rfl (ms.slot hL) (by omega) (by omega) ?_
            refine g_top (v2 := aI ((Lq : Int))) (congrArg aI (by exact (g51.sa hL (g49.sa hL (g47.sa hL (g45.sa hL (g43.sa hL (g41.sa hL (g39.sa hL (g37.sa hL (g31.sa hL (g27.sa hL (g25.sa hL (g23.sa hL (g21.sa hL (g19.sa hL (g17.sa hL (g15.sa hL (g13.sa hL (g11.sa hL (g9.sa hL (g7.sa hL (g5.sa hL (g3.sa hL sL)))))))))))))))))))))).2.1)) ?_
            refine g_callVI [aI ((p19 : Int)), aI ((Lq : Int))] [aI ((p51 : Int)), aO (some o), aO (some o), aO (some o)] rfl rfl rfl rfl (Nat.le_of_ble_eq_true rfl) ms.1 (r_mul (by omega) ms V51 (by have := G_52.2.2.1; omega) (g51.rb (g49.rb (g47.rb (g45.rb (g43.rb (g41.rb (g39.rb (g37.rb (g31.rb (g27.rb (g25.rb (g23.rb (g21.rb xp19))))))))))))) (g51.rb (g49.rb (g47.rb (g45.rb (g43.rb (g41.rb (g39.rb (g37.rb (g31.rb (g27.rb (g25.rb (g23.rb (g21.rb (g19.rb (g17.rb (g15.rb (g13.rb (g11.rb (g9.rb (g7.rb (g5.rb (g3.rb xLq)))))))))))))))))))))) (by omega)) ?_
            rintro _ _ ⟨p53, rfl, V53, rfl, g53, xp53⟩
            have G_54 := G_52.trans (g53.gs _)
            refine g_callVI [aI ((p51 : Int)), aI ((p53 : Int))] [aO (some o), aO (some o)] rfl rfl rfl rfl (Nat.le_of_ble_eq_true rfl) ms.1 (r_add (by omega) ms V53 (by have := G_54.2.2.1; omega) (g53.rb xp51) xp53 (2 * k + 23) (by omega) (by omega) (by omega)) ?_
            rintro _ _ ⟨p55, rfl, V55, rfl, g55, xp55⟩
            have G_56 := G_54.trans (g55.gs _)
            refine g_callVI [aI ((p55 : Int))] [aO (some o)] rfl rfl rfl rfl (Nat.le_of_ble_eq_true rfl) ms.1 (r_neg (by omega) ms V55 (by have := G_56.2.2.1; omega) xp55 (by omega)) ?_
            rintro _ _ ⟨p57, rfl, V57, rfl, g57, xp57⟩
            have G_58 := G_56.trans (g57.gs _)
            refine g_aload_n rfl rfl ?_
            refine g_iload rfl rfl ?_
            refine g_aload_n rfl rfl ?_
            refine g_iconst rfl ?_
            refine g_iald (i := 0) rfl (ms.slot hL) (by omega) (by omega) ?_
            refine g_top (v2 := aI ((Lp : Int))) (congrArg aI (by exact (g57.sa hL (g55.sa hL (g53.sa hL (g51.sa hL (g49.sa hL (g47.sa hL (g45.sa hL (g43.sa hL (g41.sa hL (g39.sa hL (g37.sa hL (g31.sa hL (g27.sa hL (g25.sa hL (g23.sa hL (g21.sa hL (g19.sa hL (g17.sa hL (g15.sa hL (g13.sa hL (g11.sa hL (g9.sa hL (g7.sa hL (g5.sa hL (g3.sa hL sL))))))))))))))))))))))))).1)) ?_
            refine g_callVI [aI ((p37 : Int)), aI ((Lp : Int))] [aI ((p57 : Int)), aO (some o)] rfl rfl rfl rfl (Nat.le_of_ble_eq_true rfl) ms.1 (r_mul (by omega) ms V57 (by have := G_58.2.2.1; omega) (g57.rb (g55.rb (g53.rb (g51.rb (g49.rb (g47.rb (g45.rb (g43.rb (g41.rb (g39.rb xp37)))))))))) (g57.rb (g55.rb (g53.rb (g51.rb (g49.rb (g47.rb (g45.rb (g43.rb (g41.rb (g39.rb (g37.rb (g31.rb (g27.rb (g25.rb (g23.rb (g21.rb (g19.rb (g17.rb (g15.rb (g13.rb (g11.rb (g9.rb (g7.rb (g5.rb (g3.rb xLp))))))))))))))))))))))))) (by omega)) ?_
            rintro _ _ ⟨p59, rfl, V59, rfl, g59, xp59⟩
            have G_60 := G_58.trans (g59.gs _)
            refine g_callVI [aI ((p57 : Int)), aI ((p59 : Int))] [] rfl rfl rfl rfl (Nat.le_of_ble_eq_true rfl) ms.1 (r_sub (by omega) ms V59 (by have := G_60.2.2.1; omega) (g59.rb xp57) xp59 (2 * k + 166) (by omega) (by omega) (by omega)) ?_
            rintro _ _ ⟨p61, rfl, V61, rfl, g61, xp61⟩
            have G_62 := G_60.trans (g61.gs _)
            refine g_istore (l1 := [(12, aI ((p61 : Int))), (11, aI ((p49 : Int))), (10, aI ((p37 : Int))), (9, aI 0), (8, aI ((p31 : Int))), (7, aI ((p27 : Int))), (6, aI ((p19 : Int))), (5, aI ((p7 : Int))), (0, aO (some o)), (1, aO (some aL)), (2, aO (some aR)), (3, aI 0), (4, aO (some aU))]) rfl rfl ?_
            refine g_aload_n rfl rfl ?_
            refine g_aload rfl rfl ?_
            refine g_iload rfl rfl ?_
            refine g_iload rfl rfl ?_
            refine g_aload_n rfl rfl ?_
            refine g_aload_n rfl rfl ?_
            refine g_ldc2 rfl ?_
            refine g_callVI [aJ 2] [aO (some o), aI ((p61 : Int)), aI ((p49 : Int)), aO (some aU), aO (some o)] rfl rfl rfl rfl (Nat.le_of_ble_eq_true rfl) ms.1 (r_num (by omega) ms V61 (by have := G_62.2.2.1; omega) 2 (by omega) 1 (by decide)) ?_
            rintro _ _ ⟨p63, rfl, V63, rfl, g63, xp63⟩
            have G_64 := G_62.trans (g63.gs _)
            refine g_aload_n rfl rfl ?_
            refine g_iconst rfl ?_
            refine g_iald (i := 0) rfl (ms.slot hR) (by omega) (by omega) ?_
            refine g_top (v2 := aI ((Rp : Int))) (congrArg aI (by exact (g63.sa hR (g61.sa hR (g59.sa hR (g57.sa hR (g55.sa hR (g53.sa hR (g51.sa hR (g49.sa hR (g47.sa hR (g45.sa hR (g43.sa hR (g41.sa hR (g39.sa hR (g37.sa hR (g31.sa hR (g27.sa hR (g25.sa hR (g23.sa hR (g21.sa hR (g19.sa hR (g17.sa hR (g15.sa hR (g13.sa hR (g11.sa hR (g9.sa hR (g7.sa hR (g5.sa hR (g3.sa hR sR)))))))))))))))))))))))))))).1)) ?_
            refine g_iload rfl rfl ?_
            refine g_callVI [aI ((p63 : Int)), aI ((Rp : Int)), aI ((p7 : Int))] [aI ((p61 : Int)), aI ((p49 : Int)), aO (some aU), aO (some o)] rfl rfl rfl rfl (Nat.le_of_ble_eq_true rfl) ms.1 (r_mul3 (by omega) ms V63 (by have := G_64.2.2.1; omega) xp63 (g63.rb (g61.rb (g59.rb (g57.rb (g55.rb (g53.rb (g51.rb (g49.rb (g47.rb (g45.rb (g43.rb (g41.rb (g39.rb (g37.rb (g31.rb (g27.rb (g25.rb (g23.rb (g21.rb (g19.rb (g17.rb (g15.rb (g13.rb (g11.rb (g9.rb (g7.rb (g5.rb (g3.rb xRp)))))))))))))))))))))))))))) (g63.rb (g61.rb (g59.rb (g57.rb (g55.rb (g53.rb (g51.rb (g49.rb (g47.rb (g45.rb (g43.rb (g41.rb (g39.rb (g37.rb (g31.rb (g27.rb (g25.rb (g23.rb (g21.rb (g19.rb (g17.rb (g15.rb (g13.rb (g11.rb (g9.rb xp7))))))))))))))))))))))))) (by omega)) ?_
            rintro _ _ ⟨p65, rfl, V65, rfl, g65, xp65⟩
            have G_66 := G_64.trans (g65.gs _)
            refine g_callVN [aO (some aU), aI ((p49 : Int)), aI ((p61 : Int)), aI ((p65 : Int))] [] rfl rfl rfl rfl (Nat.le_of_ble_eq_true rfl) ms.1 (m_put (by omega) ms V65 (by have := G_66.2.2.1; omega) aU hU p49 p61 p65) ?_
            rintro _ ⟨V67, rfl, p67, g67, s67, xp67⟩
            have G_68 := G_66.trans (g67.wide (fun q hq => by have hq : q = aU := hq; show q = aU; omega))
            refine g_iconst rfl ?_
            refine g_zret rfl (by omega) ?_
            refine ⟨V67, rfl, G_68.mono (by omega), ?_⟩
            have l0 := @lcmp_0 (L.1) 0
            have m0 := @lcmp_lt (L.1) 0
            have n0 := @lcmp_gt (0) (L.1)
            have n0q := @lcmp_gt (L.1) 0
            have l1 := @lcmp_0 (L.2.1) 0
            have m1 := @lcmp_lt (L.2.1) 0
            have n1 := @lcmp_gt (0) (L.2.1)
            have n1q := @lcmp_gt (L.2.1) 0
            rw [m_meet_f (by omega) eS31 (by rw [m_fwd0]; omega)]
            exact ⟨rfl, _, _, _, _, s67, ((g67.rb (g65.rb (g63.rb (g61.rb (g59.rb (g57.rb (g55.rb (g53.rb (g51.rb xp49))))))))).up (by omega)), ((g67.rb (g65.rb (g63.rb xp61))).up (by omega)), ((g67.rb xp65).up (by omega)), (xp67.up (by omega))⟩
          · skip
            refine g_iconst rfl ?_
            refine g_goto rfl ?_
            refine g_iload_n rfl rfl ?_
            refine g_icmp_eq_f rfl (by omega) ?_
            refine g_iconst rfl ?_
            refine g_goto rfl ?_
            refine g_istore (l1 := [(9, aI 1), (8, aI ((p31 : Int))), (7, aI ((p27 : Int))), (6, aI ((p19 : Int))), (5, aI ((p7 : Int))), (0, aO (some o)), (1, aO (some aL)), (2, aO (some aR)), (3, aI 0), (4, aO (some aU))]) rfl rfl ?_
            refine g_iload rfl rfl ?_
            refine g_if_eq_f rfl (by omega) ?_
            refine g_iload rfl rfl ?_
            refine g_goto rfl ?_
            refine g_istore (l1 := [(10, aI ((p31 : Int))), (9, aI 1), (8, aI ((p31 : Int))), (7, aI ((p27 : Int))), (6, aI ((p19 : Int))), (5, aI ((p7 : Int))), (0, aO (some o)), (1, aO (some aL)), (2, aO (some aR)), (3, aI 0), (4, aO (some aU))]) rfl rfl ?_
            refine g_aload_n rfl rfl ?_
            refine g_aload_n rfl rfl ?_
            refine g_aload_n rfl rfl ?_
            refine g_aload_n rfl rfl ?_
            refine g_aload_n rfl rfl ?_
            refine g_iconst rfl ?_
            refine g_iald (i := 1) rfl (ms.slot hR) (by omega) (by omega) ?_
            refine g_top (v2 := aI ((Rq : Int))) (congrArg aI (by exact (g31.sa hR (g27.sa hR (g25.sa hR (g23.sa hR (g21.sa hR (g19.sa hR (g17.sa hR (g15.sa hR (g13.sa hR (g11.sa hR (g9.sa hR (g7.sa hR (g5.sa hR (g3.sa hR sR)))))))))))))).2.1)) ?_
            refine g_iload rfl rfl ?_
            refine g_callVI [aI ((Rq : Int)), aI ((p7 : Int))] [aO (some o), aO (some o), aO (some o)] rfl rfl rfl rfl (Nat.le_of_ble_eq_true rfl) ms.1 (r_mul (by omega) ms V31 (by have := G_32.2.2.1; omega) (g31.rb (g27.rb (g25.rb (g23.rb (g21.rb (g19.rb (g17.rb (g15.rb (g13.rb (g11.rb (g9.rb (g7.rb (g5.rb (g3.rb xRq)))))))))))))) (g31.rb (g27.rb (g25.rb (g23.rb (g21.rb (g19.rb (g17.rb (g15.rb (g13.rb (g11.rb (g9.rb xp7))))))))))) (by omega)) ?_
            rintro _ _ ⟨p69, rfl, V69, rfl, g69, xp69⟩
            have G_70 := G_32.trans (g69.gs _)
            refine g_aload_n rfl rfl ?_
            refine g_iload rfl rfl ?_
            refine g_aload_n rfl rfl ?_
            refine g_iconst rfl ?_
            refine g_iald (i := 0) rfl (ms.slot hL) (by omega) (by omega) ?_
            refine g_top (v2 := aI ((Lp : Int))) (congrArg aI (by exact (g69.sa hL (g31.sa hL (g27.sa hL (g25.sa hL (g23.sa hL (g21.sa hL (g19.sa hL (g17.sa hL (g15.sa hL (g13.sa hL (g11.sa hL (g9.sa hL (g7.sa hL (g5.sa hL (g3.sa hL sL))))))))))))))).1)) ?_
            refine g_callVI [aI ((p19 : Int)), aI ((Lp : Int))] [aI ((p69 : Int)), aO (some o), aO (some o), aO (some o)] rfl rfl rfl rfl (Nat.le_of_ble_eq_true rfl) ms.1 (r_mul (by omega) ms V69 (by have := G_70.2.2.1; omega) (g69.rb (g31.rb (g27.rb (g25.rb (g23.rb (g21.rb xp19)))))) (g69.rb (g31.rb (g27.rb (g25.rb (g23.rb (g21.rb (g19.rb (g17.rb (g15.rb (g13.rb (g11.rb (g9.rb (g7.rb (g5.rb (g3.rb xLp))))))))))))))) (by omega)) ?_
            rintro _ _ ⟨p71, rfl, V71, rfl, g71, xp71⟩
            have G_72 := G_70.trans (g71.gs _)
            refine g_callVI [aI ((p69 : Int)), aI ((p71 : Int))] [aO (some o), aO (some o)] rfl rfl rfl rfl (Nat.le_of_ble_eq_true rfl) ms.1 (r_add (by omega) ms V71 (by have := G_72.2.2.1; omega) (g71.rb xp69) xp71 (2 * k + 23) (by omega) (by omega) (by omega)) ?_
            rintro _ _ ⟨p73, rfl, V73, rfl, g73, xp73⟩
            have G_74 := G_72.trans (g73.gs _)
            refine g_callVI [aI ((p73 : Int))] [aO (some o)] rfl rfl rfl rfl (Nat.le_of_ble_eq_true rfl) ms.1 (r_neg (by omega) ms V73 (by have := G_74.2.2.1; omega) xp73 (by omega)) ?_
            rintro _ _ ⟨p75, rfl, V75, rfl, g75, xp75⟩
            have G_76 := G_74.trans (g75.gs _)
            refine g_aload_n rfl rfl ?_
            refine g_iload rfl rfl ?_
            refine g_aload_n rfl rfl ?_
            refine g_iconst rfl ?_
            refine g_iald (i := 1) rfl (ms.slot hL) (by omega) (by omega) ?_
            refine g_top (v2 := aI ((Lq : Int))) (congrArg aI (by exact (g75.sa hL (g73.sa hL (g71.sa hL (g69.sa hL (g31.sa hL (g27.sa hL (g25.sa hL (g23.sa hL (g21.sa hL (g19.sa hL (g17.sa hL (g15.sa hL (g13.sa hL (g11.sa hL (g9.sa hL (g7.sa hL (g5.sa hL (g3.sa hL sL)))))))))))))))))).2.1)) ?_
            refine g_callVI [aI ((p31 : Int)), aI ((Lq : Int))] [aI ((p75 : Int)), aO (some o)] rfl rfl rfl rfl (Nat.le_of_ble_eq_true rfl) ms.1 (r_mul (by omega) ms V75 (by have := G_76.2.2.1; omega) (g75.rb (g73.rb (g71.rb (g69.rb xp31)))) (g75.rb (g73.rb (g71.rb (g69.rb (g31.rb (g27.rb (g25.rb (g23.rb (g21.rb (g19.rb (g17.rb (g15.rb (g13.rb (g11.rb (g9.rb (g7.rb (g5.rb (g3.rb xLq)))))))))))))))))) (by omega)) ?_
            rintro _ _ ⟨p77, rfl, V77, rfl, g77, xp77⟩
            have G_78 := G_76.trans (g77.gs _)
            refine g_callVI [aI ((p75 : Int)), aI ((p77 : Int))] [] rfl rfl rfl rfl (Nat.le_of_ble_eq_true rfl) ms.1 (r_add (by omega) ms V77 (by have := G_78.2.2.1; omega) (g77.rb xp75) xp77 (2 * k + 166) (by omega) (by omega) (by omega)) ?_
            rintro _ _ ⟨p79, rfl, V79, rfl, g79, xp79⟩
            have G_80 := G_78.trans (g79.gs _)
            refine g_istore (l1 := [(11, aI ((p79 : Int))), (10, aI ((p31 : Int))), (9, aI 1), (8, aI ((p31 : Int))), (7, aI ((p27 : Int))), (6, aI ((p19 : Int))), (5, aI ((p7 : Int))), (0, aO (some o)), (1, aO (some aL)), (2, aO (some aR)), (3, aI 0), (4, aO (some aU))]) rfl rfl ?_
            refine g_aload_n rfl rfl ?_
            refine g_aload_n rfl rfl ?_
            refine g_aload_n rfl rfl ?_
            refine g_aload_n rfl rfl ?_
            refine g_aload_n rfl rfl ?_
            refine g_iconst rfl ?_
            refine g_iald (i := 2) rfl (ms.slot hR) (by omega) (by omega) ?_
            refine g_top (v2 := aI ((Rr : Int))) (congrArg aI (by exact (g79.sa hR (g77.sa hR (g75.sa hR (g73.sa hR (g71.sa hR (g69.sa hR (g31.sa hR (g27.sa hR (g25.sa hR (g23.sa hR (g21.sa hR (g19.sa hR (g17.sa hR (g15.sa hR (g13.sa hR (g11.sa hR (g9.sa hR (g7.sa hR (g5.sa hR (g3.sa hR sR)))))))))))))))))))).2.2.1)) ?_
            refine g_iload rfl rfl ?_
            refine g_callVI [aI ((Rr : Int)), aI ((p7 : Int))] [aO (some o), aO (some o), aO (some o)] rfl rfl rfl rfl (Nat.le_of_ble_eq_true rfl) ms.1 (r_mul (by omega) ms V79 (by have := G_80.2.2.1; omega) (g79.rb (g77.rb (g75.rb (g73.rb (g71.rb (g69.rb (g31.rb (g27.rb (g25.rb (g23.rb (g21.rb (g19.rb (g17.rb (g15.rb (g13.rb (g11.rb (g9.rb (g7.rb (g5.rb (g3.rb xRr)))))))))))))))))))) (g79.rb (g77.rb (g75.rb (g73.rb (g71.rb (g69.rb (g31.rb (g27.rb (g25.rb (g23.rb (g21.rb (g19.rb (g17.rb (g15.rb (g13.rb (g11.rb (g9.rb xp7))))))))))))))))) (by omega)) ?_
            rintro _ _ ⟨p81, rfl, V81, rfl, g81, xp81⟩
            have G_82 := G_80.trans (g81.gs _)
            refine g_aload_n rfl rfl ?_
            refine g_iload rfl rfl ?_
            refine g_aload_n rfl rfl ?_
            refine g_iconst rfl ?_
            refine g_iald (i := 1) rfl (ms.slot hL) (by omega) (by omega) ?_
            refine g_top (v2 := aI ((Lq : Int))) (congrArg aI (by exact (g81.sa hL (g79.sa hL (g77.sa hL (g75.sa hL (g73.sa hL (g71.sa hL (g69.sa hL (g31.sa hL (g27.sa hL (g25.sa hL (g23.sa hL (g21.sa hL (g19.sa hL (g17.sa hL (g15.sa hL (g13.sa hL (g11.sa hL (g9.sa hL (g7.sa hL (g5.sa hL (g3.sa hL sL))))))))))))))))))))).2.1)) ?_
            refine g_callVI [aI ((p19 : Int)), aI ((Lq : Int))] [aI ((p81 : Int)), aO (some o), aO (some o), aO (some o)] rfl rfl rfl rfl (Nat.le_of_ble_eq_true rfl) ms.1 (r_mul (by omega) ms V81 (by have := G_82.2.2.1; omega) (g81.rb (g79.rb (g77.rb (g75.rb (g73.rb (g71.rb (g69.rb (g31.rb (g27.rb (g25.rb (g23.rb (g21.rb xp19)))))))))))) (g81.rb (g79.rb (g77.rb (g75.rb (g73.rb (g71.rb (g69.rb (g31.rb (g27.rb (g25.rb (g23.rb (g21.rb (g19.rb (g17.rb (g15.rb (g13.rb (g11.rb (g9.rb (g7.rb (g5.rb (g3.rb xLq))))))))))))))))))))) (by omega)) ?_
            rintro _ _ ⟨p83, rfl, V83, rfl, g83, xp83⟩
            have G_84 := G_82.trans (g83.gs _)
            refine g_callVI [aI ((p81 : Int)), aI ((p83 : Int))] [aO (some o), aO (some o)] rfl rfl rfl rfl (Nat.le_of_ble_eq_true rfl) ms.1 (r_add (by omega) ms V83 (by have := G_84.2.2.1; omega) (g83.rb xp81) xp83 (2 * k + 23) (by omega) (by omega) (by omega)) ?_
            rintro _ _ ⟨p85, rfl, V85, rfl, g85, xp85⟩
            have G_86 := G_84.trans (g85.gs _)
            refine g_callVI [aI ((p85 : Int))] [aO (some o)] rfl rfl rfl rfl (Nat.le_of_ble_eq_true rfl) ms.1 (r_neg (by omega) ms V85 (by have := G_86.2.2.1; omega) xp85 (by omega)) ?_
            rintro _ _ ⟨p87, rfl, V87, rfl, g87, xp87⟩
            have G_88 := G_86.trans (g87.gs _)
            refine g_aload_n rfl rfl ?_
            refine g_iload rfl rfl ?_
            refine g_aload_n rfl rfl ?_
            refine g_iconst rfl ?_
            refine g_iald (i := 0) rfl (ms.slot hL) (by omega) (by omega) ?_
            refine g_top (v2 := aI ((Lp : Int))) (congrArg aI (by exact (g87.sa hL (g85.sa hL (g83.sa hL (g81.sa hL (g79.sa hL (g77.sa hL (g75.sa hL (g73.sa hL (g71.sa hL (g69.sa hL (g31.sa hL (g27.sa hL (g25.sa hL (g23.sa hL (g21.sa hL (g19.sa hL (g17.sa hL (g15.sa hL (g13.sa hL (g11.sa hL (g9.sa hL (g7.sa hL (g5.sa hL (g3.sa hL sL)))))))))))))))))))))))).1)) ?_
            refine g_callVI [aI ((p31 : Int)), aI ((Lp : Int))] [aI ((p87 : Int)), aO (some o)] rfl rfl rfl rfl (Nat.le_of_ble_eq_true rfl) ms.1 (r_mul (by omega) ms V87 (by have := G_88.2.2.1; omega) (g87.rb (g85.rb (g83.rb (g81.rb (g79.rb (g77.rb (g75.rb (g73.rb (g71.rb (g69.rb xp31)))))))))) (g87.rb (g85.rb (g83.rb (g81.rb (g79.rb (g77.rb (g75.rb (g73.rb (g71.rb (g69.rb (g31.rb (g27.rb (g25.rb (g23.rb (g21.rb (g19.rb (g17.rb (g15.rb (g13.rb (g11.rb (g9.rb (g7.rb (g5.rb (g3.rb xLp)))))))))))))))))))))))) (by omega)) ?_
            rintro _ _ ⟨p89, rfl, V89, rfl, g89, xp89⟩
            have G_90 := G_88.trans (g89.gs _)
            refine g_callVI [aI ((p87 : Int)), aI ((p89 : Int))] [] rfl rfl rfl rfl (Nat.le_of_ble_eq_true rfl) ms.1 (r_sub (by omega) ms V89 (by have := G_90.2.2.1; omega) (g89.rb xp87) xp89 (2 * k + 166) (by omega) (by omega) (by omega)) ?_
            rintro _ _ ⟨p91, rfl, V91, rfl, g91, xp91⟩
            have G_92 := G_90.trans (g91.gs _)
            refine g_istore (l1 := [(12, aI ((p91 : Int))), (11, aI ((p79 : Int))), (10, aI ((p31 : Int))), (9, aI 1), (8, aI ((p31 : Int))), (7, aI ((p27 : Int))), (6, aI ((p19 : Int))), (5, aI ((p7 : Int))), (0, aO (some o)), (1, aO (some aL)), (2, aO (some aR)), (3, aI 0), (4, aO (some aU))]) rfl rfl ?_
            refine g_aload_n rfl rfl ?_
            refine g_aload rfl rfl ?_
            refine g_iload rfl rfl ?_
            refine g_iload rfl rfl ?_
            refine g_aload_n rfl rfl ?_
            refine g_aload_n rfl rfl ?_
            refine g_ldc2 rfl ?_
            refine g_callVI [aJ 2] [aO (some o), aI ((p91 : Int)), aI ((p79 : Int)), aO (some aU), aO (some o)] rfl rfl rfl rfl (Nat.le_of_ble_eq_true rfl) ms.1 (r_num (by omega) ms V91 (by have := G_92.2.2.1; omega) 2 (by omega) 1 (by decide)) ?_
            rintro _ _ ⟨p93, rfl, V93, rfl, g93, xp93⟩
            have G_94 := G_92.trans (g93.gs _)
            refine g_aload_n rfl rfl ?_
            refine g_iconst rfl ?_
            refine g_iald (i := 0) rfl (ms.slot hR) (by omega) (by omega) ?_
            refine g_top (v2 := aI ((Rp : Int))) (congrArg aI (by exact (g93.sa hR (g91.sa hR (g89.sa hR (g87.sa hR (g85.sa hR (g83.sa hR (g81.sa hR (g79.sa hR (g77.sa hR (g75.sa hR (g73.sa hR (g71.sa hR (g69.sa hR (g31.sa hR (g27.sa hR (g25.sa hR (g23.sa hR (g21.sa hR (g19.sa hR (g17.sa hR (g15.sa hR (g13.sa hR (g11.sa hR (g9.sa hR (g7.sa hR (g5.sa hR (g3.sa hR sR))))))))))))))))))))))))))).1)) ?_
            refine g_iload rfl rfl ?_
            refine g_callVI [aI ((p93 : Int)), aI ((Rp : Int)), aI ((p7 : Int))] [aI ((p91 : Int)), aI ((p79 : Int)), aO (some aU), aO (some o)] rfl rfl rfl rfl (Nat.le_of_ble_eq_true rfl) ms.1 (r_mul3 (by omega) ms V93 (by have := G_94.2.2.1; omega) xp93 (g93.rb (g91.rb (g89.rb (g87.rb (g85.rb (g83.rb (g81.rb (g79.rb (g77.rb (g75.rb (g73.rb (g71.rb (g69.rb (g31.rb (g27.rb (g25.rb (g23.rb (g21.rb (g19.rb (g17.rb (g15.rb (g13.rb (g11.rb (g9.rb (g7.rb (g5.rb (g3.rb xRp))))))))))))))))))))))))))) (g93.rb (g91.rb (g89.rb (g87.rb (g85.rb (g83.rb (g81.rb (g79.rb (g77.rb (g75.rb (g73.rb (g71.rb (g69.rb (g31.rb (g27.rb (g25.rb (g23.rb (g21.rb (g19.rb (g17.rb (g15.rb (g13.rb (g11.rb (g9.rb xp7)))))))))))))))))))))))) (by omega)) ?_
            rintro _ _ ⟨p95, rfl, V95, rfl, g95, xp95⟩
            have G_96 := G_94.trans (g95.gs _)
            refine g_callVN [aO (some aU), aI ((p79 : Int)), aI ((p91 : Int)), aI ((p95 : Int))] [] rfl rfl rfl rfl (Nat.le_of_ble_eq_true rfl) ms.1 (m_put (by omega) ms V95 (by have := G_96.2.2.1; omega) aU hU p79 p91 p95) ?_
            rintro _ ⟨V97, rfl, p97, g97, s97, xp97⟩
            have G_98 := G_96.trans (g97.wide (fun q hq => by have hq : q = aU := hq; show q = aU; omega))
            refine g_iconst rfl ?_
            refine g_zret rfl (by omega) ?_
            refine ⟨V97, rfl, G_98.mono (by omega), ?_⟩
            have l0 := @lcmp_0 (L.1) 0
            have m0 := @lcmp_lt (L.1) 0
            have n0 := @lcmp_gt (0) (L.1)
            have n0q := @lcmp_gt (L.1) 0
            have l1 := @lcmp_0 (L.2.1) 0
            have m1 := @lcmp_lt (L.2.1) 0
            have n1 := @lcmp_gt (0) (L.2.1)
            have n1q := @lcmp_gt (L.2.1) 0
            rw [m_meet_t (by omega) eS31 (by rw [m_fwd0]; omega)]
            exact ⟨rfl, _, _, _, _, s97, ((g97.rb (g95.rb (g93.rb (g91.rb (g89.rb (g87.rb (g85.rb (g83.rb (g81.rb xp79))))))))).up (by omega)), ((g97.rb (g95.rb (g93.rb xp91))).up (by omega)), ((g97.rb xp95).up (by omega)), (xp97.up (by omega))⟩
        · skip
          refine g_aload_n rfl rfl ?_
          refine g_aload_n rfl rfl ?_
          refine g_iconst rfl ?_
          refine g_iald (i := 1) rfl (ms.slot hL) (by omega) (by omega) ?_
          refine g_top (v2 := aI ((Lq : Int))) (congrArg aI (by exact (g31.sa hL (g27.sa hL (g25.sa hL (g23.sa hL (g21.sa hL (g19.sa hL (g17.sa hL (g15.sa hL (g13.sa hL (g11.sa hL (g9.sa hL (g7.sa hL (g5.sa hL (g3.sa hL sL)))))))))))))).2.1)) ?_
          refine g_callVI [aI ((Lq : Int))] [] rfl rfl rfl rfl (Nat.le_of_ble_eq_true rfl) ms.1 (r_sign (by omega) ms V31 (g31.rb (g27.rb (g25.rb (g23.rb (g21.rb (g19.rb (g17.rb (g15.rb (g13.rb (g11.rb (g9.rb (g7.rb (g5.rb (g3.rb xLq))))))))))))))) ?_
          rintro r99 _ ⟨rfl, e100⟩
          rw [e100]
          clear e100 r99
          refine g_if_le rfl (fun c156 => ?_) (fun c156 => ?_)
          · skip
            refine g_iconst rfl ?_
            refine g_iload_n rfl rfl ?_
            refine g_icmp_ne_f rfl (by omega) ?_
            refine g_iconst rfl ?_
            refine g_goto rfl ?_
            refine g_istore (l1 := [(9, aI 1), (8, aI ((p31 : Int))), (7, aI ((p27 : Int))), (6, aI ((p19 : Int))), (5, aI ((p7 : Int))), (0, aO (some o)), (1, aO (some aL)), (2, aO (some aR)), (3, aI 0), (4, aO (some aU))]) rfl rfl ?_
            refine g_iload rfl rfl ?_
            refine g_if_eq_f rfl (by omega) ?_
            refine g_iload rfl rfl ?_
            refine g_goto rfl ?_
            refine g_istore (l1 := [(10, aI ((p31 : Int))), (9, aI 1), (8, aI ((p31 : Int))), (7, aI ((p27 : Int))), (6, aI ((p19 : Int))), (5, aI ((p7 : Int))), (0, aO (some o)), (1, aO (some aL)), (2, aO (some aR)), (3, aI 0), (4, aO (some aU))]) rfl rfl ?_
            refine g_aload_n rfl rfl ?_
            refine g_aload_n rfl rfl ?_
            refine g_aload_n rfl rfl ?_
            refine g_aload_n rfl rfl ?_
            refine g_aload_n rfl rfl ?_
            refine g_iconst rfl ?_
            refine g_iald (i := 1) rfl (ms.slot hR) (by omega) (by omega) ?_
            refine g_top (v2 := aI ((Rq : Int))) (congrArg aI (by exact (g31.sa hR (g27.sa hR (g25.sa hR (g23.sa hR (g21.sa hR (g19.sa hR (g17.sa hR (g15.sa hR (g13.sa hR (g11.sa hR (g9.sa hR (g7.sa hR (g5.sa hR (g3.sa hR sR)))))))))))))).2.1)) ?_
            refine g_iload rfl rfl ?_
            refine g_callVI [aI ((Rq : Int)), aI ((p7 : Int))] [aO (some o), aO (some o), aO (some o)] rfl rfl rfl rfl (Nat.le_of_ble_eq_true rfl) ms.1 (r_mul (by omega) ms V31 (by have := G_32.2.2.1; omega) (g31.rb (g27.rb (g25.rb (g23.rb (g21.rb (g19.rb (g17.rb (g15.rb (g13.rb (g11.rb (g9.rb (g7.rb (g5.rb (g3.rb xRq)))))))))))))) (g31.rb (g27.rb (g25.rb (g23.rb (g21.rb (g19.rb (g17.rb (g15.rb (g13.rb (g11.rb (g9.rb xp7))))))))))) (by omega)) ?_
            rintro _ _ ⟨p101, rfl, V101, rfl, g101, xp101⟩
            have G_102 := G_32.trans (g101.gs _)
            refine g_aload_n rfl rfl ?_
            refine g_iload rfl rfl ?_
            refine g_aload_n rfl rfl ?_
            refine g_iconst rfl ?_
            refine g_iald (i := 0) rfl (ms.slot hL) (by omega) (by omega) ?_
            refine g_top (v2 := aI ((Lp : Int))) (congrArg aI (by exact (g101.sa hL (g31.sa hL (g27.sa hL (g25.sa hL (g23.sa hL (g21.sa hL (g19.sa hL (g17.sa hL (g15.sa hL (g13.sa hL (g11.sa hL (g9.sa hL (g7.sa hL (g5.sa hL (g3.sa hL sL))))))))))))))).1)) ?_
            refine g_callVI [aI ((p19 : Int)), aI ((Lp : Int))] [aI ((p101 : Int)), aO (some o), aO (some o), aO (some o)] rfl rfl rfl rfl (Nat.le_of_ble_eq_true rfl) ms.1 (r_mul (by omega) ms V101 (by have := G_102.2.2.1; omega) (g101.rb (g31.rb (g27.rb (g25.rb (g23.rb (g21.rb xp19)))))) (g101.rb (g31.rb (g27.rb (g25.rb (g23.rb (g21.rb (g19.rb (g17.rb (g15.rb (g13.rb (g11.rb (g9.rb (g7.rb (g5.rb (g3.rb xLp))))))))))))))) (by omega)) ?_
            rintro _ _ ⟨p103, rfl, V103, rfl, g103, xp103⟩
            have G_104 := G_102.trans (g103.gs _)
            refine g_callVI [aI ((p101 : Int)), aI ((p103 : Int))] [aO (some o), aO (some o)] rfl rfl rfl rfl (Nat.le_of_ble_eq_true rfl) ms.1 (r_add (by omega) ms V103 (by have := G_104.2.2.1; omega) (g103.rb xp101) xp103 (2 * k + 23) (by omega) (by omega) (by omega)) ?_
            rintro _ _ ⟨p105, rfl, V105, rfl, g105, xp105⟩
            have G_106 := G_104.trans (g105.gs _)
            refine g_callVI [aI ((p105 : Int))] [aO (some o)] rfl rfl rfl rfl (Nat.le_of_ble_eq_true rfl) ms.1 (r_neg (by omega) ms V105 (by have := G_106.2.2.1; omega) xp105 (by omega)) ?_
            rintro _ _ ⟨p107, rfl, V107, rfl, g107, xp107⟩
            have G_108 := G_106.trans (g107.gs _)
            refine g_aload_n rfl rfl ?_
            refine g_iload rfl rfl ?_
            refine g_aload_n rfl rfl ?_
            refine g_iconst rfl ?_
            refine g_iald (i := 1) rfl (ms.slot hL) (by omega) (by omega) ?_
            refine g_top (v2 := aI ((Lq : Int))) (congrArg aI (by exact (g107.sa hL (g105.sa hL (g103.sa hL (g101.sa hL (g31.sa hL (g27.sa hL (g25.sa hL (g23.sa hL (g21.sa hL (g19.sa hL (g17.sa hL (g15.sa hL (g13.sa hL (g11.sa hL (g9.sa hL (g7.sa hL (g5.sa hL (g3.sa hL sL)))))))))))))))))).2.1)) ?_
            refine g_callVI [aI ((p31 : Int)), aI ((Lq : Int))] [aI ((p107 : Int)), aO (some o)] rfl rfl rfl rfl (Nat.le_of_ble_eq_true rfl) ms.1 (r_mul (by omega) ms V107 (by have := G_108.2.2.1; omega) (g107.rb (g105.rb (g103.rb (g101.rb xp31)))) (g107.rb (g105.rb (g103.rb (g101.rb (g31.rb (g27.rb (g25.rb (g23.rb (g21.rb (g19.rb (g17.rb (g15.rb (g13.rb (g11.rb (g9.rb (g7.rb (g5.rb (g3.rb xLq)))))))))))))))))) (by omega)) ?_
            rintro _ _ ⟨p109, rfl, V109, rfl, g109, xp109⟩
            have G_110 := G_108.trans (g109.gs _)
            refine g_callVI [aI ((p107 : Int)), aI ((p109 : Int))] [] rfl rfl rfl rfl (Nat.le_of_ble_eq_true rfl) ms.1 (r_add (by omega) ms V109 (by have := G_110.2.2.1; omega) (g109.rb xp107) xp109 (2 * k + 166) (by omega) (by omega) (by omega)) ?_
            rintro _ _ ⟨p111, rfl, V111, rfl, g111, xp111⟩
            have G_112 := G_110.trans (g111.gs _)
            refine g_istore (l1 := [(11, aI ((p111 : Int))), (10, aI ((p31 : Int))), (9, aI 1), (8, aI ((p31 : Int))), (7, aI ((p27 : Int))), (6, aI ((p19 : Int))), (5, aI ((p7 : Int))), (0, aO (some o)), (1, aO (some aL)), (2, aO (some aR)), (3, aI 0), (4, aO (some aU))]) rfl rfl ?_
            refine g_aload_n rfl rfl ?_
            refine g_aload_n rfl rfl ?_
            refine g_aload_n rfl rfl ?_
            refine g_aload_n rfl rfl ?_
            refine g_aload_n rfl rfl ?_
            refine g_iconst rfl ?_
            refine g_iald (i := 2) rfl (ms.slot hR) (by omega) (by omega) ?_
            refine g_top (v2 := aI ((Rr : Int))) (congrArg aI (by exact (g111.sa hR (g109.sa hR (g107.sa hR (g105.sa hR (g103.sa hR (g101.sa hR (g31.sa hR (g27.sa hR (g25.sa hR (g23.sa hR (g21.sa hR (g19.sa hR (g17.sa hR (g15.sa hR (g13.sa hR (g11.sa hR (g9.sa hR (g7.sa hR (g5.sa hR (g3.sa hR sR)))))))))))))))))))).2.2.1)) ?_
            refine g_iload rfl rfl ?_
            refine g_callVI [aI ((Rr : Int)), aI ((p7 : Int))] [aO (some o), aO (some o), aO (some o)] rfl rfl rfl rfl (Nat.le_of_ble_eq_true rfl) ms.1 (r_mul (by omega) ms V111 (by have := G_112.2.2.1; omega) (g111.rb (g109.rb (g107.rb (g105.rb (g103.rb (g101.rb (g31.rb (g27.rb (g25.rb (g23.rb (g21.rb (g19.rb (g17.rb (g15.rb (g13.rb (g11.rb (g9.rb (g7.rb (g5.rb (g3.rb xRr)))))))))))))))))))) (g111.rb (g109.rb (g107.rb (g105.rb (g103.rb (g101.rb (g31.rb (g27.rb (g25.rb (g23.rb (g21.rb (g19.rb (g17.rb (g15.rb (g13.rb (g11.rb (g9.rb xp7))))))))))))))))) (by omega)) ?_
            rintro _ _ ⟨p113, rfl, V113, rfl, g113, xp113⟩
            have G_114 := G_112.trans (g113.gs _)
            refine g_aload_n rfl rfl ?_
            refine g_iload rfl rfl ?_
            refine g_aload_n rfl rfl ?_
            refine g_iconst rfl ?_
            refine g_iald (i := 1) rfl (ms.slot hL) (by omega) (by omega) ?_
            refine g_top (v2 := aI ((Lq : Int))) (congrArg aI (by exact (g113.sa hL (g111.sa hL (g109.sa hL (g107.sa hL (g105.sa hL (g103.sa hL (g101.sa hL (g31.sa hL (g27.sa hL (g25.sa hL (g23.sa hL (g21.sa hL (g19.sa hL (g17.sa hL (g15.sa hL (g13.sa hL (g11.sa hL (g9.sa hL (g7.sa hL (g5.sa hL (g3.sa hL sL))))))))))))))))))))).2.1)) ?_
            refine g_callVI [aI ((p19 : Int)), aI ((Lq : Int))] [aI ((p113 : Int)), aO (some o), aO (some o), aO (some o)] rfl rfl rfl rfl (Nat.le_of_ble_eq_true rfl) ms.1 (r_mul (by omega) ms V113 (by have := G_114.2.2.1; omega) (g113.rb (g111.rb (g109.rb (g107.rb (g105.rb (g103.rb (g101.rb (g31.rb (g27.rb (g25.rb (g23.rb (g21.rb xp19)))))))))))) (g113.rb (g111.rb (g109.rb (g107.rb (g105.rb (g103.rb (g101.rb (g31.rb (g27.rb (g25.rb (g23.rb (g21.rb (g19.rb (g17.rb (g15.rb (g13.rb (g11.rb (g9.rb (g7.rb (g5.rb (g3.rb xLq))))))))))))))))))))) (by omega)) ?_
            rintro _ _ ⟨p115, rfl, V115, rfl, g115, xp115⟩
            have G_116 := G_114.trans (g115.gs _)
            refine g_callVI [aI ((p113 : Int)), aI ((p115 : Int))] [aO (some o), aO (some o)] rfl rfl rfl rfl (Nat.le_of_ble_eq_true rfl) ms.1 (r_add (by omega) ms V115 (by have := G_116.2.2.1; omega) (g115.rb xp113) xp115 (2 * k + 23) (by omega) (by omega) (by omega)) ?_
            rintro _ _ ⟨p117, rfl, V117, rfl, g117, xp117⟩
            have G_118 := G_116.trans (g117.gs _)
            refine g_callVI [aI ((p117 : Int))] [aO (some o)] rfl rfl rfl rfl (Nat.le_of_ble_eq_true rfl) ms.1 (r_neg (by omega) ms V117 (by have := G_118.2.2.1; omega) xp117 (by omega)) ?_
            rintro _ _ ⟨p119, rfl, V119, rfl, g119, xp119⟩
            have G_120 := G_118.trans (g119.gs _)
            refine g_aload_n rfl rfl ?_
            refine g_iload rfl rfl ?_
            refine g_aload_n rfl rfl ?_
            refine g_iconst rfl ?_
            refine g_iald (i := 0) rfl (ms.slot hL) (by omega) (by omega) ?_
            refine g_top (v2 := aI ((Lp : Int))) (congrArg aI (by exact (g119.sa hL (g117.sa hL (g115.sa hL (g113.sa hL (g111.sa hL (g109.sa hL (g107.sa hL (g105.sa hL (g103.sa hL (g101.sa hL (g31.sa hL (g27.sa hL (g25.sa hL (g23.sa hL (g21.sa hL (g19.sa hL (g17.sa hL (g15.sa hL (g13.sa hL (g11.sa hL (g9.sa hL (g7.sa hL (g5.sa hL (g3.sa hL sL)))))))))))))))))))))))).1)) ?_
            refine g_callVI [aI ((p31 : Int)), aI ((Lp : Int))] [aI ((p119 : Int)), aO (some o)] rfl rfl rfl rfl (Nat.le_of_ble_eq_true rfl) ms.1 (r_mul (by omega) ms V119 (by have := G_120.2.2.1; omega) (g119.rb (g117.rb (g115.rb (g113.rb (g111.rb (g109.rb (g107.rb (g105.rb (g103.rb (g101.rb xp31)))))))))) (g119.rb (g117.rb (g115.rb (g113.rb (g111.rb (g109.rb (g107.rb (g105.rb (g103.rb (g101.rb (g31.rb (g27.rb (g25.rb (g23.rb (g21.rb (g19.rb (g17.rb (g15.rb (g13.rb (g11.rb (g9.rb (g7.rb (g5.rb (g3.rb xLp)))))))))))))))))))))))) (by omega)) ?_
            rintro _ _ ⟨p121, rfl, V121, rfl, g121, xp121⟩
            have G_122 := G_120.trans (g121.gs _)
            refine g_callVI [aI ((p119 : Int)), aI ((p121 : Int))] [] rfl rfl rfl rfl (Nat.le_of_ble_eq_true rfl) ms.1 (r_sub (by omega) ms V121 (by have := G_122.2.2.1; omega) (g121.rb xp119) xp121 (2 * k + 166) (by omega) (by omega) (by omega)) ?_
            rintro _ _ ⟨p123, rfl, V123, rfl, g123, xp123⟩
            have G_124 := G_122.trans (g123.gs _)
            refine g_istore (l1 := [(12, aI ((p123 : Int))), (11, aI ((p111 : Int))), (10, aI ((p31 : Int))), (9, aI 1), (8, aI ((p31 : Int))), (7, aI ((p27 : Int))), (6, aI ((p19 : Int))), (5, aI ((p7 : Int))), (0, aO (some o)), (1, aO (some aL)), (2, aO (some aR)), (3, aI 0), (4, aO (some aU))]) rfl rfl ?_
            refine g_aload_n rfl rfl ?_
            refine g_aload rfl rfl ?_
            refine g_iload rfl rfl ?_
            refine g_iload rfl rfl ?_
            refine g_aload_n rfl rfl ?_
            refine g_aload_n rfl rfl ?_
            refine g_ldc2 rfl ?_
            refine g_callVI [aJ 2] [aO (some o), aI ((p123 : Int)), aI ((p111 : Int)), aO (some aU), aO (some o)] rfl rfl rfl rfl (Nat.le_of_ble_eq_true rfl) ms.1 (r_num (by omega) ms V123 (by have := G_124.2.2.1; omega) 2 (by omega) 1 (by decide)) ?_
            rintro _ _ ⟨p125, rfl, V125, rfl, g125, xp125⟩
            have G_126 := G_124.trans (g125.gs _)
            refine g_aload_n rfl rfl ?_
            refine g_iconst rfl ?_
            refine g_iald (i := 0) rfl (ms.slot hR) (by omega) (by omega) ?_
            refine g_top (v2 := aI ((Rp : Int))) (congrArg aI (by exact (g125.sa hR (g123.sa hR (g121.sa hR (g119.sa hR (g117.sa hR (g115.sa hR (g113.sa hR (g111.sa hR (g109.sa hR (g107.sa hR (g105.sa hR (g103.sa hR (g101.sa hR (g31.sa hR (g27.sa hR (g25.sa hR (g23.sa hR (g21.sa hR (g19.sa hR (g17.sa hR (g15.sa hR (g13.sa hR (g11.sa hR (g9.sa hR (g7.sa hR (g5.sa hR (g3.sa hR sR))))))))))))))))))))))))))).1)) ?_
            refine g_iload rfl rfl ?_
            refine g_callVI [aI ((p125 : Int)), aI ((Rp : Int)), aI ((p7 : Int))] [aI ((p123 : Int)), aI ((p111 : Int)), aO (some aU), aO (some o)] rfl rfl rfl rfl (Nat.le_of_ble_eq_true rfl) ms.1 (r_mul3 (by omega) ms V125 (by have := G_126.2.2.1; omega) xp125 (g125.rb (g123.rb (g121.rb (g119.rb (g117.rb (g115.rb (g113.rb (g111.rb (g109.rb (g107.rb (g105.rb (g103.rb (g101.rb (g31.rb (g27.rb (g25.rb (g23.rb (g21.rb (g19.rb (g17.rb (g15.rb (g13.rb (g11.rb (g9.rb (g7.rb (g5.rb (g3.rb xRp))))))))))))))))))))))))))) (g125.rb (g123.rb (g121.rb (g119.rb (g117.rb (g115.rb (g113.rb (g111.rb (g109.rb (g107.rb (g105.rb (g103.rb (g101.rb (g31.rb (g27.rb (g25.rb (g23.rb (g21.rb (g19.rb (g17.rb (g15.rb (g13.rb (g11.rb (g9.rb xp7)))))))))))))))))))))))) (by omega)) ?_
            rintro _ _ ⟨p127, rfl, V127, rfl, g127, xp127⟩
            have G_128 := G_126.trans (g127.gs _)
            refine g_callVN [aO (some aU), aI ((p111 : Int)), aI ((p123 : Int)), aI ((p127 : Int))] [] rfl rfl rfl rfl (Nat.le_of_ble_eq_true rfl) ms.1 (m_put (by omega) ms V127 (by have := G_128.2.2.1; omega) aU hU p111 p123 p127) ?_
            rintro _ ⟨V129, rfl, p129, g129, s129, xp129⟩
            have G_130 := G_128.trans (g129.wide (fun q hq => by have hq : q = aU := hq; show q = aU; omega))
            refine g_iconst rfl ?_
            refine g_zret rfl (by omega) ?_
            refine ⟨V129, rfl, G_130.mono (by omega), ?_⟩
            have l0 := @lcmp_0 (L.1) 0
            have m0 := @lcmp_lt (L.1) 0
            have n0 := @lcmp_gt (0) (L.1)
            have n0q := @lcmp_gt (L.1) 0
            have l1 := @lcmp_0 (L.2.1) 0
            have m1 := @lcmp_lt (L.2.1) 0
            have n1 := @lcmp_gt (0) (L.2.1)
            have n1q := @lcmp_gt (L.2.1) 0
            rw [m_meet_t (by omega) eS31 (by rw [m_fwd0]; omega)]
            exact ⟨rfl, _, _, _, _, s129, ((g129.rb (g127.rb (g125.rb (g123.rb (g121.rb (g119.rb (g117.rb (g115.rb (g113.rb xp111))))))))).up (by omega)), ((g129.rb (g127.rb (g125.rb xp123))).up (by omega)), ((g129.rb xp127).up (by omega)), (xp129.up (by omega))⟩
          · skip
            refine g_iconst rfl ?_
            refine g_goto rfl ?_
            refine g_iload_n rfl rfl ?_
            refine g_icmp_ne_t rfl (by omega) ?_
            refine g_iconst rfl ?_
            refine g_goto rfl ?_
            refine g_istore (l1 := [(9, aI 0), (8, aI ((p31 : Int))), (7, aI ((p27 : Int))), (6, aI ((p19 : Int))), (5, aI ((p7 : Int))), (0, aO (some o)), (1, aO (some aL)), (2, aO (some aR)), (3, aI 0), (4, aO (some aU))]) rfl rfl ?_
            refine g_iload rfl rfl ?_
            refine g_if_eq_t rfl (by omega) ?_
            refine g_aload_n rfl rfl ?_
            refine g_iload rfl rfl ?_
            refine g_callVI [aI ((p31 : Int))] [] rfl rfl rfl rfl (Nat.le_of_ble_eq_true rfl) ms.1 (r_neg (by omega) ms V31 (by have := G_32.2.2.1; omega) xp31 (by omega)) ?_
            rintro _ _ ⟨p131, rfl, V131, rfl, g131, xp131⟩
            have G_132 := G_32.trans (g131.gs _)
            refine g_istore (l1 := [(10, aI ((p131 : Int))), (9, aI 0), (8, aI ((p31 : Int))), (7, aI ((p27 : Int))), (6, aI ((p19 : Int))), (5, aI ((p7 : Int))), (0, aO (some o)), (1, aO (some aL)), (2, aO (some aR)), (3, aI 0), (4, aO (some aU))]) rfl rfl ?_
            refine g_aload_n rfl rfl ?_
            refine g_aload_n rfl rfl ?_
            refine g_aload_n rfl rfl ?_
            refine g_aload_n rfl rfl ?_
            refine g_aload_n rfl rfl ?_
            refine g_iconst rfl ?_
            refine g_iald (i := 1) rfl (ms.slot hR) (by omega) (by omega) ?_
            refine g_top (v2 := aI ((Rq : Int))) (congrArg aI (by exact (g131.sa hR (g31.sa hR (g27.sa hR (g25.sa hR (g23.sa hR (g21.sa hR (g19.sa hR (g17.sa hR (g15.sa hR (g13.sa hR (g11.sa hR (g9.sa hR (g7.sa hR (g5.sa hR (g3.sa hR sR))))))))))))))).2.1)) ?_
            refine g_iload rfl rfl ?_
            refine g_callVI [aI ((Rq : Int)), aI ((p7 : Int))] [aO (some o), aO (some o), aO (some o)] rfl rfl rfl rfl (Nat.le_of_ble_eq_true rfl) ms.1 (r_mul (by omega) ms V131 (by have := G_132.2.2.1; omega) (g131.rb (g31.rb (g27.rb (g25.rb (g23.rb (g21.rb (g19.rb (g17.rb (g15.rb (g13.rb (g11.rb (g9.rb (g7.rb (g5.rb (g3.rb xRq))))))))))))))) (g131.rb (g31.rb (g27.rb (g25.rb (g23.rb (g21.rb (g19.rb (g17.rb (g15.rb (g13.rb (g11.rb (g9.rb xp7)))))))))))) (by omega)) ?_
            rintro _ _ ⟨p133, rfl, V133, rfl, g133, xp133⟩
            have G_134 := G_132.trans (g133.gs _)
            refine g_aload_n rfl rfl ?_
            refine g_iload rfl rfl ?_
            refine g_aload_n rfl rfl ?_
            refine g_iconst rfl ?_
            refine g_iald (i := 0) rfl (ms.slot hL) (by omega) (by omega) ?_
            refine g_top (v2 := aI ((Lp : Int))) (congrArg aI (by exact (g133.sa hL (g131.sa hL (g31.sa hL (g27.sa hL (g25.sa hL (g23.sa hL (g21.sa hL (g19.sa hL (g17.sa hL (g15.sa hL (g13.sa hL (g11.sa hL (g9.sa hL (g7.sa hL (g5.sa hL (g3.sa hL sL)))))))))))))))).1)) ?_
            refine g_callVI [aI ((p19 : Int)), aI ((Lp : Int))] [aI ((p133 : Int)), aO (some o), aO (some o), aO (some o)] rfl rfl rfl rfl (Nat.le_of_ble_eq_true rfl) ms.1 (r_mul (by omega) ms V133 (by have := G_134.2.2.1; omega) (g133.rb (g131.rb (g31.rb (g27.rb (g25.rb (g23.rb (g21.rb xp19))))))) (g133.rb (g131.rb (g31.rb (g27.rb (g25.rb (g23.rb (g21.rb (g19.rb (g17.rb (g15.rb (g13.rb (g11.rb (g9.rb (g7.rb (g5.rb (g3.rb xLp)))))))))))))))) (by omega)) ?_
            rintro _ _ ⟨p135, rfl, V135, rfl, g135, xp135⟩
            have G_136 := G_134.trans (g135.gs _)
            refine g_callVI [aI ((p133 : Int)), aI ((p135 : Int))] [aO (some o), aO (some o)] rfl rfl rfl rfl (Nat.le_of_ble_eq_true rfl) ms.1 (r_add (by omega) ms V135 (by have := G_136.2.2.1; omega) (g135.rb xp133) xp135 (2 * k + 23) (by omega) (by omega) (by omega)) ?_
            rintro _ _ ⟨p137, rfl, V137, rfl, g137, xp137⟩
            have G_138 := G_136.trans (g137.gs _)
            refine g_callVI [aI ((p137 : Int))] [aO (some o)] rfl rfl rfl rfl (Nat.le_of_ble_eq_true rfl) ms.1 (r_neg (by omega) ms V137 (by have := G_138.2.2.1; omega) xp137 (by omega)) ?_
            rintro _ _ ⟨p139, rfl, V139, rfl, g139, xp139⟩
            have G_140 := G_138.trans (g139.gs _)
            refine g_aload_n rfl rfl ?_
            refine g_iload rfl rfl ?_
            refine g_aload_n rfl rfl ?_
            refine g_iconst rfl ?_
            refine g_iald (i := 1) rfl (ms.slot hL) (by omega) (by omega) ?_
            refine g_top (v2 := aI ((Lq : Int))) (congrArg aI (by exact (g139.sa hL (g137.sa hL (g135.sa hL (g133.sa hL (g131.sa hL (g31.sa hL (g27.sa hL (g25.sa hL (g23.sa hL (g21.sa hL (g19.sa hL (g17.sa hL (g15.sa hL (g13.sa hL (g11.sa hL (g9.sa hL (g7.sa hL (g5.sa hL (g3.sa hL sL))))))))))))))))))).2.1)) ?_
            refine g_callVI [aI ((p131 : Int)), aI ((Lq : Int))] [aI ((p139 : Int)), aO (some o)] rfl rfl rfl rfl (Nat.le_of_ble_eq_true rfl) ms.1 (r_mul (by omega) ms V139 (by have := G_140.2.2.1; omega) (g139.rb (g137.rb (g135.rb (g133.rb xp131)))) (g139.rb (g137.rb (g135.rb (g133.rb (g131.rb (g31.rb (g27.rb (g25.rb (g23.rb (g21.rb (g19.rb (g17.rb (g15.rb (g13.rb (g11.rb (g9.rb (g7.rb (g5.rb (g3.rb xLq))))))))))))))))))) (by omega)) ?_
            rintro _ _ ⟨p141, rfl, V141, rfl, g141, xp141⟩
            have G_142 := G_140.trans (g141.gs _)
            refine g_callVI [aI ((p139 : Int)), aI ((p141 : Int))] [] rfl rfl rfl rfl (Nat.le_of_ble_eq_true rfl) ms.1 (r_add (by omega) ms V141 (by have := G_142.2.2.1; omega) (g141.rb xp139) xp141 (2 * k + 166) (by omega) (by omega) (by omega)) ?_
            rintro _ _ ⟨p143, rfl, V143, rfl, g143, xp143⟩
            have G_144 := G_142.trans (g143.gs _)
            refine g_istore (l1 := [(11, aI ((p143 : Int))), (10, aI ((p131 : Int))), (9, aI 0), (8, aI ((p31 : Int))), (7, aI ((p27 : Int))), (6, aI ((p19 : Int))), (5, aI ((p7 : Int))), (0, aO (some o)), (1, aO (some aL)), (2, aO (some aR)), (3, aI 0), (4, aO (some aU))]) rfl rfl ?_
            refine g_aload_n rfl rfl ?_
            refine g_aload_n rfl rfl ?_
            refine g_aload_n rfl rfl ?_
            refine g_aload_n rfl rfl ?_
            refine g_aload_n rfl rfl ?_
            refine g_iconst rfl ?_
            refine g_iald (i := 2) rfl (ms.slot hR) (by omega) (by omega) ?_
            refine g_top (v2 := aI ((Rr : Int))) (congrArg aI (by exact (g143.sa hR (g141.sa hR (g139.sa hR (g137.sa hR (g135.sa hR (g133.sa hR (g131.sa hR (g31.sa hR (g27.sa hR (g25.sa hR (g23.sa hR (g21.sa hR (g19.sa hR (g17.sa hR (g15.sa hR (g13.sa hR (g11.sa hR (g9.sa hR (g7.sa hR (g5.sa hR (g3.sa hR sR))))))))))))))))))))).2.2.1)) ?_
            refine g_iload rfl rfl ?_
            refine g_callVI [aI ((Rr : Int)), aI ((p7 : Int))] [aO (some o), aO (some o), aO (some o)] rfl rfl rfl rfl (Nat.le_of_ble_eq_true rfl) ms.1 (r_mul (by omega) ms V143 (by have := G_144.2.2.1; omega) (g143.rb (g141.rb (g139.rb (g137.rb (g135.rb (g133.rb (g131.rb (g31.rb (g27.rb (g25.rb (g23.rb (g21.rb (g19.rb (g17.rb (g15.rb (g13.rb (g11.rb (g9.rb (g7.rb (g5.rb (g3.rb xRr))))))))))))))))))))) (g143.rb (g141.rb (g139.rb (g137.rb (g135.rb (g133.rb (g131.rb (g31.rb (g27.rb (g25.rb (g23.rb (g21.rb (g19.rb (g17.rb (g15.rb (g13.rb (g11.rb (g9.rb xp7)))))))))))))))))) (by omega)) ?_
            rintro _ _ ⟨p145, rfl, V145, rfl, g145, xp145⟩
            have G_146 := G_144.trans (g145.gs _)
            refine g_aload_n rfl rfl ?_
            refine g_iload rfl rfl ?_
            refine g_aload_n rfl rfl ?_
            refine g_iconst rfl ?_
            refine g_iald (i := 1) rfl (ms.slot hL) (by omega) (by omega) ?_
            refine g_top (v2 := aI ((Lq : Int))) (congrArg aI (by exact (g145.sa hL (g143.sa hL (g141.sa hL (g139.sa hL (g137.sa hL (g135.sa hL (g133.sa hL (g131.sa hL (g31.sa hL (g27.sa hL (g25.sa hL (g23.sa hL (g21.sa hL (g19.sa hL (g17.sa hL (g15.sa hL (g13.sa hL (g11.sa hL (g9.sa hL (g7.sa hL (g5.sa hL (g3.sa hL sL)))))))))))))))))))))).2.1)) ?_
            refine g_callVI [aI ((p19 : Int)), aI ((Lq : Int))] [aI ((p145 : Int)), aO (some o), aO (some o), aO (some o)] rfl rfl rfl rfl (Nat.le_of_ble_eq_true rfl) ms.1 (r_mul (by omega) ms V145 (by have := G_146.2.2.1; omega) (g145.rb (g143.rb (g141.rb (g139.rb (g137.rb (g135.rb (g133.rb (g131.rb (g31.rb (g27.rb (g25.rb (g23.rb (g21.rb xp19))))))))))))) (g145.rb (g143.rb (g141.rb (g139.rb (g137.rb (g135.rb (g133.rb (g131.rb (g31.rb (g27.rb (g25.rb (g23.rb (g21.rb (g19.rb (g17.rb (g15.rb (g13.rb (g11.rb (g9.rb (g7.rb (g5.rb (g3.rb xLq)))))))))))))))))))))) (by omega)) ?_
            rintro _ _ ⟨p147, rfl, V147, rfl, g147, xp147⟩
            have G_148 := G_146.trans (g147.gs _)
            refine g_callVI [aI ((p145 : Int)), aI ((p147 : Int))] [aO (some o), aO (some o)] rfl rfl rfl rfl (Nat.le_of_ble_eq_true rfl) ms.1 (r_add (by omega) ms V147 (by have := G_148.2.2.1; omega) (g147.rb xp145) xp147 (2 * k + 23) (by omega) (by omega) (by omega)) ?_
            rintro _ _ ⟨p149, rfl, V149, rfl, g149, xp149⟩
            have G_150 := G_148.trans (g149.gs _)
            refine g_callVI [aI ((p149 : Int))] [aO (some o)] rfl rfl rfl rfl (Nat.le_of_ble_eq_true rfl) ms.1 (r_neg (by omega) ms V149 (by have := G_150.2.2.1; omega) xp149 (by omega)) ?_
            rintro _ _ ⟨p151, rfl, V151, rfl, g151, xp151⟩
            have G_152 := G_150.trans (g151.gs _)
            refine g_aload_n rfl rfl ?_
            refine g_iload rfl rfl ?_
            refine g_aload_n rfl rfl ?_
            refine g_iconst rfl ?_
            refine g_iald (i := 0) rfl (ms.slot hL) (by omega) (by omega) ?_
            refine g_top (v2 := aI ((Lp : Int))) (congrArg aI (by exact (g151.sa hL (g149.sa hL (g147.sa hL (g145.sa hL (g143.sa hL (g141.sa hL (g139.sa hL (g137.sa hL (g135.sa hL (g133.sa hL (g131.sa hL (g31.sa hL (g27.sa hL (g25.sa hL (g23.sa hL (g21.sa hL (g19.sa hL (g17.sa hL (g15.sa hL (g13.sa hL (g11.sa hL (g9.sa hL (g7.sa hL (g5.sa hL (g3.sa hL sL))))))))))))))))))))))))).1)) ?_
            refine g_callVI [aI ((p131 : Int)), aI ((Lp : Int))] [aI ((p151 : Int)), aO (some o)] rfl rfl rfl rfl (Nat.le_of_ble_eq_true rfl) ms.1 (r_mul (by omega) ms V151 (by have := G_152.2.2.1; omega) (g151.rb (g149.rb (g147.rb (g145.rb (g143.rb (g141.rb (g139.rb (g137.rb (g135.rb (g133.rb xp131)))))))))) (g151.rb (g149.rb (g147.rb (g145.rb (g143.rb (g141.rb (g139.rb (g137.rb (g135.rb (g133.rb (g131.rb (g31.rb (g27.rb (g25.rb (g23.rb (g21.rb (g19.rb (g17.rb (g15.rb (g13.rb (g11.rb (g9.rb (g7.rb (g5.rb (g3.rb xLp))))))))))))))))))))))))) (by omega)) ?_
            rintro _ _ ⟨p153, rfl, V153, rfl, g153, xp153⟩
            have G_154 := G_152.trans (g153.gs _)
            refine g_callVI [aI ((p151 : Int)), aI ((p153 : Int))] [] rfl rfl rfl rfl (Nat.le_of_ble_eq_true rfl) ms.1 (r_sub (by omega) ms V153 (by have := G_154.2.2.1; omega) (g153.rb xp151) xp153 (2 * k + 166) (by omega) (by omega) (by omega)) ?_
            rintro _ _ ⟨p155, rfl, V155, rfl, g155, xp155⟩
            have G_156 := G_154.trans (g155.gs _)
            refine g_istore (l1 := [(12, aI ((p155 : Int))), (11, aI ((p143 : Int))), (10, aI ((p131 : Int))), (9, aI 0), (8, aI ((p31 : Int))), (7, aI ((p27 : Int))), (6, aI ((p19 : Int))), (5, aI ((p7 : Int))), (0, aO (some o)), (1, aO (some aL)), (2, aO (some aR)), (3, aI 0), (4, aO (some aU))]) rfl rfl ?_
            refine g_aload_n rfl rfl ?_
            refine g_aload rfl rfl ?_
            refine g_iload rfl rfl ?_
            refine g_iload rfl rfl ?_
            refine g_aload_n rfl rfl ?_
            refine g_aload_n rfl rfl ?_
            refine g_ldc2 rfl ?_
            refine g_callVI [aJ 2] [aO (some o), aI ((p155 : Int)), aI ((p143 : Int)), aO (some aU), aO (some o)] rfl rfl rfl rfl (Nat.le_of_ble_eq_true rfl) ms.1 (r_num (by omega) ms V155 (by have := G_156.2.2.1; omega) 2 (by omega) 1 (by decide)) ?_
            rintro _ _ ⟨p157, rfl, V157, rfl, g157, xp157⟩
            have G_158 := G_156.trans (g157.gs _)
            refine g_aload_n rfl rfl ?_
            refine g_iconst rfl ?_
            refine g_iald (i := 0) rfl (ms.slot hR) (by omega) (by omega) ?_
            refine g_top (v2 := aI ((Rp : Int))) (congrArg aI (by exact (g157.sa hR (g155.sa hR (g153.sa hR (g151.sa hR (g149.sa hR (g147.sa hR (g145.sa hR (g143.sa hR (g141.sa hR (g139.sa hR (g137.sa hR (g135.sa hR (g133.sa hR (g131.sa hR (g31.sa hR (g27.sa hR (g25.sa hR (g23.sa hR (g21.sa hR (g19.sa hR (g17.sa hR (g15.sa hR (g13.sa hR (g11.sa hR (g9.sa hR (g7.sa hR (g5.sa hR (g3.sa hR sR)))))))))))))))))))))))))))).1)) ?_
            refine g_iload rfl rfl ?_
            refine g_callVI [aI ((p157 : Int)), aI ((Rp : Int)), aI ((p7 : Int))] [aI ((p155 : Int)), aI ((p143 : Int)), aO (some aU), aO (some o)] rfl rfl rfl rfl (Nat.le_of_ble_eq_true rfl) ms.1 (r_mul3 (by omega) ms V157 (by have := G_158.2.2.1; omega) xp157 (g157.rb (g155.rb (g153.rb (g151.rb (g149.rb (g147.rb (g145.rb (g143.rb (g141.rb (g139.rb (g137.rb (g135.rb (g133.rb (g131.rb (g31.rb (g27.rb (g25.rb (g23.rb (g21.rb (g19.rb (g17.rb (g15.rb (g13.rb (g11.rb (g9.rb (g7.rb (g5.rb (g3.rb xRp)))))))))))))))))))))))))))) (g157.rb (g155.rb (g153.rb (g151.rb (g149.rb (g147.rb (g145.rb (g143.rb (g141.rb (g139.rb (g137.rb (g135.rb (g133.rb (g131.rb (g31.rb (g27.rb (g25.rb (g23.rb (g21.rb (g19.rb (g17.rb (g15.rb (g13.rb (g11.rb (g9.rb xp7))))))))))))))))))))))))) (by omega)) ?_
            rintro _ _ ⟨p159, rfl, V159, rfl, g159, xp159⟩
            have G_160 := G_158.trans (g159.gs _)
            refine g_callVN [aO (some aU), aI ((p143 : Int)), aI ((p155 : Int)), aI ((p159 : Int))] [] rfl rfl rfl rfl (Nat.le_of_ble_eq_true rfl) ms.1 (m_put (by omega) ms V159 (by have := G_160.2.2.1; omega) aU hU p143 p155 p159) ?_
            rintro _ ⟨V161, rfl, p161, g161, s161, xp161⟩
            have G_162 := G_160.trans (g161.wide (fun q hq => by have hq : q = aU := hq; show q = aU; omega))
            refine g_iconst rfl ?_
            refine g_zret rfl (by omega) ?_
            refine ⟨V161, rfl, G_162.mono (by omega), ?_⟩
            have l0 := @lcmp_0 (L.1) 0
            have m0 := @lcmp_lt (L.1) 0
            have n0 := @lcmp_gt (0) (L.1)
            have n0q := @lcmp_gt (L.1) 0
            have l1 := @lcmp_0 (L.2.1) 0
            have m1 := @lcmp_lt (L.2.1) 0
            have n1 := @lcmp_gt (0) (L.2.1)
            have n1q := @lcmp_gt (L.2.1) 0
            rw [m_meet_f (by omega) eS31 (by rw [m_fwd0]; omega)]
            exact ⟨rfl, _, _, _, _, s161, ((g161.rb (g159.rb (g157.rb (g155.rb (g153.rb (g151.rb (g149.rb (g147.rb (g145.rb xp143))))))))).up (by omega)), ((g161.rb (g159.rb (g157.rb xp155))).up (by omega)), ((g161.rb xp159).up (by omega)), (xp161.up (by omega))⟩
    · skip
      refine g_iconst rfl ?_
      refine g_zret rfl (by omega) ?_
      refine ⟨V27, rfl, G_28.mono (by omega), ?_⟩
      have l0 := @lcmp_0 (L.1) 0
      have m0 := @lcmp_lt (L.1) 0
      have n0 := @lcmp_gt (0) (L.1)
      have n0q := @lcmp_gt (L.1) 0
      have l1 := @lcmp_0 (L.2.1) 0
      have m1 := @lcmp_lt (L.2.1) 0
      have n1 := @lcmp_gt (0) (L.2.1)
      have n1q := @lcmp_gt (L.2.1) 0
      first
        | (rw [m_meet_no (by omega)]; rfl)
        | (rw [m_meet_no2 (by omega) (rootO_neg (lcmp_lt.mp c118))]; rfl)
        | (rw [m_meet_no2 (by omega) ]; rfl)
  · skip
    refine g_aload_n rfl rfl ?_
    refine g_aload_n rfl rfl ?_
    refine g_iconst rfl ?_
    refine g_iald (i := 1) rfl (ms.slot hL) (by omega) (by omega) ?_
    refine g_top (v2 := aI ((Lq : Int))) (congrArg aI (by exact sL.2.1)) ?_
    refine g_callVI [aI ((Lq : Int))] [] rfl rfl rfl rfl (Nat.le_of_ble_eq_true rfl) ms.1 (r_sign (by omega) ms V xLq) ?_
    rintro r163 _ ⟨rfl, e164⟩
    rw [e164]
    clear e164 r163
    refine g_if_ne rfl (fun c17 => ?_) (fun c17 => ?_)
    · skip
      refine g_aload_n rfl rfl ?_
      refine g_aload_n rfl rfl ?_
      refine g_aload_n rfl rfl ?_
      refine g_iconst rfl ?_
      refine g_iald (i := 0) rfl (ms.slot hL) (by omega) (by omega) ?_
      refine g_top (v2 := aI ((Lp : Int))) (congrArg aI (by exact sL.1)) ?_
      refine g_callVI [aI ((Lp : Int))] [aO (some o)] rfl rfl rfl rfl (Nat.le_of_ble_eq_true rfl) ms.1 (r_square (by omega) ms V (by have := G0.2.2.1; omega) xLp (by omega)) ?_
      rintro _ _ ⟨p165, rfl, V165, rfl, g165, xp165⟩
      have G_166 := G0.trans (g165.gs _)
      refine g_aload_n rfl rfl ?_
      refine g_aload_n rfl rfl ?_
      refine g_iconst rfl ?_
      refine g_iald (i := 1) rfl (ms.slot hL) (by omega) (by omega) ?_
      refine g_top (v2 := aI ((Lq : Int))) (congrArg aI (by exact (g165.sa hL sL).2.1)) ?_
      refine g_callVI [aI ((Lq : Int))] [aI ((p165 : Int)), aO (some o)] rfl rfl rfl rfl (Nat.le_of_ble_eq_true rfl) ms.1 (r_square (by omega) ms V165 (by have := G_166.2.2.1; omega) (g165.rb xLq) (by omega)) ?_
      rintro _ _ ⟨p167, rfl, V167, rfl, g167, xp167⟩
      have G_168 := G_166.trans (g167.gs _)
      refine g_callVI [aI ((p165 : Int)), aI ((p167 : Int))] [] rfl rfl rfl rfl (Nat.le_of_ble_eq_true rfl) ms.1 (r_add (by omega) ms V167 (by have := G_168.2.2.1; omega) (g167.rb xp165) xp167 (2 * k + 1) (by omega) (by omega) (by omega)) ?_
      rintro _ _ ⟨p169, rfl, V169, rfl, g169, xp169⟩
      have G_170 := G_168.trans (g169.gs _)
      refine g_istore (l1 := [(5, aI ((p169 : Int))), (0, aO (some o)), (1, aO (some aL)), (2, aO (some aR)), (3, aI 0), (4, aO (some aU))]) rfl rfl ?_
      refine g_aload_n rfl rfl ?_
      refine g_aload_n rfl rfl ?_
      refine g_aload_n rfl rfl ?_
      refine g_ldc2 rfl ?_
      refine g_callVI [aJ 2] [aO (some o), aO (some o)] rfl rfl rfl rfl (Nat.le_of_ble_eq_true rfl) ms.1 (r_num (by omega) ms V169 (by have := G_170.2.2.1; omega) 2 (by omega) 1 (by decide)) ?_
      rintro _ _ ⟨p171, rfl, V171, rfl, g171, xp171⟩
      have G_172 := G_170.trans (g171.gs _)
      refine g_aload_n rfl rfl ?_
      refine g_iconst rfl ?_
      refine g_iald (i := 0) rfl (ms.slot hR) (by omega) (by omega) ?_
      refine g_top (v2 := aI ((Rp : Int))) (congrArg aI (by exact (g171.sa hR (g169.sa hR (g167.sa hR (g165.sa hR sR)))).1)) ?_
      refine g_aload_n rfl rfl ?_
      refine g_iconst rfl ?_
      refine g_iald (i := 2) rfl (ms.slot hL) (by omega) (by omega) ?_
      refine g_top (v2 := aI ((Lr : Int))) (congrArg aI (by exact (g171.sa hL (g169.sa hL (g167.sa hL (g165.sa hL sL)))).2.2.1)) ?_
      refine g_callVI [aI ((p171 : Int)), aI ((Rp : Int)), aI ((Lr : Int))] [aO (some o)] rfl rfl rfl rfl (Nat.le_of_ble_eq_true rfl) ms.1 (r_mul3 (by omega) ms V171 (by have := G_172.2.2.1; omega) xp171 (g171.rb (g169.rb (g167.rb (g165.rb xRp)))) (g171.rb (g169.rb (g167.rb (g165.rb xLr)))) (by omega)) ?_
      rintro _ _ ⟨p173, rfl, V173, rfl, g173, xp173⟩
      have G_174 := G_172.trans (g173.gs _)
      refine g_aload_n rfl rfl ?_
      refine g_aload_n rfl rfl ?_
      refine g_aload_n rfl rfl ?_
      refine g_iconst rfl ?_
      refine g_iald (i := 0) rfl (ms.slot hL) (by omega) (by omega) ?_
      refine g_top (v2 := aI ((Lp : Int))) (congrArg aI (by exact (g173.sa hL (g171.sa hL (g169.sa hL (g167.sa hL (g165.sa hL sL))))).1)) ?_
      refine g_aload_n rfl rfl ?_
      refine g_iconst rfl ?_
      refine g_iald (i := 1) rfl (ms.slot hR) (by omega) (by omega) ?_
      refine g_top (v2 := aI ((Rq : Int))) (congrArg aI (by exact (g173.sa hR (g171.sa hR (g169.sa hR (g167.sa hR (g165.sa hR sR))))).2.1)) ?_
      refine g_callVI [aI ((Lp : Int)), aI ((Rq : Int))] [aO (some o), aI ((p173 : Int)), aO (some o)] rfl rfl rfl rfl (Nat.le_of_ble_eq_true rfl) ms.1 (r_mul (by omega) ms V173 (by have := G_174.2.2.1; omega) (g173.rb (g171.rb (g169.rb (g167.rb (g165.rb xLp))))) (g173.rb (g171.rb (g169.rb (g167.rb (g165.rb xRq))))) (by omega)) ?_
      rintro _ _ ⟨p175, rfl, V175, rfl, g175, xp175⟩
      have G_176 := G_174.trans (g175.gs _)
      refine g_aload_n rfl rfl ?_
      refine g_aload_n rfl rfl ?_
      refine g_iconst rfl ?_
      refine g_iald (i := 1) rfl (ms.slot hL) (by omega) (by omega) ?_
      refine g_top (v2 := aI ((Lq : Int))) (congrArg aI (by exact (g175.sa hL (g173.sa hL (g171.sa hL (g169.sa hL (g167.sa hL (g165.sa hL sL)))))).2.1)) ?_
      refine g_aload_n rfl rfl ?_
      refine g_iconst rfl ?_
      refine g_iald (i := 2) rfl (ms.slot hR) (by omega) (by omega) ?_
      refine g_top (v2 := aI ((Rr : Int))) (congrArg aI (by exact (g175.sa hR (g173.sa hR (g171.sa hR (g169.sa hR (g167.sa hR (g165.sa hR sR)))))).2.2.1)) ?_
      refine g_callVI [aI ((Lq : Int)), aI ((Rr : Int))] [aI ((p175 : Int)), aO (some o), aI ((p173 : Int)), aO (some o)] rfl rfl rfl rfl (Nat.le_of_ble_eq_true rfl) ms.1 (r_mul (by omega) ms V175 (by have := G_176.2.2.1; omega) (g175.rb (g173.rb (g171.rb (g169.rb (g167.rb (g165.rb xLq)))))) (g175.rb (g173.rb (g171.rb (g169.rb (g167.rb (g165.rb xRr)))))) (by omega)) ?_
      rintro _ _ ⟨p177, rfl, V177, rfl, g177, xp177⟩
      have G_178 := G_176.trans (g177.gs _)
      refine g_callVI [aI ((p175 : Int)), aI ((p177 : Int))] [aI ((p173 : Int)), aO (some o)] rfl rfl rfl rfl (Nat.le_of_ble_eq_true rfl) ms.1 (r_add (by omega) ms V177 (by have := G_178.2.2.1; omega) (g177.rb xp175) xp177 (k + 21) (by omega) (by omega) (by omega)) ?_
      rintro _ _ ⟨p179, rfl, V179, rfl, g179, xp179⟩
      have G_180 := G_178.trans (g179.gs _)
      refine g_callVI [aI ((p173 : Int)), aI ((p179 : Int))] [] rfl rfl rfl rfl (Nat.le_of_ble_eq_true rfl) ms.1 (r_sub (by omega) ms V179 (by have := G_180.2.2.1; omega) (g179.rb (g177.rb (g175.rb xp173))) xp179 (k + 22) (by omega) (by omega) (by omega)) ?_
      rintro _ _ ⟨p181, rfl, V181, rfl, g181, xp181⟩
      have G_182 := G_180.trans (g181.gs _)
      refine g_istore (l1 := [(6, aI ((p181 : Int))), (5, aI ((p169 : Int))), (0, aO (some o)), (1, aO (some aL)), (2, aO (some aR)), (3, aI 0), (4, aO (some aU))]) rfl rfl ?_
      refine g_aload_n rfl rfl ?_
      refine g_aload_n rfl rfl ?_
      refine g_aload_n rfl rfl ?_
      refine g_aload_n rfl rfl ?_
      refine g_callVI [aO (some aR)] [aO (some o), aO (some o)] rfl rfl rfl rfl (Nat.le_of_ble_eq_true rfl) ms.1 (m_bulge (by omega) ms V181 (by have := G_182.2.2.1; omega) aR hR (show SB V181 o aR R (20) from ⟨_, _, _, _, (g181.sa hR (g179.sa hR (g177.sa hR (g175.sa hR (g173.sa hR (g171.sa hR (g169.sa hR (g167.sa hR (g165.sa hR sR))))))))), ((g181.rb (g179.rb (g177.rb (g175.rb (g173.rb (g171.rb (g169.rb (g167.rb (g165.rb xRp))))))))).up (by omega)), ((g181.rb (g179.rb (g177.rb (g175.rb (g173.rb (g171.rb (g169.rb (g167.rb (g165.rb xRq))))))))).up (by omega)), ((g181.rb (g179.rb (g177.rb (g175.rb (g173.rb (g171.rb (g169.rb (g167.rb (g165.rb xRr))))))))).up (by omega)), ((g181.rb (g179.rb (g177.rb (g175.rb (g173.rb (g171.rb (g169.rb (g167.rb (g165.rb xRs))))))))).up (by omega))⟩)) ?_
      rintro _ _ ⟨p183, rfl, V183, rfl, g183, xp183⟩
      have G_184 := G_182.trans (g183.gs _)
      refine g_iload rfl rfl ?_
      refine g_callVI [aI ((p183 : Int)), aI ((p169 : Int))] [aO (some o)] rfl rfl rfl rfl (Nat.le_of_ble_eq_true rfl) ms.1 (r_mul (by omega) ms V183 (by have := G_184.2.2.1; omega) xp183 (g183.rb (g181.rb (g179.rb (g177.rb (g175.rb (g173.rb (g171.rb xp169))))))) (by omega)) ?_
      rintro _ _ ⟨p185, rfl, V185, rfl, g185, xp185⟩
      have G_186 := G_184.trans (g185.gs _)
      refine g_aload_n rfl rfl ?_
      refine g_iload rfl rfl ?_
      refine g_callVI [aI ((p181 : Int))] [aI ((p185 : Int)), aO (some o)] rfl rfl rfl rfl (Nat.le_of_ble_eq_true rfl) ms.1 (r_square (by omega) ms V185 (by have := G_186.2.2.1; omega) (g185.rb (g183.rb xp181)) (by omega)) ?_
      rintro _ _ ⟨p187, rfl, V187, rfl, g187, xp187⟩
      have G_188 := G_186.trans (g187.gs _)
      refine g_callVI [aI ((p185 : Int)), aI ((p187 : Int))] [] rfl rfl rfl rfl (Nat.le_of_ble_eq_true rfl) ms.1 (r_sub (by omega) ms V187 (by have := G_188.2.2.1; omega) (g187.rb xp185) xp187 (2 * k + 45) (by omega) (by omega) (by omega)) ?_
      rintro _ _ ⟨p189, rfl, V189, rfl, g189, xp189⟩
      have G_190 := G_188.trans (g189.gs _)
      refine g_istore (l1 := [(7, aI ((p189 : Int))), (6, aI ((p181 : Int))), (5, aI ((p169 : Int))), (0, aO (some o)), (1, aO (some aL)), (2, aO (some aR)), (3, aI 0), (4, aO (some aU))]) rfl rfl ?_
      refine g_aload_n rfl rfl ?_
      refine g_iload rfl rfl ?_
      refine g_callVI [aI ((p189 : Int))] [] rfl rfl rfl rfl (Nat.le_of_ble_eq_true rfl) ms.1 (r_sign (by omega) ms V189 xp189) ?_
      rintro r191 _ ⟨rfl, e192⟩
      rw [e192]
      clear e192 r191
      refine g_if_ge rfl (fun c118 => ?_) (fun c118 => ?_)
      · skip
        refine g_aload_n rfl rfl ?_
        refine g_iload rfl rfl ?_
        refine g_callVI [aI ((p189 : Int))] [] rfl rfl rfl rfl (Nat.le_of_ble_eq_true rfl) ms.1 (r_root (by omega) ms V189 (by have := G_190.2.2.1; omega) xp189 (by exact lcmp_ge (by assumption)) (by omega)) ?_
        rintro r193 _ ⟨V193, rfl, g193, q193⟩
        have G_194 := G_190.trans (g193.gs _)
        cases eS193 : rootO (((m_bulge_S R) * ((L.1 * L.1) + (L.2.1 * L.2.1))) - (((2 * R.1 * L.2.2.1) - ((L.1 * R.2.1) + (L.2.1 * R.2.2.1))) * ((2 * R.1 * L.2.2.1) - ((L.1 * R.2.1) + (L.2.1 * R.2.2.1))))) with
        | none =>
          rw [eS193] at q193
          obtain rfl : r193 = -1 := q193
          refine g_istore (l1 := [(8, aI ((-1))), (7, aI ((p189 : Int))), (6, aI ((p181 : Int))), (5, aI ((p169 : Int))), (0, aO (some o)), (1, aO (some aL)), (2, aO (some aR)), (3, aI 0), (4, aO (some aU))]) rfl rfl ?_
          refine g_iload rfl rfl ?_
          refine g_iconst rfl ?_
          refine g_icmp_ne_f rfl (by omega) ?_
          refine g_iconst rfl ?_
          refine g_zret rfl (by omega) ?_
          refine ⟨V193, rfl, G_194.mono (by omega), ?_⟩
          have l0 := @lcmp_0 (L.1) 0
          have m0 := @lcmp_lt (L.1) 0
          have n0 := @lcmp_gt (0) (L.1)
          have n0q := @lcmp_gt (L.1) 0
          have l1 := @lcmp_0 (L.2.1) 0
          have m1 := @lcmp_lt (L.2.1) 0
          have n1 := @lcmp_gt (0) (L.2.1)
          have n1q := @lcmp_gt (L.2.1) 0
          first
            | (rw [m_meet_no (by omega)]; rfl)
            | (rw [m_meet_no2 (by omega) (rootO_neg (lcmp_lt.mp c118))]; rfl)
            | (rw [m_meet_no2 (by omega) eS193]; rfl)
        | some z193 =>
          rw [eS193] at q193
          obtain ⟨p193, rfl, xp193⟩ := q193
          refine g_istore (l1 := [(8, aI ((p193 : Int))), (7, aI ((p189 : Int))), (6, aI ((p181 : Int))), (5, aI ((p169 : Int))), (0, aO (some o)), (1, aO (some aL)), (2, aO (some aR)), (3, aI 0), (4, aO (some aU))]) rfl rfl ?_
          refine g_iload rfl rfl ?_
          refine g_iconst rfl ?_
          refine g_icmp_ne_t rfl (by omega) ?_
          refine g_aload_n rfl rfl ?_
          refine g_aload_n rfl rfl ?_
          refine g_iconst rfl ?_
          refine g_iald (i := 1) rfl (ms.slot hL) (by omega) (by omega) ?_
          refine g_top (v2 := aI ((Lq : Int))) (congrArg aI (by exact (g193.sa hL (g189.sa hL (g187.sa hL (g185.sa hL (g183.sa hL (g181.sa hL (g179.sa hL (g177.sa hL (g175.sa hL (g173.sa hL (g171.sa hL (g169.sa hL (g167.sa hL (g165.sa hL sL)))))))))))))).2.1)) ?_
          refine g_callVI [aI ((Lq : Int))] [] rfl rfl rfl rfl (Nat.le_of_ble_eq_true rfl) ms.1 (r_sign (by omega) ms V193 (g193.rb (g189.rb (g187.rb (g185.rb (g183.rb (g181.rb (g179.rb (g177.rb (g175.rb (g173.rb (g171.rb (g169.rb (g167.rb (g165.rb xLq))))))))))))))) ?_
          rintro r195 _ ⟨rfl, e196⟩
          rw [e196]
          clear e196 r195
          refine g_if_eq rfl (fun c146 => ?_) (fun c146 => ?_)
          · skip
            refine g_aload_n rfl rfl ?_
            refine g_aload_n rfl rfl ?_
            refine g_iconst rfl ?_
            refine g_iald (i := 0) rfl (ms.slot hL) (by omega) (by omega) ?_
            refine g_top (v2 := aI ((Lp : Int))) (congrArg aI (by exact (g193.sa hL (g189.sa hL (g187.sa hL (g185.sa hL (g183.sa hL (g181.sa hL (g179.sa hL (g177.sa hL (g175.sa hL (g173.sa hL (g171.sa hL (g169.sa hL (g167.sa hL (g165.sa hL sL)))))))))))))).1)) ?_
            refine g_callVI [aI ((Lp : Int))] [] rfl rfl rfl rfl (Nat.le_of_ble_eq_true rfl) ms.1 (r_sign (by omega) ms V193 (g193.rb (g189.rb (g187.rb (g185.rb (g183.rb (g181.rb (g179.rb (g177.rb (g175.rb (g173.rb (g171.rb (g169.rb (g167.rb (g165.rb xLp))))))))))))))) ?_
            rintro r197 _ ⟨rfl, e198⟩
            rw [e198]
            clear e198 r197
            refine g_if_le rfl (fun c183 => ?_) (fun c183 => ?_)
            · skip
              refine g_iconst rfl ?_
              refine g_iload_n rfl rfl ?_
              refine g_icmp_eq_t rfl (by omega) ?_
              refine g_iconst rfl ?_
              refine g_istore (l1 := [(9, aI 0), (8, aI ((p193 : Int))), (7, aI ((p189 : Int))), (6, aI ((p181 : Int))), (5, aI ((p169 : Int))), (0, aO (some o)), (1, aO (some aL)), (2, aO (some aR)), (3, aI 0), (4, aO (some aU))]) rfl rfl ?_
              refine g_iload rfl rfl ?_
              refine g_if_eq_t rfl (by omega) ?_
              refine g_aload_n rfl rfl ?_
              refine g_iload rfl rfl ?_
              refine g_callVI [aI ((p193 : Int))] [] rfl rfl rfl rfl (Nat.le_of_ble_eq_true rfl) ms.1 (r_neg (by omega) ms V193 (by have := G_194.2.2.1; omega) xp193 (by omega)) ?_
              rintro _ _ ⟨p199, rfl, V199, rfl, g199, xp199⟩
              have G_200 := G_194.trans (g199.gs _)
              refine g_istore (l1 := [(10, aI ((p199 : Int))), (9, aI 0), (8, aI ((p193 : Int))), (7, aI ((p189 : Int))), (6, aI ((p181 : Int))), (5, aI ((p169 : Int))), (0, aO (some o)), (1, aO (some aL)), (2, aO (some aR)), (3, aI 0), (4, aO (some aU))]) rfl rfl ?_
              refine g_aload_n rfl rfl ?_
              refine g_aload_n rfl rfl ?_
              refine g_aload_n rfl rfl ?_
              refine g_aload_n rfl rfl ?_
              refine g_aload_n rfl rfl ?_
              refine g_iconst rfl ?_
              refine g_iald (i := 1) rfl (ms.slot hR) (by omega) (by omega) ?_
              refine g_top (v2 := aI ((Rq : Int))) (congrArg aI (by exact (g199.sa hR (g193.sa hR (g189.sa hR (g187.sa hR (g185.sa hR (g183.sa hR (g181.sa hR (g179.sa hR (g177.sa hR (g175.sa hR (g173.sa hR (g171.sa hR (g169.sa hR (g167.sa hR (g165.sa hR sR))))))))))))))).2.1)) ?_
              refine g_iload rfl rfl ?_
              refine g_callVI [aI ((Rq : Int)), aI ((p169 : Int))] [aO (some o), aO (some o), aO (some o)] rfl rfl rfl rfl (Nat.le_of_ble_eq_true rfl) ms.1 (r_mul (by omega) ms V199 (by have := G_200.2.2.1; omega) (g199.rb (g193.rb (g189.rb (g187.rb (g185.rb (g183.rb (g181.rb (g179.rb (g177.rb (g175.rb (g173.rb (g171.rb (g169.rb (g167.rb (g165.rb xRq))))))))))))))) (g199.rb (g193.rb (g189.rb (g187.rb (g185.rb (g183.rb (g181.rb (g179.rb (g177.rb (g175.rb (g173.rb (g171.rb xp169)))))))))))) (by omega)) ?_
              rintro _ _ ⟨p201, rfl, V201, rfl, g201, xp201⟩
              have G_202 := G_200.trans (g201.gs _)
              refine g_aload_n rfl rfl ?_
              refine g_iload rfl rfl ?_
              refine g_aload_n rfl rfl ?_
              refine g_iconst rfl ?_
              refine g_iald (i := 0) rfl (ms.slot hL) (by omega) (by omega) ?_
              refine g_top (v2 := aI ((Lp : Int))) (congrArg aI (by exact (g201.sa hL (g199.sa hL (g193.sa hL (g189.sa hL (g187.sa hL (g185.sa hL (g183.sa hL (g181.sa hL (g179.sa hL (g177.sa hL (g175.sa hL (g173.sa hL (g171.sa hL (g169.sa hL (g167.sa hL (g165.sa hL sL)))))))))))))))).1)) ?_
              refine g_callVI [aI ((p181 : Int)), aI ((Lp : Int))] [aI ((p201 : Int)), aO (some o), aO (some o), aO (some o)] rfl rfl rfl rfl (Nat.le_of_ble_eq_true rfl) ms.1 (r_mul (by omega) ms V201 (by have := G_202.2.2.1; omega) (g201.rb (g199.rb (g193.rb (g189.rb (g187.rb (g185.rb (g183.rb xp181))))))) (g201.rb (g199.rb (g193.rb (g189.rb (g187.rb (g185.rb (g183.rb (g181.rb (g179.rb (g177.rb (g175.rb (g173.rb (g171.rb (g169.rb (g167.rb (g165.rb xLp)))))))))))))))) (by omega)) ?_
              rintro _ _ ⟨p203, rfl, V203, rfl, g203, xp203⟩
              have G_204 := G_202.trans (g203.gs _)
              refine g_callVI [aI ((p201 : Int)), aI ((p203 : Int))] [aO (some o), aO (some o)] rfl rfl rfl rfl (Nat.le_of_ble_eq_true rfl) ms.1 (r_add (by omega) ms V203 (by have := G_204.2.2.1; omega) (g203.rb xp201) xp203 (2 * k + 23) (by omega) (by omega) (by omega)) ?_
              rintro _ _ ⟨p205, rfl, V205, rfl, g205, xp205⟩
              have G_206 := G_204.trans (g205.gs _)
              refine g_callVI [aI ((p205 : Int))] [aO (some o)] rfl rfl rfl rfl (Nat.le_of_ble_eq_true rfl) ms.1 (r_neg (by omega) ms V205 (by have := G_206.2.2.1; omega) xp205 (by omega)) ?_
              rintro _ _ ⟨p207, rfl, V207, rfl, g207, xp207⟩
              have G_208 := G_206.trans (g207.gs _)
              refine g_aload_n rfl rfl ?_
              refine g_iload rfl rfl ?_
              refine g_aload_n rfl rfl ?_
              refine g_iconst rfl ?_
              refine g_iald (i := 1) rfl (ms.slot hL) (by omega) (by omega) ?_
              refine g_top (v2 := aI ((Lq : Int))) (congrArg aI (by exact (g207.sa hL (g205.sa hL (g203.sa hL (g201.sa hL (g199.sa hL (g193.sa hL (g189.sa hL (g187.sa hL (g185.sa hL (g183.sa hL (g181.sa hL (g179.sa hL (g177.sa hL (g175.sa hL (g173.sa hL (g171.sa hL (g169.sa hL (g167.sa hL (g165.sa hL sL))))))))))))))))))).2.1)) ?_
              refine g_callVI [aI ((p199 : Int)), aI ((Lq : Int))] [aI ((p207 : Int)), aO (some o)] rfl rfl rfl rfl (Nat.le_of_ble_eq_true rfl) ms.1 (r_mul (by omega) ms V207 (by have := G_208.2.2.1; omega) (g207.rb (g205.rb (g203.rb (g201.rb xp199)))) (g207.rb (g205.rb (g203.rb (g201.rb (g199.rb (g193.rb (g189.rb (g187.rb (g185.rb (g183.rb (g181.rb (g179.rb (g177.rb (g175.rb (g173.rb (g171.rb (g169.rb (g167.rb (g165.rb xLq))))))))))))))))))) (by omega)) ?_
              rintro _ _ ⟨p209, rfl, V209, rfl, g209, xp209⟩
              have G_210 := G_208.trans (g209.gs _)
              refine g_callVI [aI ((p207 : Int)), aI ((p209 : Int))] [] rfl rfl rfl rfl (Nat.le_of_ble_eq_true rfl) ms.1 (r_add (by omega) ms V209 (by have := G_210.2.2.1; omega) (g209.rb xp207) xp209 (2 * k + 166) (by omega) (by omega) (by omega)) ?_
              rintro _ _ ⟨p211, rfl, V211, rfl, g211, xp211⟩
              have G_212 := G_210.trans (g211.gs _)
              refine g_istore (l1 := [(11, aI ((p211 : Int))), (10, aI ((p199 : Int))), (9, aI 0), (8, aI ((p193 : Int))), (7, aI ((p189 : Int))), (6, aI ((p181 : Int))), (5, aI ((p169 : Int))), (0, aO (some o)), (1, aO (some aL)), (2, aO (some aR)), (3, aI 0), (4, aO (some aU))]) rfl rfl ?_
              refine g_aload_n rfl rfl ?_
              refine g_aload_n rfl rfl ?_
              refine g_aload_n rfl rfl ?_
              refine g_aload_n rfl rfl ?_
              refine g_aload_n rfl rfl ?_
              refine g_iconst rfl ?_
              refine g_iald (i := 2) rfl (ms.slot hR) (by omega) (by omega) ?_
              refine g_top (v2 := aI ((Rr : Int))) (congrArg aI (by exact (g211.sa hR (g209.sa hR (g207.sa hR (g205.sa hR (g203.sa hR (g201.sa hR (g199.sa hR (g193.sa hR (g189.sa hR (g187.sa hR (g185.sa hR (g183.sa hR (g181.sa hR (g179.sa hR (g177.sa hR (g175.sa hR (g173.sa hR (g171.sa hR (g169.sa hR (g167.sa hR (g165.sa hR sR))))))))))))))))))))).2.2.1)) ?_
              refine g_iload rfl rfl ?_
              refine g_callVI [aI ((Rr : Int)), aI ((p169 : Int))] [aO (some o), aO (some o), aO (some o)] rfl rfl rfl rfl (Nat.le_of_ble_eq_true rfl) ms.1 (r_mul (by omega) ms V211 (by have := G_212.2.2.1; omega) (g211.rb (g209.rb (g207.rb (g205.rb (g203.rb (g201.rb (g199.rb (g193.rb (g189.rb (g187.rb (g185.rb (g183.rb (g181.rb (g179.rb (g177.rb (g175.rb (g173.rb (g171.rb (g169.rb (g167.rb (g165.rb xRr))))))))))))))))))))) (g211.rb (g209.rb (g207.rb (g205.rb (g203.rb (g201.rb (g199.rb (g193.rb (g189.rb (g187.rb (g185.rb (g183.rb (g181.rb (g179.rb (g177.rb (g175.rb (g173.rb (g171.rb xp169)))))))))))))))))) (by omega)) ?_
              rintro _ _ ⟨p213, rfl, V213, rfl, g213, xp213⟩
              have G_214 := G_212.trans (g213.gs _)
              refine g_aload_n rfl rfl ?_
              refine g_iload rfl rfl ?_
              refine g_aload_n rfl rfl ?_
              refine g_iconst rfl ?_
              refine g_iald (i := 1) rfl (ms.slot hL) (by omega) (by omega) ?_
              refine g_top (v2 := aI ((Lq : Int))) (congrArg aI (by exact (g213.sa hL (g211.sa hL (g209.sa hL (g207.sa hL (g205.sa hL (g203.sa hL (g201.sa hL (g199.sa hL (g193.sa hL (g189.sa hL (g187.sa hL (g185.sa hL (g183.sa hL (g181.sa hL (g179.sa hL (g177.sa hL (g175.sa hL (g173.sa hL (g171.sa hL (g169.sa hL (g167.sa hL (g165.sa hL sL)))))))))))))))))))))).2.1)) ?_
              refine g_callVI [aI ((p181 : Int)), aI ((Lq : Int))] [aI ((p213 : Int)), aO (some o), aO (some o), aO (some o)] rfl rfl rfl rfl (Nat.le_of_ble_eq_true rfl) ms.1 (r_mul (by omega) ms V213 (by have := G_214.2.2.1; omega) (g213.rb (g211.rb (g209.rb (g207.rb (g205.rb (g203.rb (g201.rb (g199.rb (g193.rb (g189.rb (g187.rb (g185.rb (g183.rb xp181))))))))))))) (g213.rb (g211.rb (g209.rb (g207.rb (g205.rb (g203.rb (g201.rb (g199.rb (g193.rb (g189.rb (g187.rb (g185.rb (g183.rb (g181.rb (g179.rb (g177.rb (g175.rb (g173.rb (g171.rb (g169.rb (g167.rb (g165.rb xLq)))))))))))))))))))))) (by omega)) ?_
              rintro _ _ ⟨p215, rfl, V215, rfl, g215, xp215⟩
              have G_216 := G_214.trans (g215.gs _)
              refine g_callVI [aI ((p213 : Int)), aI ((p215 : Int))] [aO (some o), aO (some o)] rfl rfl rfl rfl (Nat.le_of_ble_eq_true rfl) ms.1 (r_add (by omega) ms V215 (by have := G_216.2.2.1; omega) (g215.rb xp213) xp215 (2 * k + 23) (by omega) (by omega) (by omega)) ?_
              rintro _ _ ⟨p217, rfl, V217, rfl, g217, xp217⟩
              have G_218 := G_216.trans (g217.gs _)
              refine g_callVI [aI ((p217 : Int))] [aO (some o)] rfl rfl rfl rfl (Nat.le_of_ble_eq_true rfl) ms.1 (r_neg (by omega) ms V217 (by have := G_218.2.2.1; omega) xp217 (by omega)) ?_
              rintro _ _ ⟨p219, rfl, V219, rfl, g219, xp219⟩
              have G_220 := G_218.trans (g219.gs _)
              refine g_aload_n rfl rfl ?_
              refine g_iload rfl rfl ?_
              refine g_aload_n rfl rfl ?_
              refine g_iconst rfl ?_
              refine g_iald (i := 0) rfl (ms.slot hL) (by omega) (by omega) ?_
              refine g_top (v2 := aI ((Lp : Int))) (congrArg aI (by exact (g219.sa hL (g217.sa hL (g215.sa hL (g213.sa hL (g211.sa hL (g209.sa hL (g207.sa hL (g205.sa hL (g203.sa hL (g201.sa hL (g199.sa hL (g193.sa hL (g189.sa hL (g187.sa hL (g185.sa hL (g183.sa hL (g181.sa hL (g179.sa hL (g177.sa hL (g175.sa hL (g173.sa hL (g171.sa hL (g169.sa hL (g167.sa hL (g165.sa hL sL))))))))))))))))))))))))).1)) ?_
              refine g_callVI [aI ((p199 : Int)), aI ((Lp : Int))] [aI ((p219 : Int)), aO (some o)] rfl rfl rfl rfl (Nat.le_of_ble_eq_true rfl) ms.1 (r_mul (by omega) ms V219 (by have := G_220.2.2.1; omega) (g219.rb (g217.rb (g215.rb (g213.rb (g211.rb (g209.rb (g207.rb (g205.rb (g203.rb (g201.rb xp199)))))))))) (g219.rb (g217.rb (g215.rb (g213.rb (g211.rb (g209.rb (g207.rb (g205.rb (g203.rb (g201.rb (g199.rb (g193.rb (g189.rb (g187.rb (g185.rb (g183.rb (g181.rb (g179.rb (g177.rb (g175.rb (g173.rb (g171.rb (g169.rb (g167.rb (g165.rb xLp))))))))))))))))))))))))) (by omega)) ?_
              rintro _ _ ⟨p221, rfl, V221, rfl, g221, xp221⟩
              have G_222 := G_220.trans (g221.gs _)
              refine g_callVI [aI ((p219 : Int)), aI ((p221 : Int))] [] rfl rfl rfl rfl (Nat.le_of_ble_eq_true rfl) ms.1 (r_sub (by omega) ms V221 (by have := G_222.2.2.1; omega) (g221.rb xp219) xp221 (2 * k + 166) (by omega) (by omega) (by omega)) ?_
              rintro _ _ ⟨p223, rfl, V223, rfl, g223, xp223⟩
              have G_224 := G_222.trans (g223.gs _)
              refine g_istore (l1 := [(12, aI ((p223 : Int))), (11, aI ((p211 : Int))), (10, aI ((p199 : Int))), (9, aI 0), (8, aI ((p193 : Int))), (7, aI ((p189 : Int))), (6, aI ((p181 : Int))), (5, aI ((p169 : Int))), (0, aO (some o)), (1, aO (some aL)), (2, aO (some aR)), (3, aI 0), (4, aO (some aU))]) rfl rfl ?_
              refine g_aload_n rfl rfl ?_
              refine g_aload rfl rfl ?_
              refine g_iload rfl rfl ?_
              refine g_iload rfl rfl ?_
              refine g_aload_n rfl rfl ?_
              refine g_aload_n rfl rfl ?_
              refine g_ldc2 rfl ?_
              refine g_callVI [aJ 2] [aO (some o), aI ((p223 : Int)), aI ((p211 : Int)), aO (some aU), aO (some o)] rfl rfl rfl rfl (Nat.le_of_ble_eq_true rfl) ms.1 (r_num (by omega) ms V223 (by have := G_224.2.2.1; omega) 2 (by omega) 1 (by decide)) ?_
              rintro _ _ ⟨p225, rfl, V225, rfl, g225, xp225⟩
              have G_226 := G_224.trans (g225.gs _)
              refine g_aload_n rfl rfl ?_
              refine g_iconst rfl ?_
              refine g_iald (i := 0) rfl (ms.slot hR) (by omega) (by omega) ?_
              refine g_top (v2 := aI ((Rp : Int))) (congrArg aI (by exact (g225.sa hR (g223.sa hR (g221.sa hR (g219.sa hR (g217.sa hR (g215.sa hR (g213.sa hR (g211.sa hR (g209.sa hR (g207.sa hR (g205.sa hR (g203.sa hR (g201.sa hR (g199.sa hR (g193.sa hR (g189.sa hR (g187.sa hR (g185.sa hR (g183.sa hR (g181.sa hR (g179.sa hR (g177.sa hR (g175.sa hR (g173.sa hR (g171.sa hR (g169.sa hR (g167.sa hR (g165.sa hR sR)))))))))))))))))))))))))))).1)) ?_
              refine g_iload rfl rfl ?_
              refine g_callVI [aI ((p225 : Int)), aI ((Rp : Int)), aI ((p169 : Int))] [aI ((p223 : Int)), aI ((p211 : Int)), aO (some aU), aO (some o)] rfl rfl rfl rfl (Nat.le_of_ble_eq_true rfl) ms.1 (r_mul3 (by omega) ms V225 (by have := G_226.2.2.1; omega) xp225 (g225.rb (g223.rb (g221.rb (g219.rb (g217.rb (g215.rb (g213.rb (g211.rb (g209.rb (g207.rb (g205.rb (g203.rb (g201.rb (g199.rb (g193.rb (g189.rb (g187.rb (g185.rb (g183.rb (g181.rb (g179.rb (g177.rb (g175.rb (g173.rb (g171.rb (g169.rb (g167.rb (g165.rb xRp)))))))))))))))))))))))))))) (g225.rb (g223.rb (g221.rb (g219.rb (g217.rb (g215.rb (g213.rb (g211.rb (g209.rb (g207.rb (g205.rb (g203.rb (g201.rb (g199.rb (g193.rb (g189.rb (g187.rb (g185.rb (g183.rb (g181.rb (g179.rb (g177.rb (g175.rb (g173.rb (g171.rb xp169))))))))))))))))))))))))) (by omega)) ?_
              rintro _ _ ⟨p227, rfl, V227, rfl, g227, xp227⟩
              have G_228 := G_226.trans (g227.gs _)
              refine g_callVN [aO (some aU), aI ((p211 : Int)), aI ((p223 : Int)), aI ((p227 : Int))] [] rfl rfl rfl rfl (Nat.le_of_ble_eq_true rfl) ms.1 (m_put (by omega) ms V227 (by have := G_228.2.2.1; omega) aU hU p211 p223 p227) ?_
              rintro _ ⟨V229, rfl, p229, g229, s229, xp229⟩
              have G_230 := G_228.trans (g229.wide (fun q hq => by have hq : q = aU := hq; show q = aU; omega))
              refine g_iconst rfl ?_
              refine g_zret rfl (by omega) ?_
              refine ⟨V229, rfl, G_230.mono (by omega), ?_⟩
              have l0 := @lcmp_0 (L.1) 0
              have m0 := @lcmp_lt (L.1) 0
              have n0 := @lcmp_gt (0) (L.1)
              have n0q := @lcmp_gt (L.1) 0
              have l1 := @lcmp_0 (L.2.1) 0
              have m1 := @lcmp_lt (L.2.1) 0
              have n1 := @lcmp_gt (0) (L.2.1)
              have n1q := @lcmp_gt (L.2.1) 0
              rw [m_meet_f (by omega) eS193 (by rw [m_fwd0]; omega)]
              exact ⟨rfl, _, _, _, _, s229, ((g229.rb (g227.rb (g225.rb (g223.rb (g221.rb (g219.rb (g217.rb (g215.rb (g213.rb xp211))))))))).up (by omega)), ((g229.rb (g227.rb (g225.rb xp223))).up (by omega)), ((g229.rb xp227).up (by omega)), (xp229.up (by omega))⟩
            · skip
              refine g_iconst rfl ?_
              refine g_goto rfl ?_
              refine g_iload_n rfl rfl ?_
              refine g_icmp_eq_f rfl (by omega) ?_
              refine g_iconst rfl ?_
              refine g_goto rfl ?_
              refine g_istore (l1 := [(9, aI 1), (8, aI ((p193 : Int))), (7, aI ((p189 : Int))), (6, aI ((p181 : Int))), (5, aI ((p169 : Int))), (0, aO (some o)), (1, aO (some aL)), (2, aO (some aR)), (3, aI 0), (4, aO (some aU))]) rfl rfl ?_
              refine g_iload rfl rfl ?_
              refine g_if_eq_f rfl (by omega) ?_
              refine g_iload rfl rfl ?_
              refine g_goto rfl ?_
              refine g_istore (l1 := [(10, aI ((p193 : Int))), (9, aI 1), (8, aI ((p193 : Int))), (7, aI ((p189 : Int))), (6, aI ((p181 : Int))), (5, aI ((p169 : Int))), (0, aO (some o)), (1, aO (some aL)), (2, aO (some aR)), (3, aI 0), (4, aO (some aU))]) rfl rfl ?_
              refine g_aload_n rfl rfl ?_
              refine g_aload_n rfl rfl ?_
              refine g_aload_n rfl rfl ?_
              refine g_aload_n rfl rfl ?_
              refine g_aload_n rfl rfl ?_
              refine g_iconst rfl ?_
              refine g_iald (i := 1) rfl (ms.slot hR) (by omega) (by omega) ?_
              refine g_top (v2 := aI ((Rq : Int))) (congrArg aI (by exact (g193.sa hR (g189.sa hR (g187.sa hR (g185.sa hR (g183.sa hR (g181.sa hR (g179.sa hR (g177.sa hR (g175.sa hR (g173.sa hR (g171.sa hR (g169.sa hR (g167.sa hR (g165.sa hR sR)))))))))))))).2.1)) ?_
              refine g_iload rfl rfl ?_
              refine g_callVI [aI ((Rq : Int)), aI ((p169 : Int))] [aO (some o), aO (some o), aO (some o)] rfl rfl rfl rfl (Nat.le_of_ble_eq_true rfl) ms.1 (r_mul (by omega) ms V193 (by have := G_194.2.2.1; omega) (g193.rb (g189.rb (g187.rb (g185.rb (g183.rb (g181.rb (g179.rb (g177.rb (g175.rb (g173.rb (g171.rb (g169.rb (g167.rb (g165.rb xRq)))))))))))))) (g193.rb (g189.rb (g187.rb (g185.rb (g183.rb (g181.rb (g179.rb (g177.rb (g175.rb (g173.rb (g171.rb xp169))))))))))) (by omega)) ?_
              rintro _ _ ⟨p231, rfl, V231, rfl, g231, xp231⟩
              have G_232 := G_194.trans (g231.gs _)
              refine g_aload_n rfl rfl ?_
              refine g_iload rfl rfl ?_
              refine g_aload_n rfl rfl ?_
              refine g_iconst rfl ?_
              refine g_iald (i := 0) rfl (ms.slot hL) (by omega) (by omega) ?_
              refine g_top (v2 := aI ((Lp : Int))) (congrArg aI (by exact (g231.sa hL (g193.sa hL (g189.sa hL (g187.sa hL (g185.sa hL (g183.sa hL (g181.sa hL (g179.sa hL (g177.sa hL (g175.sa hL (g173.sa hL (g171.sa hL (g169.sa hL (g167.sa hL (g165.sa hL sL))))))))))))))).1)) ?_
              refine g_callVI [aI ((p181 : Int)), aI ((Lp : Int))] [aI ((p231 : Int)), aO (some o), aO (some o), aO (some o)] rfl rfl rfl rfl (Nat.le_of_ble_eq_true rfl) ms.1 (r_mul (by omega) ms V231 (by have := G_232.2.2.1; omega) (g231.rb (g193.rb (g189.rb (g187.rb (g185.rb (g183.rb xp181)))))) (g231.rb (g193.rb (g189.rb (g187.rb (g185.rb (g183.rb (g181.rb (g179.rb (g177.rb (g175.rb (g173.rb (g171.rb (g169.rb (g167.rb (g165.rb xLp))))))))))))))) (by omega)) ?_
              rintro _ _ ⟨p233, rfl, V233, rfl, g233, xp233⟩
              have G_234 := G_232.trans (g233.gs _)
              refine g_callVI [aI ((p231 : Int)), aI ((p233 : Int))] [aO (some o), aO (some o)] rfl rfl rfl rfl (Nat.le_of_ble_eq_true rfl) ms.1 (r_add (by omega) ms V233 (by have := G_234.2.2.1; omega) (g233.rb xp231) xp233 (2 * k + 23) (by omega) (by omega) (by omega)) ?_
              rintro _ _ ⟨p235, rfl, V235, rfl, g235, xp235⟩
              have G_236 := G_234.trans (g235.gs _)
              refine g_callVI [aI ((p235 : Int))] [aO (some o)] rfl rfl rfl rfl (Nat.le_of_ble_eq_true rfl) ms.1 (r_neg (by omega) ms V235 (by have := G_236.2.2.1; omega) xp235 (by omega)) ?_
              rintro _ _ ⟨p237, rfl, V237, rfl, g237, xp237⟩
              have G_238 := G_236.trans (g237.gs _)
              refine g_aload_n rfl rfl ?_
              refine g_iload rfl rfl ?_
              refine g_aload_n rfl rfl ?_
              refine g_iconst rfl ?_
              refine g_iald (i := 1) rfl (ms.slot hL) (by omega) (by omega) ?_
              refine g_top (v2 := aI ((Lq : Int))) (congrArg aI (by exact (g237.sa hL (g235.sa hL (g233.sa hL (g231.sa hL (g193.sa hL (g189.sa hL (g187.sa hL (g185.sa hL (g183.sa hL (g181.sa hL (g179.sa hL (g177.sa hL (g175.sa hL (g173.sa hL (g171.sa hL (g169.sa hL (g167.sa hL (g165.sa hL sL)))))))))))))))))).2.1)) ?_
              refine g_callVI [aI ((p193 : Int)), aI ((Lq : Int))] [aI ((p237 : Int)), aO (some o)] rfl rfl rfl rfl (Nat.le_of_ble_eq_true rfl) ms.1 (r_mul (by omega) ms V237 (by have := G_238.2.2.1; omega) (g237.rb (g235.rb (g233.rb (g231.rb xp193)))) (g237.rb (g235.rb (g233.rb (g231.rb (g193.rb (g189.rb (g187.rb (g185.rb (g183.rb (g181.rb (g179.rb (g177.rb (g175.rb (g173.rb (g171.rb (g169.rb (g167.rb (g165.rb xLq)))))))))))))))))) (by omega)) ?_
              rintro _ _ ⟨p239, rfl, V239, rfl, g239, xp239⟩
              have G_240 := G_238.trans (g239.gs _)
              refine g_callVI [aI ((p237 : Int)), aI ((p239 : Int))] [] rfl rfl rfl rfl (Nat.le_of_ble_eq_true rfl) ms.1 (r_add (by omega) ms V239 (by have := G_240.2.2.1; omega) (g239.rb xp237) xp239 (2 * k + 166) (by omega) (by omega) (by omega)) ?_
              rintro _ _ ⟨p241, rfl, V241, rfl, g241, xp241⟩
              have G_242 := G_240.trans (g241.gs _)
              refine g_istore (l1 := [(11, aI ((p241 : Int))), (10, aI ((p193 : Int))), (9, aI 1), (8, aI ((p193 : Int))), (7, aI ((p189 : Int))), (6, aI ((p181 : Int))), (5, aI ((p169 : Int))), (0, aO (some o)), (1, aO (some aL)), (2, aO (some aR)), (3, aI 0), (4, aO (some aU))]) rfl rfl ?_
              refine g_aload_n rfl rfl ?_
              refine g_aload_n rfl rfl ?_
              refine g_aload_n rfl rfl ?_
              refine g_aload_n rfl rfl ?_
              refine g_aload_n rfl rfl ?_
              refine g_iconst rfl ?_
              refine g_iald (i := 2) rfl (ms.slot hR) (by omega) (by omega) ?_
              refine g_top (v2 := aI ((Rr : Int))) (congrArg aI (by exact (g241.sa hR (g239.sa hR (g237.sa hR (g235.sa hR (g233.sa hR (g231.sa hR (g193.sa hR (g189.sa hR (g187.sa hR (g185.sa hR (g183.sa hR (g181.sa hR (g179.sa hR (g177.sa hR (g175.sa hR (g173.sa hR (g171.sa hR (g169.sa hR (g167.sa hR (g165.sa hR sR)))))))))))))))))))).2.2.1)) ?_
              refine g_iload rfl rfl ?_
              refine g_callVI [aI ((Rr : Int)), aI ((p169 : Int))] [aO (some o), aO (some o), aO (some o)] rfl rfl rfl rfl (Nat.le_of_ble_eq_true rfl) ms.1 (r_mul (by omega) ms V241 (by have := G_242.2.2.1; omega) (g241.rb (g239.rb (g237.rb (g235.rb (g233.rb (g231.rb (g193.rb (g189.rb (g187.rb (g185.rb (g183.rb (g181.rb (g179.rb (g177.rb (g175.rb (g173.rb (g171.rb (g169.rb (g167.rb (g165.rb xRr)))))))))))))))))))) (g241.rb (g239.rb (g237.rb (g235.rb (g233.rb (g231.rb (g193.rb (g189.rb (g187.rb (g185.rb (g183.rb (g181.rb (g179.rb (g177.rb (g175.rb (g173.rb (g171.rb xp169))))))))))))))))) (by omega)) ?_
              rintro _ _ ⟨p243, rfl, V243, rfl, g243, xp243⟩
              have G_244 := G_242.trans (g243.gs _)
              refine g_aload_n rfl rfl ?_
              refine g_iload rfl rfl ?_
              refine g_aload_n rfl rfl ?_
              refine g_iconst rfl ?_
              refine g_iald (i := 1) rfl (ms.slot hL) (by omega) (by omega) ?_
              refine g_top (v2 := aI ((Lq : Int))) (congrArg aI (by exact (g243.sa hL (g241.sa hL (g239.sa hL (g237.sa hL (g235.sa hL (g233.sa hL (g231.sa hL (g193.sa hL (g189.sa hL (g187.sa hL (g185.sa hL (g183.sa hL (g181.sa hL (g179.sa hL (g177.sa hL (g175.sa hL (g173.sa hL (g171.sa hL (g169.sa hL (g167.sa hL (g165.sa hL sL))))))))))))))))))))).2.1)) ?_
              refine g_callVI [aI ((p181 : Int)), aI ((Lq : Int))] [aI ((p243 : Int)), aO (some o), aO (some o), aO (some o)] rfl rfl rfl rfl (Nat.le_of_ble_eq_true rfl) ms.1 (r_mul (by omega) ms V243 (by have := G_244.2.2.1; omega) (g243.rb (g241.rb (g239.rb (g237.rb (g235.rb (g233.rb (g231.rb (g193.rb (g189.rb (g187.rb (g185.rb (g183.rb xp181)))))))))))) (g243.rb (g241.rb (g239.rb (g237.rb (g235.rb (g233.rb (g231.rb (g193.rb (g189.rb (g187.rb (g185.rb (g183.rb (g181.rb (g179.rb (g177.rb (g175.rb (g173.rb (g171.rb (g169.rb (g167.rb (g165.rb xLq))))))))))))))))))))) (by omega)) ?_
              rintro _ _ ⟨p245, rfl, V245, rfl, g245, xp245⟩
              have G_246 := G_244.trans (g245.gs _)
              refine g_callVI [aI ((p243 : Int)), aI ((p245 : Int))] [aO (some o), aO (some o)] rfl rfl rfl rfl (Nat.le_of_ble_eq_true rfl) ms.1 (r_add (by omega) ms V245 (by have := G_246.2.2.1; omega) (g245.rb xp243) xp245 (2 * k + 23) (by omega) (by omega) (by omega)) ?_
              rintro _ _ ⟨p247, rfl, V247, rfl, g247, xp247⟩
              have G_248 := G_246.trans (g247.gs _)
              refine g_callVI [aI ((p247 : Int))] [aO (some o)] rfl rfl rfl rfl (Nat.le_of_ble_eq_true rfl) ms.1 (r_neg (by omega) ms V247 (by have := G_248.2.2.1; omega) xp247 (by omega)) ?_
              rintro _ _ ⟨p249, rfl, V249, rfl, g249, xp249⟩
              have G_250 := G_248.trans (g249.gs _)
              refine g_aload_n rfl rfl ?_
              refine g_iload rfl rfl ?_
              refine g_aload_n rfl rfl ?_
              refine g_iconst rfl ?_
              refine g_iald (i := 0) rfl (ms.slot hL) (by omega) (by omega) ?_
              refine g_top (v2 := aI ((Lp : Int))) (congrArg aI (by exact (g249.sa hL (g247.sa hL (g245.sa hL (g243.sa hL (g241.sa hL (g239.sa hL (g237.sa hL (g235.sa hL (g233.sa hL (g231.sa hL (g193.sa hL (g189.sa hL (g187.sa hL (g185.sa hL (g183.sa hL (g181.sa hL (g179.sa hL (g177.sa hL (g175.sa hL (g173.sa hL (g171.sa hL (g169.sa hL (g167.sa hL (g165.sa hL sL)))))))))))))))))))))))).1)) ?_
              refine g_callVI [aI ((p193 : Int)), aI ((Lp : Int))] [aI ((p249 : Int)), aO (some o)] rfl rfl rfl rfl (Nat.le_of_ble_eq_true rfl) ms.1 (r_mul (by omega) ms V249 (by have := G_250.2.2.1; omega) (g249.rb (g247.rb (g245.rb (g243.rb (g241.rb (g239.rb (g237.rb (g235.rb (g233.rb (g231.rb xp193)))))))))) (g249.rb (g247.rb (g245.rb (g243.rb (g241.rb (g239.rb (g237.rb (g235.rb (g233.rb (g231.rb (g193.rb (g189.rb (g187.rb (g185.rb (g183.rb (g181.rb (g179.rb (g177.rb (g175.rb (g173.rb (g171.rb (g169.rb (g167.rb (g165.rb xLp)))))))))))))))))))))))) (by omega)) ?_
              rintro _ _ ⟨p251, rfl, V251, rfl, g251, xp251⟩
              have G_252 := G_250.trans (g251.gs _)
              refine g_callVI [aI ((p249 : Int)), aI ((p251 : Int))] [] rfl rfl rfl rfl (Nat.le_of_ble_eq_true rfl) ms.1 (r_sub (by omega) ms V251 (by have := G_252.2.2.1; omega) (g251.rb xp249) xp251 (2 * k + 166) (by omega) (by omega) (by omega)) ?_
              rintro _ _ ⟨p253, rfl, V253, rfl, g253, xp253⟩
              have G_254 := G_252.trans (g253.gs _)
              refine g_istore (l1 := [(12, aI ((p253 : Int))), (11, aI ((p241 : Int))), (10, aI ((p193 : Int))), (9, aI 1), (8, aI ((p193 : Int))), (7, aI ((p189 : Int))), (6, aI ((p181 : Int))), (5, aI ((p169 : Int))), (0, aO (some o)), (1, aO (some aL)), (2, aO (some aR)), (3, aI 0), (4, aO (some aU))]) rfl rfl ?_
              refine g_aload_n rfl rfl ?_
              refine g_aload rfl rfl ?_
              refine g_iload rfl rfl ?_
              refine g_iload rfl rfl ?_
              refine g_aload_n rfl rfl ?_
              refine g_aload_n rfl rfl ?_
              refine g_ldc2 rfl ?_
              refine g_callVI [aJ 2] [aO (some o), aI ((p253 : Int)), aI ((p241 : Int)), aO (some aU), aO (some o)] rfl rfl rfl rfl (Nat.le_of_ble_eq_true rfl) ms.1 (r_num (by omega) ms V253 (by have := G_254.2.2.1; omega) 2 (by omega) 1 (by decide)) ?_
              rintro _ _ ⟨p255, rfl, V255, rfl, g255, xp255⟩
              have G_256 := G_254.trans (g255.gs _)
              refine g_aload_n rfl rfl ?_
              refine g_iconst rfl ?_
              refine g_iald (i := 0) rfl (ms.slot hR) (by omega) (by omega) ?_
              refine g_top (v2 := aI ((Rp : Int))) (congrArg aI (by exact (g255.sa hR (g253.sa hR (g251.sa hR (g249.sa hR (g247.sa hR (g245.sa hR (g243.sa hR (g241.sa hR (g239.sa hR (g237.sa hR (g235.sa hR (g233.sa hR (g231.sa hR (g193.sa hR (g189.sa hR (g187.sa hR (g185.sa hR (g183.sa hR (g181.sa hR (g179.sa hR (g177.sa hR (g175.sa hR (g173.sa hR (g171.sa hR (g169.sa hR (g167.sa hR (g165.sa hR sR))))))))))))))))))))))))))).1)) ?_
              refine g_iload rfl rfl ?_
              refine g_callVI [aI ((p255 : Int)), aI ((Rp : Int)), aI ((p169 : Int))] [aI ((p253 : Int)), aI ((p241 : Int)), aO (some aU), aO (some o)] rfl rfl rfl rfl (Nat.le_of_ble_eq_true rfl) ms.1 (r_mul3 (by omega) ms V255 (by have := G_256.2.2.1; omega) xp255 (g255.rb (g253.rb (g251.rb (g249.rb (g247.rb (g245.rb (g243.rb (g241.rb (g239.rb (g237.rb (g235.rb (g233.rb (g231.rb (g193.rb (g189.rb (g187.rb (g185.rb (g183.rb (g181.rb (g179.rb (g177.rb (g175.rb (g173.rb (g171.rb (g169.rb (g167.rb (g165.rb xRp))))))))))))))))))))))))))) (g255.rb (g253.rb (g251.rb (g249.rb (g247.rb (g245.rb (g243.rb (g241.rb (g239.rb (g237.rb (g235.rb (g233.rb (g231.rb (g193.rb (g189.rb (g187.rb (g185.rb (g183.rb (g181.rb (g179.rb (g177.rb (g175.rb (g173.rb (g171.rb xp169)))))))))))))))))))))))) (by omega)) ?_
              rintro _ _ ⟨p257, rfl, V257, rfl, g257, xp257⟩
              have G_258 := G_256.trans (g257.gs _)
              refine g_callVN [aO (some aU), aI ((p241 : Int)), aI ((p253 : Int)), aI ((p257 : Int))] [] rfl rfl rfl rfl (Nat.le_of_ble_eq_true rfl) ms.1 (m_put (by omega) ms V257 (by have := G_258.2.2.1; omega) aU hU p241 p253 p257) ?_
              rintro _ ⟨V259, rfl, p259, g259, s259, xp259⟩
              have G_260 := G_258.trans (g259.wide (fun q hq => by have hq : q = aU := hq; show q = aU; omega))
              refine g_iconst rfl ?_
              refine g_zret rfl (by omega) ?_
              refine ⟨V259, rfl, G_260.mono (by omega), ?_⟩
              have l0 := @lcmp_0 (L.1) 0
              have m0 := @lcmp_lt (L.1) 0
              have n0 := @lcmp_gt (0) (L.1)
              have n0q := @lcmp_gt (L.1) 0
              have l1 := @lcmp_0 (L.2.1) 0
              have m1 := @lcmp_lt (L.2.1) 0
              have n1 := @lcmp_gt (0) (L.2.1)
              have n1q := @lcmp_gt (L.2.1) 0
              rw [m_meet_t (by omega) eS193 (by rw [m_fwd0]; omega)]
              exact ⟨rfl, _, _, _, _, s259, ((g259.rb (g257.rb (g255.rb (g253.rb (g251.rb (g249.rb (g247.rb (g245.rb (g243.rb xp241))))))))).up (by omega)), ((g259.rb (g257.rb (g255.rb xp253))).up (by omega)), ((g259.rb xp257).up (by omega)), (xp259.up (by omega))⟩
          · skip
            refine g_aload_n rfl rfl ?_
            refine g_aload_n rfl rfl ?_
            refine g_iconst rfl ?_
            refine g_iald (i := 1) rfl (ms.slot hL) (by omega) (by omega) ?_
            refine g_top (v2 := aI ((Lq : Int))) (congrArg aI (by exact (g193.sa hL (g189.sa hL (g187.sa hL (g185.sa hL (g183.sa hL (g181.sa hL (g179.sa hL (g177.sa hL (g175.sa hL (g173.sa hL (g171.sa hL (g169.sa hL (g167.sa hL (g165.sa hL sL)))))))))))))).2.1)) ?_
            refine g_callVI [aI ((Lq : Int))] [] rfl rfl rfl rfl (Nat.le_of_ble_eq_true rfl) ms.1 (r_sign (by omega) ms V193 (g193.rb (g189.rb (g187.rb (g185.rb (g183.rb (g181.rb (g179.rb (g177.rb (g175.rb (g173.rb (g171.rb (g169.rb (g167.rb (g165.rb xLq))))))))))))))) ?_
            rintro r261 _ ⟨rfl, e262⟩
            rw [e262]
            clear e262 r261
            refine g_if_le rfl (fun c156 => ?_) (fun c156 => ?_)
            · skip
              refine g_iconst rfl ?_
              refine g_iload_n rfl rfl ?_
              refine g_icmp_ne_f rfl (by omega) ?_
              refine g_iconst rfl ?_
              refine g_goto rfl ?_
              refine g_istore (l1 := [(9, aI 1), (8, aI ((p193 : Int))), (7, aI ((p189 : Int))), (6, aI ((p181 : Int))), (5, aI ((p169 : Int))), (0, aO (some o)), (1, aO (some aL)), (2, aO (some aR)), (3, aI 0), (4, aO (some aU))]) rfl rfl ?_
              refine g_iload rfl rfl ?_
              refine g_if_eq_f rfl (by omega) ?_
              refine g_iload rfl rfl ?_
              refine g_goto rfl ?_
              refine g_istore (l1 := [(10, aI ((p193 : Int))), (9, aI 1), (8, aI ((p193 : Int))), (7, aI ((p189 : Int))), (6, aI ((p181 : Int))), (5, aI ((p169 : Int))), (0, aO (some o)), (1, aO (some aL)), (2, aO (some aR)), (3, aI 0), (4, aO (some aU))]) rfl rfl ?_
              refine g_aload_n rfl rfl ?_
              refine g_aload_n rfl rfl ?_
              refine g_aload_n rfl rfl ?_
              refine g_aload_n rfl rfl ?_
              refine g_aload_n rfl rfl ?_
              refine g_iconst rfl ?_
              refine g_iald (i := 1) rfl (ms.slot hR) (by omega) (by omega) ?_
              refine g_top (v2 := aI ((Rq : Int))) (congrArg aI (by exact (g193.sa hR (g189.sa hR (g187.sa hR (g185.sa hR (g183.sa hR (g181.sa hR (g179.sa hR (g177.sa hR (g175.sa hR (g173.sa hR (g171.sa hR (g169.sa hR (g167.sa hR (g165.sa hR sR)))))))))))))).2.1)) ?_
              refine g_iload rfl rfl ?_
              refine g_callVI [aI ((Rq : Int)), aI ((p169 : Int))] [aO (some o), aO (some o), aO (some o)] rfl rfl rfl rfl (Nat.le_of_ble_eq_true rfl) ms.1 (r_mul (by omega) ms V193 (by have := G_194.2.2.1; omega) (g193.rb (g189.rb (g187.rb (g185.rb (g183.rb (g181.rb (g179.rb (g177.rb (g175.rb (g173.rb (g171.rb (g169.rb (g167.rb (g165.rb xRq)))))))))))))) (g193.rb (g189.rb (g187.rb (g185.rb (g183.rb (g181.rb (g179.rb (g177.rb (g175.rb (g173.rb (g171.rb xp169))))))))))) (by omega)) ?_
              rintro _ _ ⟨p263, rfl, V263, rfl, g263, xp263⟩
              have G_264 := G_194.trans (g263.gs _)
              refine g_aload_n rfl rfl ?_
              refine g_iload rfl rfl ?_
              refine g_aload_n rfl rfl ?_
              refine g_iconst rfl ?_
              refine g_iald (i := 0) rfl (ms.slot hL) (by omega) (by omega) ?_
              refine g_top (v2 := aI ((Lp : Int))) (congrArg aI (by exact (g263.sa hL (g193.sa hL (g189.sa hL (g187.sa hL (g185.sa hL (g183.sa hL (g181.sa hL (g179.sa hL (g177.sa hL (g175.sa hL (g173.sa hL (g171.sa hL (g169.sa hL (g167.sa hL (g165.sa hL sL))))))))))))))).1)) ?_
              refine g_callVI [aI ((p181 : Int)), aI ((Lp : Int))] [aI ((p263 : Int)), aO (some o), aO (some o), aO (some o)] rfl rfl rfl rfl (Nat.le_of_ble_eq_true rfl) ms.1 (r_mul (by omega) ms V263 (by have := G_264.2.2.1; omega) (g263.rb (g193.rb (g189.rb (g187.rb (g185.rb (g183.rb xp181)))))) (g263.rb (g193.rb (g189.rb (g187.rb (g185.rb (g183.rb (g181.rb (g179.rb (g177.rb (g175.rb (g173.rb (g171.rb (g169.rb (g167.rb (g165.rb xLp))))))))))))))) (by omega)) ?_
              rintro _ _ ⟨p265, rfl, V265, rfl, g265, xp265⟩
              have G_266 := G_264.trans (g265.gs _)
              refine g_callVI [aI ((p263 : Int)), aI ((p265 : Int))] [aO (some o), aO (some o)] rfl rfl rfl rfl (Nat.le_of_ble_eq_true rfl) ms.1 (r_add (by omega) ms V265 (by have := G_266.2.2.1; omega) (g265.rb xp263) xp265 (2 * k + 23) (by omega) (by omega) (by omega)) ?_
              rintro _ _ ⟨p267, rfl, V267, rfl, g267, xp267⟩
              have G_268 := G_266.trans (g267.gs _)
              refine g_callVI [aI ((p267 : Int))] [aO (some o)] rfl rfl rfl rfl (Nat.le_of_ble_eq_true rfl) ms.1 (r_neg (by omega) ms V267 (by have := G_268.2.2.1; omega) xp267 (by omega)) ?_
              rintro _ _ ⟨p269, rfl, V269, rfl, g269, xp269⟩
              have G_270 := G_268.trans (g269.gs _)
              refine g_aload_n rfl rfl ?_
              refine g_iload rfl rfl ?_
              refine g_aload_n rfl rfl ?_
              refine g_iconst rfl ?_
              refine g_iald (i := 1) rfl (ms.slot hL) (by omega) (by omega) ?_
              refine g_top (v2 := aI ((Lq : Int))) (congrArg aI (by exact (g269.sa hL (g267.sa hL (g265.sa hL (g263.sa hL (g193.sa hL (g189.sa hL (g187.sa hL (g185.sa hL (g183.sa hL (g181.sa hL (g179.sa hL (g177.sa hL (g175.sa hL (g173.sa hL (g171.sa hL (g169.sa hL (g167.sa hL (g165.sa hL sL)))))))))))))))))).2.1)) ?_
              refine g_callVI [aI ((p193 : Int)), aI ((Lq : Int))] [aI ((p269 : Int)), aO (some o)] rfl rfl rfl rfl (Nat.le_of_ble_eq_true rfl) ms.1 (r_mul (by omega) ms V269 (by have := G_270.2.2.1; omega) (g269.rb (g267.rb (g265.rb (g263.rb xp193)))) (g269.rb (g267.rb (g265.rb (g263.rb (g193.rb (g189.rb (g187.rb (g185.rb (g183.rb (g181.rb (g179.rb (g177.rb (g175.rb (g173.rb (g171.rb (g169.rb (g167.rb (g165.rb xLq)))))))))))))))))) (by omega)) ?_
              rintro _ _ ⟨p271, rfl, V271, rfl, g271, xp271⟩
              have G_272 := G_270.trans (g271.gs _)
              refine g_callVI [aI ((p269 : Int)), aI ((p271 : Int))] [] rfl rfl rfl rfl (Nat.le_of_ble_eq_true rfl) ms.1 (r_add (by omega) ms V271 (by have := G_272.2.2.1; omega) (g271.rb xp269) xp271 (2 * k + 166) (by omega) (by omega) (by omega)) ?_
              rintro _ _ ⟨p273, rfl, V273, rfl, g273, xp273⟩
              have G_274 := G_272.trans (g273.gs _)
              refine g_istore (l1 := [(11, aI ((p273 : Int))), (10, aI ((p193 : Int))), (9, aI 1), (8, aI ((p193 : Int))), (7, aI ((p189 : Int))), (6, aI ((p181 : Int))), (5, aI ((p169 : Int))), (0, aO (some o)), (1, aO (some aL)), (2, aO (some aR)), (3, aI 0), (4, aO (some aU))]) rfl rfl ?_
              refine g_aload_n rfl rfl ?_
              refine g_aload_n rfl rfl ?_
              refine g_aload_n rfl rfl ?_
              refine g_aload_n rfl rfl ?_
              refine g_aload_n rfl rfl ?_
              refine g_iconst rfl ?_
              refine g_iald (i := 2) rfl (ms.slot hR) (by omega) (by omega) ?_
              refine g_top (v2 := aI ((Rr : Int))) (congrArg aI (by exact (g273.sa hR (g271.sa hR (g269.sa hR (g267.sa hR (g265.sa hR (g263.sa hR (g193.sa hR (g189.sa hR (g187.sa hR (g185.sa hR (g183.sa hR (g181.sa hR (g179.sa hR (g177.sa hR (g175.sa hR (g173.sa hR (g171.sa hR (g169.sa hR (g167.sa hR (g165.sa hR sR)))))))))))))))))))).2.2.1)) ?_
              refine g_iload rfl rfl ?_
              refine g_callVI [aI ((Rr : Int)), aI ((p169 : Int))] [aO (some o), aO (some o), aO (some o)] rfl rfl rfl rfl (Nat.le_of_ble_eq_true rfl) ms.1 (r_mul (by omega) ms V273 (by have := G_274.2.2.1; omega) (g273.rb (g271.rb (g269.rb (g267.rb (g265.rb (g263.rb (g193.rb (g189.rb (g187.rb (g185.rb (g183.rb (g181.rb (g179.rb (g177.rb (g175.rb (g173.rb (g171.rb (g169.rb (g167.rb (g165.rb xRr)))))))))))))))))))) (g273.rb (g271.rb (g269.rb (g267.rb (g265.rb (g263.rb (g193.rb (g189.rb (g187.rb (g185.rb (g183.rb (g181.rb (g179.rb (g177.rb (g175.rb (g173.rb (g171.rb xp169))))))))))))))))) (by omega)) ?_
              rintro _ _ ⟨p275, rfl, V275, rfl, g275, xp275⟩
              have G_276 := G_274.trans (g275.gs _)
              refine g_aload_n rfl rfl ?_
              refine g_iload rfl rfl ?_
              refine g_aload_n rfl rfl ?_
              refine g_iconst rfl ?_
              refine g_iald (i := 1) rfl (ms.slot hL) (by omega) (by omega) ?_
              refine g_top (v2 := aI ((Lq : Int))) (congrArg aI (by exact (g275.sa hL (g273.sa hL (g271.sa hL (g269.sa hL (g267.sa hL (g265.sa hL (g263.sa hL (g193.sa hL (g189.sa hL (g187.sa hL (g185.sa hL (g183.sa hL (g181.sa hL (g179.sa hL (g177.sa hL (g175.sa hL (g173.sa hL (g171.sa hL (g169.sa hL (g167.sa hL (g165.sa hL sL))))))))))))))))))))).2.1)) ?_
              refine g_callVI [aI ((p181 : Int)), aI ((Lq : Int))] [aI ((p275 : Int)), aO (some o), aO (some o), aO (some o)] rfl rfl rfl rfl (Nat.le_of_ble_eq_true rfl) ms.1 (r_mul (by omega) ms V275 (by have := G_276.2.2.1; omega) (g275.rb (g273.rb (g271.rb (g269.rb (g267.rb (g265.rb (g263.rb (g193.rb (g189.rb (g187.rb (g185.rb (g183.rb xp181)))))))))))) (g275.rb (g273.rb (g271.rb (g269.rb (g267.rb (g265.rb (g263.rb (g193.rb (g189.rb (g187.rb (g185.rb (g183.rb (g181.rb (g179.rb (g177.rb (g175.rb (g173.rb (g171.rb (g169.rb (g167.rb (g165.rb xLq))))))))))))))))))))) (by omega)) ?_
              rintro _ _ ⟨p277, rfl, V277, rfl, g277, xp277⟩
              have G_278 := G_276.trans (g277.gs _)
              refine g_callVI [aI ((p275 : Int)), aI ((p277 : Int))] [aO (some o), aO (some o)] rfl rfl rfl rfl (Nat.le_of_ble_eq_true rfl) ms.1 (r_add (by omega) ms V277 (by have := G_278.2.2.1; omega) (g277.rb xp275) xp277 (2 * k + 23) (by omega) (by omega) (by omega)) ?_
              rintro _ _ ⟨p279, rfl, V279, rfl, g279, xp279⟩
              have G_280 := G_278.trans (g279.gs _)
              refine g_callVI [aI ((p279 : Int))] [aO (some o)] rfl rfl rfl rfl (Nat.le_of_ble_eq_true rfl) ms.1 (r_neg (by omega) ms V279 (by have := G_280.2.2.1; omega) xp279 (by omega)) ?_
              rintro _ _ ⟨p281, rfl, V281, rfl, g281, xp281⟩
              have G_282 := G_280.trans (g281.gs _)
              refine g_aload_n rfl rfl ?_
              refine g_iload rfl rfl ?_
              refine g_aload_n rfl rfl ?_
              refine g_iconst rfl ?_
              refine g_iald (i := 0) rfl (ms.slot hL) (by omega) (by omega) ?_
              refine g_top (v2 := aI ((Lp : Int))) (congrArg aI (by exact (g281.sa hL (g279.sa hL (g277.sa hL (g275.sa hL (g273.sa hL (g271.sa hL (g269.sa hL (g267.sa hL (g265.sa hL (g263.sa hL (g193.sa hL (g189.sa hL (g187.sa hL (g185.sa hL (g183.sa hL (g181.sa hL (g179.sa hL (g177.sa hL (g175.sa hL (g173.sa hL (g171.sa hL (g169.sa hL (g167.sa hL (g165.sa hL sL)))))))))))))))))))))))).1)) ?_
              refine g_callVI [aI ((p193 : Int)), aI ((Lp : Int))] [aI ((p281 : Int)), aO (some o)] rfl rfl rfl rfl (Nat.le_of_ble_eq_true rfl) ms.1 (r_mul (by omega) ms V281 (by have := G_282.2.2.1; omega) (g281.rb (g279.rb (g277.rb (g275.rb (g273.rb (g271.rb (g269.rb (g267.rb (g265.rb (g263.rb xp193)))))))))) (g281.rb (g279.rb (g277.rb (g275.rb (g273.rb (g271.rb (g269.rb (g267.rb (g265.rb (g263.rb (g193.rb (g189.rb (g187.rb (g185.rb (g183.rb (g181.rb (g179.rb (g177.rb (g175.rb (g173.rb (g171.rb (g169.rb (g167.rb (g165.rb xLp)))))))))))))))))))))))) (by omega)) ?_
              rintro _ _ ⟨p283, rfl, V283, rfl, g283, xp283⟩
              have G_284 := G_282.trans (g283.gs _)
              refine g_callVI [aI ((p281 : Int)), aI ((p283 : Int))] [] rfl rfl rfl rfl (Nat.le_of_ble_eq_true rfl) ms.1 (r_sub (by omega) ms V283 (by have := G_284.2.2.1; omega) (g283.rb xp281) xp283 (2 * k + 166) (by omega) (by omega) (by omega)) ?_
              rintro _ _ ⟨p285, rfl, V285, rfl, g285, xp285⟩
              have G_286 := G_284.trans (g285.gs _)
              refine g_istore (l1 := [(12, aI ((p285 : Int))), (11, aI ((p273 : Int))), (10, aI ((p193 : Int))), (9, aI 1), (8, aI ((p193 : Int))), (7, aI ((p189 : Int))), (6, aI ((p181 : Int))), (5, aI ((p169 : Int))), (0, aO (some o)), (1, aO (some aL)), (2, aO (some aR)), (3, aI 0), (4, aO (some aU))]) rfl rfl ?_
              refine g_aload_n rfl rfl ?_
              refine g_aload rfl rfl ?_
              refine g_iload rfl rfl ?_
              refine g_iload rfl rfl ?_
              refine g_aload_n rfl rfl ?_
              refine g_aload_n rfl rfl ?_
              refine g_ldc2 rfl ?_
              refine g_callVI [aJ 2] [aO (some o), aI ((p285 : Int)), aI ((p273 : Int)), aO (some aU), aO (some o)] rfl rfl rfl rfl (Nat.le_of_ble_eq_true rfl) ms.1 (r_num (by omega) ms V285 (by have := G_286.2.2.1; omega) 2 (by omega) 1 (by decide)) ?_
              rintro _ _ ⟨p287, rfl, V287, rfl, g287, xp287⟩
              have G_288 := G_286.trans (g287.gs _)
              refine g_aload_n rfl rfl ?_
              refine g_iconst rfl ?_
              refine g_iald (i := 0) rfl (ms.slot hR) (by omega) (by omega) ?_
              refine g_top (v2 := aI ((Rp : Int))) (congrArg aI (by exact (g287.sa hR (g285.sa hR (g283.sa hR (g281.sa hR (g279.sa hR (g277.sa hR (g275.sa hR (g273.sa hR (g271.sa hR (g269.sa hR (g267.sa hR (g265.sa hR (g263.sa hR (g193.sa hR (g189.sa hR (g187.sa hR (g185.sa hR (g183.sa hR (g181.sa hR (g179.sa hR (g177.sa hR (g175.sa hR (g173.sa hR (g171.sa hR (g169.sa hR (g167.sa hR (g165.sa hR sR))))))))))))))))))))))))))).1)) ?_
              refine g_iload rfl rfl ?_
              refine g_callVI [aI ((p287 : Int)), aI ((Rp : Int)), aI ((p169 : Int))] [aI ((p285 : Int)), aI ((p273 : Int)), aO (some aU), aO (some o)] rfl rfl rfl rfl (Nat.le_of_ble_eq_true rfl) ms.1 (r_mul3 (by omega) ms V287 (by have := G_288.2.2.1; omega) xp287 (g287.rb (g285.rb (g283.rb (g281.rb (g279.rb (g277.rb (g275.rb (g273.rb (g271.rb (g269.rb (g267.rb (g265.rb (g263.rb (g193.rb (g189.rb (g187.rb (g185.rb (g183.rb (g181.rb (g179.rb (g177.rb (g175.rb (g173.rb (g171.rb (g169.rb (g167.rb (g165.rb xRp))))))))))))))))))))))))))) (g287.rb (g285.rb (g283.rb (g281.rb (g279.rb (g277.rb (g275.rb (g273.rb (g271.rb (g269.rb (g267.rb (g265.rb (g263.rb (g193.rb (g189.rb (g187.rb (g185.rb (g183.rb (g181.rb (g179.rb (g177.rb (g175.rb (g173.rb (g171.rb xp169)))))))))))))))))))))))) (by omega)) ?_
              rintro _ _ ⟨p289, rfl, V289, rfl, g289, xp289⟩
              have G_290 := G_288.trans (g289.gs _)
              refine g_callVN [aO (some aU), aI ((p273 : Int)), aI ((p285 : Int)), aI ((p289 : Int))] [] rfl rfl rfl rfl (Nat.le_of_ble_eq_true rfl) ms.1 (m_put (by omega) ms V289 (by have := G_290.2.2.1; omega) aU hU p273 p285 p289) ?_
              rintro _ ⟨V291, rfl, p291, g291, s291, xp291⟩
              have G_292 := G_290.trans (g291.wide (fun q hq => by have hq : q = aU := hq; show q = aU; omega))
              refine g_iconst rfl ?_
              refine g_zret rfl (by omega) ?_
              refine ⟨V291, rfl, G_292.mono (by omega), ?_⟩
              have l0 := @lcmp_0 (L.1) 0
              have m0 := @lcmp_lt (L.1) 0
              have n0 := @lcmp_gt (0) (L.1)
              have n0q := @lcmp_gt (L.1) 0
              have l1 := @lcmp_0 (L.2.1) 0
              have m1 := @lcmp_lt (L.2.1) 0
              have n1 := @lcmp_gt (0) (L.2.1)
              have n1q := @lcmp_gt (L.2.1) 0
              rw [m_meet_t (by omega) eS193 (by rw [m_fwd0]; omega)]
              exact ⟨rfl, _, _, _, _, s291, ((g291.rb (g289.rb (g287.rb (g285.rb (g283.rb (g281.rb (g279.rb (g277.rb (g275.rb xp273))))))))).up (by omega)), ((g291.rb (g289.rb (g287.rb xp285))).up (by omega)), ((g291.rb xp289).up (by omega)), (xp291.up (by omega))⟩
            · skip
              refine g_iconst rfl ?_
              refine g_goto rfl ?_
              refine g_iload_n rfl rfl ?_
              refine g_icmp_ne_t rfl (by omega) ?_
              refine g_iconst rfl ?_
              refine g_goto rfl ?_
              refine g_istore (l1 := [(9, aI 0), (8, aI ((p193 : Int))), (7, aI ((p189 : Int))), (6, aI ((p181 : Int))), (5, aI ((p169 : Int))), (0, aO (some o)), (1, aO (some aL)), (2, aO (some aR)), (3, aI 0), (4, aO (some aU))]) rfl rfl ?_
              refine g_iload rfl rfl ?_
              refine g_if_eq_t rfl (by omega) ?_
              refine g_aload_n rfl rfl ?_
              refine g_iload rfl rfl ?_
              refine g_callVI [aI ((p193 : Int))] [] rfl rfl rfl rfl (Nat.le_of_ble_eq_true rfl) ms.1 (r_neg (by omega) ms V193 (by have := G_194.2.2.1; omega) xp193 (by omega)) ?_
              rintro _ _ ⟨p293, rfl, V293, rfl, g293, xp293⟩
              have G_294 := G_194.trans (g293.gs _)
              refine g_istore (l1 := [(10, aI ((p293 : Int))), (9, aI 0), (8, aI ((p193 : Int))), (7, aI ((p189 : Int))), (6, aI ((p181 : Int))), (5, aI ((p169 : Int))), (0, aO (some o)), (1, aO (some aL)), (2, aO (some aR)), (3, aI 0), (4, aO (some aU))]) rfl rfl ?_
              refine g_aload_n rfl rfl ?_
              refine g_aload_n rfl rfl ?_
              refine g_aload_n rfl rfl ?_
              refine g_aload_n rfl rfl ?_
              refine g_aload_n rfl rfl ?_
              refine g_iconst rfl ?_
              refine g_iald (i := 1) rfl (ms.slot hR) (by omega) (by omega) ?_
              refine g_top (v2 := aI ((Rq : Int))) (congrArg aI (by exact (g293.sa hR (g193.sa hR (g189.sa hR (g187.sa hR (g185.sa hR (g183.sa hR (g181.sa hR (g179.sa hR (g177.sa hR (g175.sa hR (g173.sa hR (g171.sa hR (g169.sa hR (g167.sa hR (g165.sa hR sR))))))))))))))).2.1)) ?_
              refine g_iload rfl rfl ?_
              refine g_callVI [aI ((Rq : Int)), aI ((p169 : Int))] [aO (some o), aO (some o), aO (some o)] rfl rfl rfl rfl (Nat.le_of_ble_eq_true rfl) ms.1 (r_mul (by omega) ms V293 (by have := G_294.2.2.1; omega) (g293.rb (g193.rb (g189.rb (g187.rb (g185.rb (g183.rb (g181.rb (g179.rb (g177.rb (g175.rb (g173.rb (g171.rb (g169.rb (g167.rb (g165.rb xRq))))))))))))))) (g293.rb (g193.rb (g189.rb (g187.rb (g185.rb (g183.rb (g181.rb (g179.rb (g177.rb (g175.rb (g173.rb (g171.rb xp169)))))))))))) (by omega)) ?_
              rintro _ _ ⟨p295, rfl, V295, rfl, g295, xp295⟩
              have G_296 := G_294.trans (g295.gs _)
              refine g_aload_n rfl rfl ?_
              refine g_iload rfl rfl ?_
              refine g_aload_n rfl rfl ?_
              refine g_iconst rfl ?_
              refine g_iald (i := 0) rfl (ms.slot hL) (by omega) (by omega) ?_
              refine g_top (v2 := aI ((Lp : Int))) (congrArg aI (by exact (g295.sa hL (g293.sa hL (g193.sa hL (g189.sa hL (g187.sa hL (g185.sa hL (g183.sa hL (g181.sa hL (g179.sa hL (g177.sa hL (g175.sa hL (g173.sa hL (g171.sa hL (g169.sa hL (g167.sa hL (g165.sa hL sL)))))))))))))))).1)) ?_
              refine g_callVI [aI ((p181 : Int)), aI ((Lp : Int))] [aI ((p295 : Int)), aO (some o), aO (some o), aO (some o)] rfl rfl rfl rfl (Nat.le_of_ble_eq_true rfl) ms.1 (r_mul (by omega) ms V295 (by have := G_296.2.2.1; omega) (g295.rb (g293.rb (g193.rb (g189.rb (g187.rb (g185.rb (g183.rb xp181))))))) (g295.rb (g293.rb (g193.rb (g189.rb (g187.rb (g185.rb (g183.rb (g181.rb (g179.rb (g177.rb (g175.rb (g173.rb (g171.rb (g169.rb (g167.rb (g165.rb xLp)))))))))))))))) (by omega)) ?_
              rintro _ _ ⟨p297, rfl, V297, rfl, g297, xp297⟩
              have G_298 := G_296.trans (g297.gs _)
              refine g_callVI [aI ((p295 : Int)), aI ((p297 : Int))] [aO (some o), aO (some o)] rfl rfl rfl rfl (Nat.le_of_ble_eq_true rfl) ms.1 (r_add (by omega) ms V297 (by have := G_298.2.2.1; omega) (g297.rb xp295) xp297 (2 * k + 23) (by omega) (by omega) (by omega)) ?_
              rintro _ _ ⟨p299, rfl, V299, rfl, g299, xp299⟩
              have G_300 := G_298.trans (g299.gs _)
              refine g_callVI [aI ((p299 : Int))] [aO (some o)] rfl rfl rfl rfl (Nat.le_of_ble_eq_true rfl) ms.1 (r_neg (by omega) ms V299 (by have := G_300.2.2.1; omega) xp299 (by omega)) ?_
              rintro _ _ ⟨p301, rfl, V301, rfl, g301, xp301⟩
              have G_302 := G_300.trans (g301.gs _)
              refine g_aload_n rfl rfl ?_
              refine g_iload rfl rfl ?_
              refine g_aload_n rfl rfl ?_
              refine g_iconst rfl ?_
              refine g_iald (i := 1) rfl (ms.slot hL) (by omega) (by omega) ?_
              refine g_top (v2 := aI ((Lq : Int))) (congrArg aI (by exact (g301.sa hL (g299.sa hL (g297.sa hL (g295.sa hL (g293.sa hL (g193.sa hL (g189.sa hL (g187.sa hL (g185.sa hL (g183.sa hL (g181.sa hL (g179.sa hL (g177.sa hL (g175.sa hL (g173.sa hL (g171.sa hL (g169.sa hL (g167.sa hL (g165.sa hL sL))))))))))))))))))).2.1)) ?_
              refine g_callVI [aI ((p293 : Int)), aI ((Lq : Int))] [aI ((p301 : Int)), aO (some o)] rfl rfl rfl rfl (Nat.le_of_ble_eq_true rfl) ms.1 (r_mul (by omega) ms V301 (by have := G_302.2.2.1; omega) (g301.rb (g299.rb (g297.rb (g295.rb xp293)))) (g301.rb (g299.rb (g297.rb (g295.rb (g293.rb (g193.rb (g189.rb (g187.rb (g185.rb (g183.rb (g181.rb (g179.rb (g177.rb (g175.rb (g173.rb (g171.rb (g169.rb (g167.rb (g165.rb xLq))))))))))))))))))) (by omega)) ?_
              rintro _ _ ⟨p303, rfl, V303, rfl, g303, xp303⟩
              have G_304 := G_302.trans (g303.gs _)
              refine g_callVI [aI ((p301 : Int)), aI ((p303 : Int))] [] rfl rfl rfl rfl (Nat.le_of_ble_eq_true rfl) ms.1 (r_add (by omega) ms V303 (by have := G_304.2.2.1; omega) (g303.rb xp301) xp303 (2 * k + 166) (by omega) (by omega) (by omega)) ?_
              rintro _ _ ⟨p305, rfl, V305, rfl, g305, xp305⟩
              have G_306 := G_304.trans (g305.gs _)
              refine g_istore (l1 := [(11, aI ((p305 : Int))), (10, aI ((p293 : Int))), (9, aI 0), (8, aI ((p193 : Int))), (7, aI ((p189 : Int))), (6, aI ((p181 : Int))), (5, aI ((p169 : Int))), (0, aO (some o)), (1, aO (some aL)), (2, aO (some aR)), (3, aI 0), (4, aO (some aU))]) rfl rfl ?_
              refine g_aload_n rfl rfl ?_
              refine g_aload_n rfl rfl ?_
              refine g_aload_n rfl rfl ?_
              refine g_aload_n rfl rfl ?_
              refine g_aload_n rfl rfl ?_
              refine g_iconst rfl ?_
              refine g_iald (i := 2) rfl (ms.slot hR) (by omega) (by omega) ?_
              refine g_top (v2 := aI ((Rr : Int))) (congrArg aI (by exact (g305.sa hR (g303.sa hR (g301.sa hR (g299.sa hR (g297.sa hR (g295.sa hR (g293.sa hR (g193.sa hR (g189.sa hR (g187.sa hR (g185.sa hR (g183.sa hR (g181.sa hR (g179.sa hR (g177.sa hR (g175.sa hR (g173.sa hR (g171.sa hR (g169.sa hR (g167.sa hR (g165.sa hR sR))))))))))))))))))))).2.2.1)) ?_
              refine g_iload rfl rfl ?_
              refine g_callVI [aI ((Rr : Int)), aI ((p169 : Int))] [aO (some o), aO (some o), aO (some o)] rfl rfl rfl rfl (Nat.le_of_ble_eq_true rfl) ms.1 (r_mul (by omega) ms V305 (by have := G_306.2.2.1; omega) (g305.rb (g303.rb (g301.rb (g299.rb (g297.rb (g295.rb (g293.rb (g193.rb (g189.rb (g187.rb (g185.rb (g183.rb (g181.rb (g179.rb (g177.rb (g175.rb (g173.rb (g171.rb (g169.rb (g167.rb (g165.rb xRr))))))))))))))))))))) (g305.rb (g303.rb (g301.rb (g299.rb (g297.rb (g295.rb (g293.rb (g193.rb (g189.rb (g187.rb (g185.rb (g183.rb (g181.rb (g179.rb (g177.rb (g175.rb (g173.rb (g171.rb xp169)))))))))))))))))) (by omega)) ?_
              rintro _ _ ⟨p307, rfl, V307, rfl, g307, xp307⟩
              have G_308 := G_306.trans (g307.gs _)
              refine g_aload_n rfl rfl ?_
              refine g_iload rfl rfl ?_
              refine g_aload_n rfl rfl ?_
              refine g_iconst rfl ?_
              refine g_iald (i := 1) rfl (ms.slot hL) (by omega) (by omega) ?_
              refine g_top (v2 := aI ((Lq : Int))) (congrArg aI (by exact (g307.sa hL (g305.sa hL (g303.sa hL (g301.sa hL (g299.sa hL (g297.sa hL (g295.sa hL (g293.sa hL (g193.sa hL (g189.sa hL (g187.sa hL (g185.sa hL (g183.sa hL (g181.sa hL (g179.sa hL (g177.sa hL (g175.sa hL (g173.sa hL (g171.sa hL (g169.sa hL (g167.sa hL (g165.sa hL sL)))))))))))))))))))))).2.1)) ?_
              refine g_callVI [aI ((p181 : Int)), aI ((Lq : Int))] [aI ((p307 : Int)), aO (some o), aO (some o), aO (some o)] rfl rfl rfl rfl (Nat.le_of_ble_eq_true rfl) ms.1 (r_mul (by omega) ms V307 (by have := G_308.2.2.1; omega) (g307.rb (g305.rb (g303.rb (g301.rb (g299.rb (g297.rb (g295.rb (g293.rb (g193.rb (g189.rb (g187.rb (g185.rb (g183.rb xp181))))))))))))) (g307.rb (g305.rb (g303.rb (g301.rb (g299.rb (g297.rb (g295.rb (g293.rb (g193.rb (g189.rb (g187.rb (g185.rb (g183.rb (g181.rb (g179.rb (g177.rb (g175.rb (g173.rb (g171.rb (g169.rb (g167.rb (g165.rb xLq)))))))))))))))))))))) (by omega)) ?_
              rintro _ _ ⟨p309, rfl, V309, rfl, g309, xp309⟩
              have G_310 := G_308.trans (g309.gs _)
              refine g_callVI [aI ((p307 : Int)), aI ((p309 : Int))] [aO (some o), aO (some o)] rfl rfl rfl rfl (Nat.le_of_ble_eq_true rfl) ms.1 (r_add (by omega) ms V309 (by have := G_310.2.2.1; omega) (g309.rb xp307) xp309 (2 * k + 23) (by omega) (by omega) (by omega)) ?_
              rintro _ _ ⟨p311, rfl, V311, rfl, g311, xp311⟩
              have G_312 := G_310.trans (g311.gs _)
              refine g_callVI [aI ((p311 : Int))] [aO (some o)] rfl rfl rfl rfl (Nat.le_of_ble_eq_true rfl) ms.1 (r_neg (by omega) ms V311 (by have := G_312.2.2.1; omega) xp311 (by omega)) ?_
              rintro _ _ ⟨p313, rfl, V313, rfl, g313, xp313⟩
              have G_314 := G_312.trans (g313.gs _)
              refine g_aload_n rfl rfl ?_
              refine g_iload rfl rfl ?_
              refine g_aload_n rfl rfl ?_
              refine g_iconst rfl ?_
              refine g_iald (i := 0) rfl (ms.slot hL) (by omega) (by omega) ?_
              refine g_top (v2 := aI ((Lp : Int))) (congrArg aI (by exact (g313.sa hL (g311.sa hL (g309.sa hL (g307.sa hL (g305.sa hL (g303.sa hL (g301.sa hL (g299.sa hL (g297.sa hL (g295.sa hL (g293.sa hL (g193.sa hL (g189.sa hL (g187.sa hL (g185.sa hL (g183.sa hL (g181.sa hL (g179.sa hL (g177.sa hL (g175.sa hL (g173.sa hL (g171.sa hL (g169.sa hL (g167.sa hL (g165.sa hL sL))))))))))))))))))))))))).1)) ?_
              refine g_callVI [aI ((p293 : Int)), aI ((Lp : Int))] [aI ((p313 : Int)), aO (some o)] rfl rfl rfl rfl (Nat.le_of_ble_eq_true rfl) ms.1 (r_mul (by omega) ms V313 (by have := G_314.2.2.1; omega) (g313.rb (g311.rb (g309.rb (g307.rb (g305.rb (g303.rb (g301.rb (g299.rb (g297.rb (g295.rb xp293)))))))))) (g313.rb (g311.rb (g309.rb (g307.rb (g305.rb (g303.rb (g301.rb (g299.rb (g297.rb (g295.rb (g293.rb (g193.rb (g189.rb (g187.rb (g185.rb (g183.rb (g181.rb (g179.rb (g177.rb (g175.rb (g173.rb (g171.rb (g169.rb (g167.rb (g165.rb xLp))))))))))))))))))))))))) (by omega)) ?_
              rintro _ _ ⟨p315, rfl, V315, rfl, g315, xp315⟩
              have G_316 := G_314.trans (g315.gs _)
              refine g_callVI [aI ((p313 : Int)), aI ((p315 : Int))] [] rfl rfl rfl rfl (Nat.le_of_ble_eq_true rfl) ms.1 (r_sub (by omega) ms V315 (by have := G_316.2.2.1; omega) (g315.rb xp313) xp315 (2 * k + 166) (by omega) (by omega) (by omega)) ?_
              rintro _ _ ⟨p317, rfl, V317, rfl, g317, xp317⟩
              have G_318 := G_316.trans (g317.gs _)
              refine g_istore (l1 := [(12, aI ((p317 : Int))), (11, aI ((p305 : Int))), (10, aI ((p293 : Int))), (9, aI 0), (8, aI ((p193 : Int))), (7, aI ((p189 : Int))), (6, aI ((p181 : Int))), (5, aI ((p169 : Int))), (0, aO (some o)), (1, aO (some aL)), (2, aO (some aR)), (3, aI 0), (4, aO (some aU))]) rfl rfl ?_
              refine g_aload_n rfl rfl ?_
              refine g_aload rfl rfl ?_
              refine g_iload rfl rfl ?_
              refine g_iload rfl rfl ?_
              refine g_aload_n rfl rfl ?_
              refine g_aload_n rfl rfl ?_
              refine g_ldc2 rfl ?_
              refine g_callVI [aJ 2] [aO (some o), aI ((p317 : Int)), aI ((p305 : Int)), aO (some aU), aO (some o)] rfl rfl rfl rfl (Nat.le_of_ble_eq_true rfl) ms.1 (r_num (by omega) ms V317 (by have := G_318.2.2.1; omega) 2 (by omega) 1 (by decide)) ?_
              rintro _ _ ⟨p319, rfl, V319, rfl, g319, xp319⟩
              have G_320 := G_318.trans (g319.gs _)
              refine g_aload_n rfl rfl ?_
              refine g_iconst rfl ?_
              refine g_iald (i := 0) rfl (ms.slot hR) (by omega) (by omega) ?_
              refine g_top (v2 := aI ((Rp : Int))) (congrArg aI (by exact (g319.sa hR (g317.sa hR (g315.sa hR (g313.sa hR (g311.sa hR (g309.sa hR (g307.sa hR (g305.sa hR (g303.sa hR (g301.sa hR (g299.sa hR (g297.sa hR (g295.sa hR (g293.sa hR (g193.sa hR (g189.sa hR (g187.sa hR (g185.sa hR (g183.sa hR (g181.sa hR (g179.sa hR (g177.sa hR (g175.sa hR (g173.sa hR (g171.sa hR (g169.sa hR (g167.sa hR (g165.sa hR sR)))))))))))))))))))))))))))).1)) ?_
              refine g_iload rfl rfl ?_
              refine g_callVI [aI ((p319 : Int)), aI ((Rp : Int)), aI ((p169 : Int))] [aI ((p317 : Int)), aI ((p305 : Int)), aO (some aU), aO (some o)] rfl rfl rfl rfl (Nat.le_of_ble_eq_true rfl) ms.1 (r_mul3 (by omega) ms V319 (by have := G_320.2.2.1; omega) xp319 (g319.rb (g317.rb (g315.rb (g313.rb (g311.rb (g309.rb (g307.rb (g305.rb (g303.rb (g301.rb (g299.rb (g297.rb (g295.rb (g293.rb (g193.rb (g189.rb (g187.rb (g185.rb (g183.rb (g181.rb (g179.rb (g177.rb (g175.rb (g173.rb (g171.rb (g169.rb (g167.rb (g165.rb xRp)))))))))))))))))))))))))))) (g319.rb (g317.rb (g315.rb (g313.rb (g311.rb (g309.rb (g307.rb (g305.rb (g303.rb (g301.rb (g299.rb (g297.rb (g295.rb (g293.rb (g193.rb (g189.rb (g187.rb (g185.rb (g183.rb (g181.rb (g179.rb (g177.rb (g175.rb (g173.rb (g171.rb xp169))))))))))))))))))))))))) (by omega)) ?_
              rintro _ _ ⟨p321, rfl, V321, rfl, g321, xp321⟩
              have G_322 := G_320.trans (g321.gs _)
              refine g_callVN [aO (some aU), aI ((p305 : Int)), aI ((p317 : Int)), aI ((p321 : Int))] [] rfl rfl rfl rfl (Nat.le_of_ble_eq_true rfl) ms.1 (m_put (by omega) ms V321 (by have := G_322.2.2.1; omega) aU hU p305 p317 p321) ?_
              rintro _ ⟨V323, rfl, p323, g323, s323, xp323⟩
              have G_324 := G_322.trans (g323.wide (fun q hq => by have hq : q = aU := hq; show q = aU; omega))
              refine g_iconst rfl ?_
              refine g_zret rfl (by omega) ?_
              refine ⟨V323, rfl, G_324.mono (by omega), ?_⟩
              have l0 := @lcmp_0 (L.1) 0
              have m0 := @lcmp_lt (L.1) 0
              have n0 := @lcmp_gt (0) (L.1)
              have n0q := @lcmp_gt (L.1) 0
              have l1 := @lcmp_0 (L.2.1) 0
              have m1 := @lcmp_lt (L.2.1) 0
              have n1 := @lcmp_gt (0) (L.2.1)
              have n1q := @lcmp_gt (L.2.1) 0
              rw [m_meet_f (by omega) eS193 (by rw [m_fwd0]; omega)]
              exact ⟨rfl, _, _, _, _, s323, ((g323.rb (g321.rb (g319.rb (g317.rb (g315.rb (g313.rb (g311.rb (g309.rb (g307.rb xp305))))))))).up (by omega)), ((g323.rb (g321.rb (g319.rb xp317))).up (by omega)), ((g323.rb xp321).up (by omega)), (xp323.up (by omega))⟩
      · skip
        refine g_iconst rfl ?_
        refine g_zret rfl (by omega) ?_
        refine ⟨V189, rfl, G_190.mono (by omega), ?_⟩
        have l0 := @lcmp_0 (L.1) 0
        have m0 := @lcmp_lt (L.1) 0
        have n0 := @lcmp_gt (0) (L.1)
        have n0q := @lcmp_gt (L.1) 0
        have l1 := @lcmp_0 (L.2.1) 0
        have m1 := @lcmp_lt (L.2.1) 0
        have n1 := @lcmp_gt (0) (L.2.1)
        have n1q := @lcmp_gt (L.2.1) 0
        first
          | (rw [m_meet_no (by omega)]; rfl)
          | (rw [m_meet_no2 (by omega) (rootO_neg (lcmp_lt.mp c118))]; rfl)
          | (rw [m_meet_no2 (by omega) ]; rfl)
    · skip
      refine g_iconst rfl ?_
      refine g_zret rfl (by omega) ?_
      refine ⟨V, rfl, G0.mono (by omega), ?_⟩
      have l0 := @lcmp_0 (L.1) 0
      have m0 := @lcmp_lt (L.1) 0
      have n0 := @lcmp_gt (0) (L.1)
      have n0q := @lcmp_gt (L.1) 0
      have l1 := @lcmp_0 (L.2.1) 0
      have m1 := @lcmp_lt (L.2.1) 0
      have n1 := @lcmp_gt (0) (L.2.1)
      have n1q := @lcmp_gt (L.2.1) 0
      first
        | (rw [m_meet_no (by omega)]; rfl)
        | (rw [m_meet_no2 (by omega) (rootO_neg (lcmp_lt.mp c118))]; rfl)
        | (rw [m_meet_no2 (by omega) ]; rfl)
