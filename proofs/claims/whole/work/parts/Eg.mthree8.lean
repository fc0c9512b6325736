/-! the reference's face three, kind 8: printed by wip/whole/eg.py -/
def m_t_str_O (S : aS) (a b c : Int) : Option T4 := some (((tpR S a).1 * (tpR S c).2.2.1 * (sNu S b.toNat).2) + ((sNu S b.toNat).1 * (((tpR S c).1 * (tpR S a).2.2.1) - ((tpR S a).1 * (tpR S c).2.2.1))), ((tpR S a).2.1 * (tpR S c).2.2.1 * (sNu S b.toNat).2) + ((sNu S b.toNat).1 * (((tpR S c).2.1 * (tpR S a).2.2.1) - ((tpR S a).2.1 * (tpR S c).2.2.1))), (tpR S a).2.2.1 * (tpR S c).2.2.1 * (sNu S b.toNat).2, 0)
set_option maxRecDepth 100000 in
set_option maxHeartbeats 4000000 in
theorem m_stretched {w : aW} {d : Nat} (hd : 9 ≤ d) {h : aH} {o : Nat} (ms : MS h o) (V : Nat → Nat → Int) {S : aS} (ok : OkT S) (mt : MT V o S) (a c : Int) (hF : 0 ≤ V o 1 ∧ V o 1 + 41 ≤ 700) (b : Int) (tP : SB V o (o + 24) (tpR S a) (20)) (tR : SB V o (o + 26) (tpR S c) (20)) (hy0 : OkN S) (hy1 : MN V o S) (hy2 : 0 ≤ b ∧ b < sN S) : WP w d 318 [aO (some o), aI b] (hw h V) (RI (fun r h1 => ∃ V1, h1 = hw h V1 ∧ KM V V1 o 41 (fun q => q = o + 29) ∧ r = (keepM S 0 (m_t_str_O S a b c)).1 ∧ MT V1 o (keepM S 0 (m_t_str_O S a b c)).2)) := by
  obtain ⟨d, rfl⟩ : ∃ d1, d = d1 + 1 := ⟨d - 1, by omega⟩
  refine WP.enter (cd := cd_X12_stretched) rfl ?_
  have G0 := Gs.refl V o (fun q => q = o + 29)
  obtain ⟨Pp, Pq, Pr, Ps, sP, xPp, xPq, xPr, xPs⟩ := tP
  obtain ⟨Rp, Rq, Rr, Rs, sR, xRp, xRq, xRr, xRs⟩ := tR
  have hn := ok.1
  have hnn := hy0.1
  have qb := hy0.2 b.toNat (by omega)
  unfold NuOk at qb
  have hls : largs 0 [aO (some o), aI b] = [(0, aO (some o)), (1, aI b)] := rfl
  rw [hls]
  clear hls
  refine g_aload_n rfl rfl ?_
  refine g_aload_n rfl rfl ?_
  refine g_getR rfl ms.1 (mr_upper ms) ?_
  refine g_iload_n rfl rfl ?_
  refine g_lald (i := b.toNat) rfl (mt_upper ms) (by omega) (by omega) ?_
  refine g_top (v2 := aJ ((sNu S b.toNat).1)) (congrArg aJ (by exact (hy1.2 b.toNat (by omega)).1)) ?_
  refine g_callVI [aJ ((sNu S b.toNat).1)] [] rfl rfl rfl rfl (Nat.le_of_ble_eq_true rfl) ms.1 (r_num (by omega) ms V (by have := G0.2.2.1; omega) ((sNu S b.toNat).1) (by omega) 30 (by omega)) ?_
  rintro _ _ ⟨p1, rfl, V1, rfl, g1, xp1⟩
  have G_2 := G0.trans (g1.gs _)
  refine g_istore_n (l1 := [(2, aI ((p1 : Int))), (0, aO (some o)), (1, aI b)]) rfl rfl ?_
  refine g_aload_n rfl rfl ?_
  refine g_aload_n rfl rfl ?_
  refine g_getR rfl ms.1 (mr_lower ms) ?_
  refine g_iload_n rfl rfl ?_
  refine g_lald (i := b.toNat) rfl (mt_lower ms) (by omega) (by omega) ?_
  refine g_top (v2 := aJ ((sNu S b.toNat).2)) (congrArg aJ (by exact ((g1.mn hy1).2 b.toNat (by omega)).2)) ?_
  refine g_callVI [aJ ((sNu S b.toNat).2)] [] rfl rfl rfl rfl (Nat.le_of_ble_eq_true rfl) ms.1 (r_num (by omega) ms V1 (by have := G_2.2.2.1; omega) ((sNu S b.toNat).2) (by omega) 30 (by omega)) ?_
  rintro _ _ ⟨p3, rfl, V3, rfl, g3, xp3⟩
  have G_4 := G_2.trans (g3.gs _)
  refine g_istore_n (l1 := [(3, aI ((p3 : Int))), (2, aI ((p1 : Int))), (0, aO (some o)), (1, aI b)]) rfl rfl ?_
  refine g_aload_n rfl rfl ?_
  refine g_aload_n rfl rfl ?_
  refine g_aload_n rfl rfl ?_
  refine g_getR rfl ms.1 (mr_three ms) ?_
  refine g_iconst rfl ?_
  refine g_iald (i := 0) rfl (mt_three ms) (by omega) (by omega) ?_
  refine g_top (v2 := aI ((Rp : Int))) (congrArg aI (by exact (g3.sa (show SLa o ((o + 26)) by unfold SLa; omega) (g1.sa (show SLa o ((o + 26)) by unfold SLa; omega) sR)).1)) ?_
  refine g_aload_n rfl rfl ?_
  refine g_getR rfl ms.1 (mr_one ms) ?_
  refine g_iconst rfl ?_
  refine g_iald (i := 2) rfl (mt_one ms) (by omega) (by omega) ?_
  refine g_top (v2 := aI ((Pr : Int))) (congrArg aI (by exact (g3.sa (show SLa o ((o + 24)) by unfold SLa; omega) (g1.sa (show SLa o ((o + 24)) by unfold SLa; omega) sP)).2.2.1)) ?_
  refine g_callVI [aI ((Rp : Int)), aI ((Pr : Int))] [aO (some o)] rfl rfl rfl rfl (Nat.le_of_ble_eq_true rfl) ms.1 (r_mul (by omega) ms V3 (by have := G_4.2.2.1; omega) (g3.rb (g1.rb xRp)) (g3.rb (g1.rb xPr)) (by omega)) ?_
  rintro _ _ ⟨p5, rfl, V5, rfl, g5, xp5⟩
  have G_6 := G_4.trans (g5.gs _)
  refine g_aload_n rfl rfl ?_
  refine g_aload_n rfl rfl ?_
  refine g_getR rfl ms.1 (mr_one ms) ?_
  refine g_iconst rfl ?_
  refine g_iald (i := 0) rfl (mt_one ms) (by omega) (by omega) ?_
  refine g_top (v2 := aI ((Pp : Int))) (congrArg aI (by exact (g5.sa (show SLa o ((o + 24)) by unfold SLa; omega) (g3.sa (show SLa o ((o + 24)) by unfold SLa; omega) (g1.sa (show SLa o ((o + 24)) by unfold SLa; omega) sP))).1)) ?_
  refine g_aload_n rfl rfl ?_
  refine g_getR rfl ms.1 (mr_three ms) ?_
  refine g_iconst rfl ?_
  refine g_iald (i := 2) rfl (mt_three ms) (by omega) (by omega) ?_
  refine g_top (v2 := aI ((Rr : Int))) (congrArg aI (by exact (g5.sa (show SLa o ((o + 26)) by unfold SLa; omega) (g3.sa (show SLa o ((o + 26)) by unfold SLa; omega) (g1.sa (show SLa o ((o + 26)) by unfold SLa; omega) sR))).2.2.1)) ?_
  refine g_callVI [aI ((Pp : Int)), aI ((Rr : Int))] [aI ((p5 : Int)), aO (some o)] rfl rfl rfl rfl (Nat.le_of_ble_eq_true rfl) ms.1 (r_mul (by omega) ms V5 (by have := G_6.2.2.1; omega) (g5.rb (g3.rb (g1.rb xPp))) (g5.rb (g3.rb (g1.rb xRr))) (by omega)) ?_
  rintro _ _ ⟨p7, rfl, V7, rfl, g7, xp7⟩
  have G_8 := G_6.trans (g7.gs _)
  refine g_callVI [aI ((p5 : Int)), aI ((p7 : Int))] [] rfl rfl rfl rfl (Nat.le_of_ble_eq_true rfl) ms.1 (r_sub (by omega) ms V7 (by have := G_8.2.2.1; omega) (g7.rb xp5) xp7 (41) (by omega) (by omega) (by omega)) ?_
  rintro _ _ ⟨p9, rfl, V9, rfl, g9, xp9⟩
  have G_10 := G_8.trans (g9.gs _)
  refine g_istore (l1 := [(4, aI ((p9 : Int))), (3, aI ((p3 : Int))), (2, aI ((p1 : Int))), (0, aO (some o)), (1, aI b)]) rfl rfl ?_
  refine g_aload_n rfl rfl ?_
  refine g_aload_n rfl rfl ?_
  refine g_aload_n rfl rfl ?_
  refine g_getR rfl ms.1 (mr_three ms) ?_
  refine g_iconst rfl ?_
  refine g_iald (i := 1) rfl (mt_three ms) (by omega) (by omega) ?_
  refine g_top (v2 := aI ((Rq : Int))) (congrArg aI (by exact (g9.sa (show SLa o ((o + 26)) by unfold SLa; omega) (g7.sa (show SLa o ((o + 26)) by unfold SLa; omega) (g5.sa (show SLa o ((o + 26)) by unfold SLa; omega) (g3.sa (show SLa o ((o + 26)) by unfold SLa; omega) (g1.sa (show SLa o ((o + 26)) by unfold SLa; omega) sR))))).2.1)) ?_
  refine g_aload_n rfl rfl ?_
  refine g_getR rfl ms.1 (mr_one ms) ?_
  refine g_iconst rfl ?_
  refine g_iald (i := 2) rfl (mt_one ms) (by omega) (by omega) ?_
  refine g_top (v2 := aI ((Pr : Int))) (congrArg aI (by exact (g9.sa (show SLa o ((o + 24)) by unfold SLa; omega) (g7.sa (show SLa o ((o + 24)) by unfold SLa; omega) (g5.sa (show SLa o ((o + 24)) by unfold SLa; omega) (g3.sa (show SLa o ((o + 24)) by unfold SLa; omega) (g1.sa (show SLa o ((o + 24)) by unfold SLa; omega) sP))))).2.2.1)) ?_
  refine g_callVI [aI ((Rq : Int)), aI ((Pr : Int))] [aO (some o)] rfl rfl rfl rfl (Nat.le_of_ble_eq_true rfl) ms.1 (r_mul (by omega) ms V9 (by have := G_10.2.2.1; omega) (g9.rb (g7.rb (g5.rb (g3.rb (g1.rb xRq))))) (g9.rb (g7.rb (g5.rb (g3.rb (g1.rb xPr))))) (by omega)) ?_
  rintro _ _ ⟨p11, rfl, V11, rfl, g11, xp11⟩
  have G_12 := G_10.trans (g11.gs _)
  refine g_aload_n rfl rfl ?_
  refine g_aload_n rfl rfl ?_
  refine g_getR rfl ms.1 (mr_one ms) ?_
  refine g_iconst rfl ?_
  refine g_iald (i := 1) rfl (mt_one ms) (by omega) (by omega) ?_
  refine g_top (v2 := aI ((Pq : Int))) (congrArg aI (by exact (g11.sa (show SLa o ((o + 24)) by unfold SLa; omega) (g9.sa (show SLa o ((o + 24)) by unfold SLa; omega) (g7.sa (show SLa o ((o + 24)) by unfold SLa; omega) (g5.sa (show SLa o ((o + 24)) by unfold SLa; omega) (g3.sa (show SLa o ((o + 24)) by unfold SLa; omega) (g1.sa (show SLa o ((o + 24)) by unfold SLa; omega) sP)))))).2.1)) ?_
  refine g_aload_n rfl rfl ?_
  refine g_getR rfl ms.1 (mr_three ms) ?_
  refine g_iconst rfl ?_
  refine g_iald (i := 2) rfl (mt_three ms) (by omega) (by omega) ?_
  refine g_top (v2 := aI ((Rr : Int))) (congrArg aI (by exact (g11.sa (show SLa o ((o + 26)) by unfold SLa; omega) (g9.sa (show SLa o ((o + 26)) by unfold SLa; omega) (g7.sa (show SLa o ((o + 26)) by unfold SLa; omega) (g5.sa (show SLa o ((o + 26)) by unfold SLa; omega) (g3.sa (show SLa o ((o + 26)) by unfold SLa; omega) (g1.sa (show SLa o ((o + 26)) by unfold SLa; omega) sR)))))).2.2.1)) ?_
  refine g_callVI [aI ((Pq : Int)), aI ((Rr : Int))] [aI ((p11 : Int)), aO (some o)] rfl rfl rfl rfl (Nat.le_of_ble_eq_true rfl) ms.1 (r_mul (by omega) ms V11 (by have := G_12.2.2.1; omega) (g11.rb (g9.rb (g7.rb (g5.rb (g3.rb (g1.rb xPq)))))) (g11.rb (g9.rb (g7.rb (g5.rb (g3.rb (g1.rb xRr)))))) (by omega)) ?_
  rintro _ _ ⟨p13, rfl, V13, rfl, g13, xp13⟩
  have G_14 := G_12.trans (g13.gs _)
  refine g_callVI [aI ((p11 : Int)), aI ((p13 : Int))] [] rfl rfl rfl rfl (Nat.le_of_ble_eq_true rfl) ms.1 (r_sub (by omega) ms V13 (by have := G_14.2.2.1; omega) (g13.rb xp11) xp13 (41) (by omega) (by omega) (by omega)) ?_
  rintro _ _ ⟨p15, rfl, V15, rfl, g15, xp15⟩
  have G_16 := G_14.trans (g15.gs _)
  refine g_istore (l1 := [(5, aI ((p15 : Int))), (4, aI ((p9 : Int))), (3, aI ((p3 : Int))), (2, aI ((p1 : Int))), (0, aO (some o)), (1, aI b)]) rfl rfl ?_
  refine g_aload_n rfl rfl ?_
  refine g_aload_n rfl rfl ?_
  refine g_getR rfl ms.1 (mr_got ms) ?_
  refine g_aload_n rfl rfl ?_
  refine g_aload_n rfl rfl ?_
  refine g_aload_n rfl rfl ?_
  refine g_getR rfl ms.1 (mr_one ms) ?_
  refine g_iconst rfl ?_
  refine g_iald (i := 0) rfl (mt_one ms) (by omega) (by omega) ?_
  refine g_top (v2 := aI ((Pp : Int))) (congrArg aI (by exact (g15.sa (show SLa o ((o + 24)) by unfold SLa; omega) (g13.sa (show SLa o ((o + 24)) by unfold SLa; omega) (g11.sa (show SLa o ((o + 24)) by unfold SLa; omega) (g9.sa (show SLa o ((o + 24)) by unfold SLa; omega) (g7.sa (show SLa o ((o + 24)) by unfold SLa; omega) (g5.sa (show SLa o ((o + 24)) by unfold SLa; omega) (g3.sa (show SLa o ((o + 24)) by unfold SLa; omega) (g1.sa (show SLa o ((o + 24)) by unfold SLa; omega) sP)))))))).1)) ?_
  refine g_aload_n rfl rfl ?_
  refine g_getR rfl ms.1 (mr_three ms) ?_
  refine g_iconst rfl ?_
  refine g_iald (i := 2) rfl (mt_three ms) (by omega) (by omega) ?_
  refine g_top (v2 := aI ((Rr : Int))) (congrArg aI (by exact (g15.sa (show SLa o ((o + 26)) by unfold SLa; omega) (g13.sa (show SLa o ((o + 26)) by unfold SLa; omega) (g11.sa (show SLa o ((o + 26)) by unfold SLa; omega) (g9.sa (show SLa o ((o + 26)) by unfold SLa; omega) (g7.sa (show SLa o ((o + 26)) by unfold SLa; omega) (g5.sa (show SLa o ((o + 26)) by unfold SLa; omega) (g3.sa (show SLa o ((o + 26)) by unfold SLa; omega) (g1.sa (show SLa o ((o + 26)) by unfold SLa; omega) sR)))))))).2.2.1)) ?_
  refine g_iload_n rfl rfl ?_
  refine g_callVI [aI ((Pp : Int)), aI ((Rr : Int)), aI ((p3 : Int))] [aO (some o), aO (some (o + 29)), aO (some o)] rfl rfl rfl rfl (Nat.le_of_ble_eq_true rfl) ms.1 (r_mul3 (by omega) ms V15 (by have := G_16.2.2.1; omega) (g15.rb (g13.rb (g11.rb (g9.rb (g7.rb (g5.rb (g3.rb (g1.rb xPp)))))))) (g15.rb (g13.rb (g11.rb (g9.rb (g7.rb (g5.rb (g3.rb (g1.rb xRr)))))))) (g15.rb (g13.rb (g11.rb (g9.rb (g7.rb (g5.rb xp3)))))) (by omega)) ?_
  rintro _ _ ⟨p17, rfl, V17, rfl, g17, xp17⟩
  have G_18 := G_16.trans (g17.gs _)
  refine g_aload_n rfl rfl ?_
  refine g_iload_n rfl rfl ?_
  refine g_iload rfl rfl ?_
  refine g_callVI [aI ((p1 : Int)), aI ((p9 : Int))] [aI ((p17 : Int)), aO (some o), aO (some (o + 29)), aO (some o)] rfl rfl rfl rfl (Nat.le_of_ble_eq_true rfl) ms.1 (r_mul (by omega) ms V17 (by have := G_18.2.2.1; omega) (g17.rb (g15.rb (g13.rb (g11.rb (g9.rb (g7.rb (g5.rb (g3.rb xp1)))))))) (g17.rb (g15.rb (g13.rb (g11.rb xp9)))) (by omega)) ?_
  rintro _ _ ⟨p19, rfl, V19, rfl, g19, xp19⟩
  have G_20 := G_18.trans (g19.gs _)
  refine g_callVI [aI ((p17 : Int)), aI ((p19 : Int))] [aO (some (o + 29)), aO (some o)] rfl rfl rfl rfl (Nat.le_of_ble_eq_true rfl) ms.1 (r_add (by omega) ms V19 (by have := G_20.2.2.1; omega) (g19.rb xp17) xp19 (72) (by omega) (by omega) (by omega)) ?_
  rintro _ _ ⟨p21, rfl, V21, rfl, g21, xp21⟩
  have G_22 := G_20.trans (g21.gs _)
  refine g_aload_n rfl rfl ?_
  refine g_aload_n rfl rfl ?_
  refine g_aload_n rfl rfl ?_
  refine g_getR rfl ms.1 (mr_one ms) ?_
  refine g_iconst rfl ?_
  refine g_iald (i := 1) rfl (mt_one ms) (by omega) (by omega) ?_
  refine g_top (v2 := aI ((Pq : Int))) (congrArg aI (by exact (g21.sa (show SLa o ((o + 24)) by unfold SLa; omega) (g19.sa (show SLa o ((o + 24)) by unfold SLa; omega) (g17.sa (show SLa o ((o + 24)) by unfold SLa; omega) (g15.sa (show SLa o ((o + 24)) by unfold SLa; omega) (g13.sa (show SLa o ((o + 24)) by unfold SLa; omega) (g11.sa (show SLa o ((o + 24)) by unfold SLa; omega) (g9.sa (show SLa o ((o + 24)) by unfold SLa; omega) (g7.sa (show SLa o ((o + 24)) by unfold SLa; omega) (g5.sa (show SLa o ((o + 24)) by unfold SLa; omega) (g3.sa (show SLa o ((o + 24)) by unfold SLa; omega) (g1.sa (show SLa o ((o + 24)) by unfold SLa; omega) sP))))))))))).2.1)) ?_
  refine g_aload_n rfl rfl ?_
  refine g_getR rfl ms.1 (mr_three ms) ?_
  refine g_iconst rfl ?_
  refine g_iald (i := 2) rfl (mt_three ms) (by omega) (by omega) ?_
  refine g_top (v2 := aI ((Rr : Int))) (congrArg aI (by exact (g21.sa (show SLa o ((o + 26)) by unfold SLa; omega) (g19.sa (show SLa o ((o + 26)) by unfold SLa; omega) (g17.sa (show SLa o ((o + 26)) by unfold SLa; omega) (g15.sa (show SLa o ((o + 26)) by unfold SLa; omega) (g13.sa (show SLa o ((o + 26)) by unfold SLa; omega) (g11.sa (show SLa o ((o + 26)) by unfold SLa; omega) (g9.sa (show SLa o ((o + 26)) by unfold SLa; omega) (g7.sa (show SLa o ((o + 26)) by unfold SLa; omega) (g5.sa (show SLa o ((o + 26)) by unfold SLa; omega) (g3.sa (show SLa o ((o + 26)) by unfold SLa; omega) (g1.sa (show SLa o ((o + 26)) by unfold SLa; omega) sR))))))))))).2.2.1)) ?_
  refine g_iload_n rfl rfl ?_
  refine g_callVI [aI ((Pq : Int)), aI ((Rr : Int)), aI ((p3 : Int))] [aO (some o), aI ((p21 : Int)), aO (some (o + 29)), aO (some o)] rfl rfl rfl rfl (Nat.le_of_ble_eq_true rfl) ms.1 (r_mul3 (by omega) ms V21 (by have := G_22.2.2.1; omega) (g21.rb (g19.rb (g17.rb (g15.rb (g13.rb (g11.rb (g9.rb (g7.rb (g5.rb (g3.rb (g1.rb xPq))))))))))) (g21.rb (g19.rb (g17.rb (g15.rb (g13.rb (g11.rb (g9.rb (g7.rb (g5.rb (g3.rb (g1.rb xRr))))))))))) (g21.rb (g19.rb (g17.rb (g15.rb (g13.rb (g11.rb (g9.rb (g7.rb (g5.rb xp3))))))))) (by omega)) ?_
  rintro _ _ ⟨p23, rfl, V23, rfl, g23, xp23⟩
  have G_24 := G_22.trans (g23.gs _)
  refine g_aload_n rfl rfl ?_
  refine g_iload_n rfl rfl ?_
  refine g_iload rfl rfl ?_
  refine g_callVI [aI ((p1 : Int)), aI ((p15 : Int))] [aI ((p23 : Int)), aO (some o), aI ((p21 : Int)), aO (some (o + 29)), aO (some o)] rfl rfl rfl rfl (Nat.le_of_ble_eq_true rfl) ms.1 (r_mul (by omega) ms V23 (by have := G_24.2.2.1; omega) (g23.rb (g21.rb (g19.rb (g17.rb (g15.rb (g13.rb (g11.rb (g9.rb (g7.rb (g5.rb (g3.rb xp1))))))))))) (g23.rb (g21.rb (g19.rb (g17.rb xp15)))) (by omega)) ?_
  rintro _ _ ⟨p25, rfl, V25, rfl, g25, xp25⟩
  have G_26 := G_24.trans (g25.gs _)
  refine g_callVI [aI ((p23 : Int)), aI ((p25 : Int))] [aI ((p21 : Int)), aO (some (o + 29)), aO (some o)] rfl rfl rfl rfl (Nat.le_of_ble_eq_true rfl) ms.1 (r_add (by omega) ms V25 (by have := G_26.2.2.1; omega) (g25.rb xp23) xp25 (72) (by omega) (by omega) (by omega)) ?_
  rintro _ _ ⟨p27, rfl, V27, rfl, g27, xp27⟩
  have G_28 := G_26.trans (g27.gs _)
  refine g_aload_n rfl rfl ?_
  refine g_aload_n rfl rfl ?_
  refine g_getR rfl ms.1 (mr_one ms) ?_
  refine g_iconst rfl ?_
  refine g_iald (i := 2) rfl (mt_one ms) (by omega) (by omega) ?_
  refine g_top (v2 := aI ((Pr : Int))) (congrArg aI (by exact (g27.sa (show SLa o ((o + 24)) by unfold SLa; omega) (g25.sa (show SLa o ((o + 24)) by unfold SLa; omega) (g23.sa (show SLa o ((o + 24)) by unfold SLa; omega) (g21.sa (show SLa o ((o + 24)) by unfold SLa; omega) (g19.sa (show SLa o ((o + 24)) by unfold SLa; omega) (g17.sa (show SLa o ((o + 24)) by unfold SLa; omega) (g15.sa (show SLa o ((o + 24)) by unfold SLa; omega) (g13.sa (show SLa o ((o + 24)) by unfold SLa; omega) (g11.sa (show SLa o ((o + 24)) by unfold SLa; omega) (g9.sa (show SLa o ((o + 24)) by unfold SLa; omega) (g7.sa (show SLa o ((o + 24)) by unfold SLa; omega) (g5.sa (show SLa o ((o + 24)) by unfold SLa; omega) (g3.sa (show SLa o ((o + 24)) by unfold SLa; omega) (g1.sa (show SLa o ((o + 24)) by unfold SLa; omega) sP)))))))))))))).2.2.1)) ?_
  refine g_aload_n rfl rfl ?_
  refine g_getR rfl ms.1 (mr_three ms) ?_
  refine g_iconst rfl ?_
  refine g_iald (i := 2) rfl (mt_three ms) (by omega) (by omega) ?_
  refine g_top (v2 := aI ((Rr : Int))) (congrArg aI (by exact (g27.sa (show SLa o ((o + 26)) by unfold SLa; omega) (g25.sa (show SLa o ((o + 26)) by unfold SLa; omega) (g23.sa (show SLa o ((o + 26)) by unfold SLa; omega) (g21.sa (show SLa o ((o + 26)) by unfold SLa; omega) (g19.sa (show SLa o ((o + 26)) by unfold SLa; omega) (g17.sa (show SLa o ((o + 26)) by unfold SLa; omega) (g15.sa (show SLa o ((o + 26)) by unfold SLa; omega) (g13.sa (show SLa o ((o + 26)) by unfold SLa; omega) (g11.sa (show SLa o ((o + 26)) by unfold SLa; omega) (g9.sa (show SLa o ((o + 26)) by unfold SLa; omega) (g7.sa (show SLa o ((o + 26)) by unfold SLa; omega) (g5.sa (show SLa o ((o + 26)) by unfold SLa; omega) (g3.sa (show SLa o ((o + 26)) by unfold SLa; omega) (g1.sa (show SLa o ((o + 26)) by unfold SLa; omega) sR)))))))))))))).2.2.1)) ?_
  refine g_iload_n rfl rfl ?_
  refine g_callVI [aI ((Pr : Int)), aI ((Rr : Int)), aI ((p3 : Int))] [aI ((p27 : Int)), aI ((p21 : Int)), aO (some (o + 29)), aO (some o)] rfl rfl rfl rfl (Nat.le_of_ble_eq_true rfl) ms.1 (r_mul3 (by omega) ms V27 (by have := G_28.2.2.1; omega) (g27.rb (g25.rb (g23.rb (g21.rb (g19.rb (g17.rb (g15.rb (g13.rb (g11.rb (g9.rb (g7.rb (g5.rb (g3.rb (g1.rb xPr)))))))))))))) (g27.rb (g25.rb (g23.rb (g21.rb (g19.rb (g17.rb (g15.rb (g13.rb (g11.rb (g9.rb (g7.rb (g5.rb (g3.rb (g1.rb xRr)))))))))))))) (g27.rb (g25.rb (g23.rb (g21.rb (g19.rb (g17.rb (g15.rb (g13.rb (g11.rb (g9.rb (g7.rb (g5.rb xp3)))))))))))) (by omega)) ?_
  rintro _ _ ⟨p29, rfl, V29, rfl, g29, xp29⟩
  have G_30 := G_28.trans (g29.gs _)
  refine g_callVN [aO (some (o + 29)), aI ((p21 : Int)), aI ((p27 : Int)), aI ((p29 : Int))] [] rfl rfl rfl rfl (Nat.le_of_ble_eq_true rfl) ms.1 (m_put (by omega) ms V29 (by have := G_30.2.2.1; omega) ((o + 29)) (show SLa o ((o + 29)) by unfold SLa; omega) p21 p27 p29) ?_
  rintro _ ⟨V31, rfl, p31, g31, s31, xp31⟩
  have G_32 := G_30.trans (g31.wide (fun q hq => by have hq : q = o + 29 := hq; show q = o + 29; omega))
  refine g_aload_n rfl rfl ?_
  refine g_aload_n rfl rfl ?_
  refine g_getR rfl ms.1 (mr_got ms) ?_
  refine g_iconst rfl ?_
  refine g_callVI [aO (some (o + 29)), aI 0] [] rfl rfl rfl rfl (Nat.le_of_ble_eq_true rfl) ms.1 (m_keepT0 (by omega) ms V31 ok (g31.mt (show ¬((o + 4) = o + 29) by omega) (show ¬((o + 5) = o + 29) by omega) (g29.mt (g27.mt (g25.mt (g23.mt (g21.mt (g19.mt (g17.mt (g15.mt (g13.mt (g11.mt (g9.mt (g7.mt (g5.mt (g3.mt (g1.mt mt)))))))))))))))) (by have := G_32.2.2.1; omega) ((o + 29)) (show SLa o ((o + 29)) by unfold SLa; omega) (show SB V31 o (o + 29) (((((tpR S a).1) * ((tpR S c).2.2.1) * ((sNu S b.toNat).2)) + (((sNu S b.toNat).1) * ((((tpR S c).1) * ((tpR S a).2.2.1)) - (((tpR S a).1) * ((tpR S c).2.2.1)))), (((tpR S a).2.1) * ((tpR S c).2.2.1) * ((sNu S b.toNat).2)) + (((sNu S b.toNat).1) * ((((tpR S c).2.1) * ((tpR S a).2.2.1)) - (((tpR S a).2.1) * ((tpR S c).2.2.1)))), ((tpR S a).2.2.1) * ((tpR S c).2.2.1) * ((sNu S b.toNat).2), 0)) (72) from ⟨_, _, _, _, s31, ((g31.rb (g29.rb (g27.rb (g25.rb (g23.rb xp21))))).up (by omega)), ((g31.rb (g29.rb xp27)).up (by omega)), ((g31.rb xp29).up (by omega)), (xp31.up (by omega))⟩) (by omega)) ?_
  rintro r33 _ ⟨V33, rfl, k33, e33, m33⟩
  refine g_iret rfl ?_
  have ek : keepM S 0 (m_t_str_O S a b c) = keepT S 0 (lowK 0 (((((tpR S a).1) * ((tpR S c).2.2.1) * ((sNu S b.toNat).2)) + (((sNu S b.toNat).1) * ((((tpR S c).1) * ((tpR S a).2.2.1)) - (((tpR S a).1) * ((tpR S c).2.2.1)))), (((tpR S a).2.1) * ((tpR S c).2.2.1) * ((sNu S b.toNat).2)) + (((sNu S b.toNat).1) * ((((tpR S c).2.1) * ((tpR S a).2.2.1)) - (((tpR S a).2.1) * ((tpR S c).2.2.1)))), ((tpR S a).2.2.1) * ((tpR S c).2.2.1) * ((sNu S b.toNat).2), 0))) := by
    have eo : m_t_str_O S a b c = some (((((tpR S a).1) * ((tpR S c).2.2.1) * ((sNu S b.toNat).2)) + (((sNu S b.toNat).1) * ((((tpR S c).1) * ((tpR S a).2.2.1)) - (((tpR S a).1) * ((tpR S c).2.2.1)))), (((tpR S a).2.1) * ((tpR S c).2.2.1) * ((sNu S b.toNat).2)) + (((sNu S b.toNat).1) * ((((tpR S c).2.1) * ((tpR S a).2.2.1)) - (((tpR S a).2.1) * ((tpR S c).2.2.1)))), ((tpR S a).2.2.1) * ((tpR S c).2.2.1) * ((sNu S b.toNat).2), 0)) := by
      rfl
    rw [eo]
    rfl
  rw [ek]
  exact ⟨_, rfl, (Gs.km G_32 k33 (fun q hq => by have hq : q = o + 29 := hq; show q = o + 29; omega)).mono (by omega), e33, m33⟩
def three8M (S : aS) (a b c : Int) : Int × aS := if isS S a 0 ∧ (0 ≤ b ∧ b < sN S) ∧ isS S c 0 then keepM S 0 (if sTp S a.toNat 2 = 0 ∨ sTp S c.toNat 2 = 0 then none else m_t_str_O S a b c) else (-1, S)
theorem three8_no {S : aS} {a b c : Int} (h : ¬(((0 ≤ a ∧ a < sT S) ∧ sTs S a.toNat = 0) ∧ (0 ≤ b ∧ b < sN S) ∧ ((0 ≤ c ∧ c < sT S) ∧ sTs S c.toNat = 0))) : three8M S a b c = (-1, S) := by unfold three8M; rw [if_neg (by unfold isS; exact h)]
theorem three8_far {S : aS} {a b c : Int} (h : ((0 ≤ a ∧ a < sT S) ∧ sTs S a.toNat = 0) ∧ (0 ≤ b ∧ b < sN S) ∧ ((0 ≤ c ∧ c < sT S) ∧ sTs S c.toNat = 0)) (h2 : sTp S a.toNat 2 = 0 ∨ sTp S c.toNat 2 = 0) : three8M S a b c = (-3, S) := by
  unfold three8M
  rw [if_pos (by unfold isS; exact h), if_pos h2]
  rfl
theorem three8_yes {S : aS} {a b c : Int} (h : ((0 ≤ a ∧ a < sT S) ∧ sTs S a.toNat = 0) ∧ (0 ≤ b ∧ b < sN S) ∧ ((0 ≤ c ∧ c < sT S) ∧ sTs S c.toNat = 0)) (h2 : ¬(sTp S a.toNat 2 = 0 ∨ sTp S c.toNat 2 = 0)) : three8M S a b c = keepM S 0 (m_t_str_O S a b c) := by
  unfold three8M
  rw [if_pos (by unfold isS; exact h), if_neg h2]
theorem Gs.mn {V V1 : Nat → Nat → Int} {o n : Nat} {T : Nat → Prop} (g : Gs V V1 o n T) (h2 : ¬ T (o + 2)) (h3 : ¬ T (o + 3)) {S : aS} (x : MN V o S) : MN V1 o S := by
  unfold MN
  rw [g.2.1 2 (by omega), g.1 (o + 2) (by omega) (by omega) h2, g.1 (o + 3) (by omega) (by omega) h3]
  exact x
set_option maxRecDepth 100000 in
set_option maxHeartbeats 4000000 in
theorem m_three8 {w : aW} {d : Nat} (hd : 10 ≤ d) {h : aH} {o : Nat} (ms : MS h o) (V : Nat → Nat → Int) {S : aS} (ok : OkT S) (mt : MT V o S) (okn : OkN S) (mn : MN V o S) (a b c : Int) : WP w d 312 [aO (some o), aI 8, aI a, aI b, aI c] (hw h V) (RI (fun r h1 => ∃ V1, h1 = hw h V1 ∧ FR V V1 o ∧ r = (three8M S a b c).1 ∧ MT V1 o (three8M S a b c).2)) := by
  obtain ⟨d, rfl⟩ : ∃ d1, d = d1 + 1 := ⟨d - 1, by omega⟩
  refine WP.enter (cd := cd_X12_three) rfl ?_
  have hn := ok.1
  have hls : largs 0 [aO (some o), aI 8, aI a, aI b, aI c] = [(0, aO (some o)), (1, aI 8), (2, aI a), (3, aI b), (4, aI c)] := rfl
  rw [hls]
  clear hls
  refine g_aload_n rfl rfl ?_
  refine g_iconst rfl ?_
  refine g_putI rfl ms.1 ?_
  refine g_hp (h2 := hw h (vset V o 31 0)) rfl ?_
  refine g_aload_n rfl rfl ?_
  refine g_iconst rfl ?_
  refine g_putI rfl ms.1 ?_
  obtain ⟨V0, eV0⟩ : ∃ W, W = vset (vset V o 31 0) o 1 0 := ⟨_, rfl⟩
  refine g_hp (h2 := hw h V0) (by rw [eV0]; rfl) ?_
  have mt : MT V0 o S := by rw [eV0]; exact mt.rs
  have f0 : V0 o 1 = 0 := by rw [eV0]; exact vset_eq _ _ _ _
  have G0 := Gs.refl V0 o (fun q => q = o + 24 ∨ q = o + 26)
  have mn : MN V0 o S := by rw [eV0]; exact mn.rs
  refine g_iload_n rfl rfl ?_
  refine g_i2l rfl ?_
  refine g_lconst0 rfl ?_
  refine g_ldc2 rfl ?_
  refine g_callSI [aJ 8, aJ 0, aJ 8] [] rfl rfl rfl rfl (Nat.le_of_ble_eq_true rfl) (c_in (by omega) _ _ _ _) ?_
  rintro r1 _ ⟨rfl, rfl⟩
  refine g_b_eq rfl (fun c19 => ?_) (fun c19 => ?_)
  · skip
    refine g_iconst rfl ?_
    refine g_istore (l1 := [(5, aI 0), (0, aO (some o)), (1, aI 8), (2, aI a), (3, aI b), (4, aI c)]) rfl rfl ?_
    refine g_iload rfl rfl ?_
    refine g_if_eq_t rfl (by omega) ?_
    refine g_iconst rfl ?_
    refine g_istore (l1 := [(5, aI 0), (0, aO (some o)), (1, aI 8), (2, aI a), (3, aI b), (4, aI c)]) rfl rfl ?_
    refine g_iload rfl rfl ?_
    refine g_if_ne_f rfl (by omega) ?_
    refine g_iconst rfl ?_
    refine g_iret rfl ?_
    rw [three8_no (by omega)]
    exact ⟨V0, rfl, (KM.of (G0.wide (T2 := fun q => o + 24 ≤ q ∧ q ≤ o + 31) (fun q hq => by have hq : q = o + 24 ∨ q = o + 26 := hq; show o + 24 ≤ q ∧ q ≤ o + 31; omega))).fr (fun q hq => hq) eV0, rfl, mt⟩
  · skip
    refine g_aload_n rfl rfl ?_
    refine g_iload_n rfl rfl ?_
    refine g_iconst rfl ?_
    refine g_callVI [aI a, aI 0] [] rfl rfl rfl rfl (Nat.le_of_ble_eq_true rfl) ms.1 (m_is (by omega) ms V0 ok mt a 0) ?_
    rintro r2 _ ⟨rfl, e3⟩
    rw [e3]
    clear e3 r2
    refine g_b_eq rfl (fun c28 => ?_) (fun c28 => ?_)
    · skip
      refine g_iconst rfl ?_
      refine g_istore (l1 := [(5, aI 0), (0, aO (some o)), (1, aI 8), (2, aI a), (3, aI b), (4, aI c)]) rfl rfl ?_
      refine g_iload rfl rfl ?_
      refine g_if_eq_t rfl (by omega) ?_
      refine g_iconst rfl ?_
      refine g_istore (l1 := [(5, aI 0), (0, aO (some o)), (1, aI 8), (2, aI a), (3, aI b), (4, aI c)]) rfl rfl ?_
      refine g_iload rfl rfl ?_
      refine g_if_ne_f rfl (by omega) ?_
      refine g_iconst rfl ?_
      refine g_iret rfl ?_
      rw [three8_no (by omega)]
      exact ⟨V0, rfl, (KM.of (G0.wide (T2 := fun q => o + 24 ≤ q ∧ q ≤ o + 31) (fun q hq => by have hq : q = o + 24 ∨ q = o + 26 := hq; show o + 24 ≤ q ∧ q ≤ o + 31; omega))).fr (fun q hq => hq) eV0, rfl, mt⟩
    · skip
      refine g_aload_n rfl rfl ?_
      refine g_iload rfl rfl ?_
      refine g_iconst rfl ?_
      refine g_callVI [aI c, aI 0] [] rfl rfl rfl rfl (Nat.le_of_ble_eq_true rfl) ms.1 (m_is (by omega) ms V0 ok mt c 0) ?_
      rintro r4 _ ⟨rfl, e5⟩
      rw [e5]
      clear e5 r4
      refine g_b_eq rfl (fun c38 => ?_) (fun c38 => ?_)
      · skip
        refine g_iconst rfl ?_
        refine g_istore (l1 := [(5, aI 0), (0, aO (some o)), (1, aI 8), (2, aI a), (3, aI b), (4, aI c)]) rfl rfl ?_
        refine g_iload rfl rfl ?_
        refine g_if_eq_t rfl (by omega) ?_
        refine g_iconst rfl ?_
        refine g_istore (l1 := [(5, aI 0), (0, aO (some o)), (1, aI 8), (2, aI a), (3, aI b), (4, aI c)]) rfl rfl ?_
        refine g_iload rfl rfl ?_
        refine g_if_ne_f rfl (by omega) ?_
        refine g_iconst rfl ?_
        refine g_iret rfl ?_
        rw [three8_no (by omega)]
        exact ⟨V0, rfl, (KM.of (G0.wide (T2 := fun q => o + 24 ≤ q ∧ q ≤ o + 31) (fun q hq => by have hq : q = o + 24 ∨ q = o + 26 := hq; show o + 24 ≤ q ∧ q ≤ o + 31; omega))).fr (fun q hq => hq) eV0, rfl, mt⟩
      · skip
        refine g_iconst rfl ?_
        refine g_goto rfl ?_
        refine g_istore (l1 := [(5, aI 1), (0, aO (some o)), (1, aI 8), (2, aI a), (3, aI b), (4, aI c)]) rfl rfl ?_
        refine g_iload rfl rfl ?_
        refine g_if_eq_f rfl (by omega) ?_
        refine g_iload_n rfl rfl ?_
        refine g_bipush rfl ?_
        refine g_icmp_ge_t rfl (by omega) ?_
        refine g_iload_n rfl rfl ?_
        refine g_bipush rfl ?_
        refine g_icmp_ne_t rfl (by omega) ?_
        refine g_aload_n rfl rfl ?_
        refine g_iload_n rfl rfl ?_
        refine g_callVI [aI b] [] rfl rfl rfl rfl (Nat.le_of_ble_eq_true rfl) ms.1 (m_isNumber (by omega) ms V0 (sN S) mn.1 okn.1 b) ?_
        rintro r6 hx6 ⟨ehx6, rfl⟩
        rw [ehx6]
        clear ehx6 hx6
        refine g_b_eq rfl (fun c93 => ?_) (fun c93 => ?_)
        · skip
          refine g_iconst rfl ?_
          refine g_istore (l1 := [(5, aI 0), (0, aO (some o)), (1, aI 8), (2, aI a), (3, aI b), (4, aI c)]) rfl rfl ?_
          refine g_iload rfl rfl ?_
          refine g_if_ne_f rfl (by omega) ?_
          refine g_iconst rfl ?_
          refine g_iret rfl ?_
          rw [three8_no (by omega)]
          exact ⟨V0, rfl, (KM.of (G0.wide (T2 := fun q => o + 24 ≤ q ∧ q ≤ o + 31) (fun q hq => by have hq : q = o + 24 ∨ q = o + 26 := hq; show o + 24 ≤ q ∧ q ≤ o + 31; omega))).fr (fun q hq => hq) eV0, rfl, mt⟩
        · skip
          refine g_iconst rfl ?_
          refine g_goto rfl ?_
          refine g_istore (l1 := [(5, aI 1), (0, aO (some o)), (1, aI 8), (2, aI a), (3, aI b), (4, aI c)]) rfl rfl ?_
          refine g_iload rfl rfl ?_
          refine g_if_ne_t rfl (by omega) ?_
          have ha : 0 ≤ a ∧ a < sT S := by omega
          have hb : 0 ≤ b ∧ b < sN S := by omega
          have hc : 0 ≤ c ∧ c < sT S := by omega
          refine g_aload_n rfl rfl ?_
          refine g_iload_n rfl rfl ?_
          refine g_callVI [aI a] [] rfl rfl rfl rfl (Nat.le_of_ble_eq_true rfl) ms.1 (m_isFar (by omega) ms V0 ok mt a ha) ?_
          rintro r7 _ ⟨rfl, e8⟩
          rw [e8]
          clear e8 r7
          refine g_b_ne rfl (fun c115 => ?_) (fun c115 => ?_)
          · skip
            refine g_bipush rfl ?_
            refine g_iret rfl ?_
            rw [three8_far (by omega) (by omega)]
            exact ⟨V0, rfl, (KM.of (G0.wide (T2 := fun q => o + 24 ≤ q ∧ q ≤ o + 31) (fun q hq => by have hq : q = o + 24 ∨ q = o + 26 := hq; show o + 24 ≤ q ∧ q ≤ o + 31; omega))).fr (fun q hq => hq) eV0, rfl, mt⟩
          · skip
            refine g_aload_n rfl rfl ?_
            refine g_iload rfl rfl ?_
            refine g_callVI [aI c] [] rfl rfl rfl rfl (Nat.le_of_ble_eq_true rfl) ms.1 (m_isFar (by omega) ms V0 ok mt c hc) ?_
            rintro r9 _ ⟨rfl, e10⟩
            rw [e10]
            clear e10 r9
            refine g_b_ne rfl (fun c124 => ?_) (fun c124 => ?_)
            · skip
              refine g_bipush rfl ?_
              refine g_iret rfl ?_
              rw [three8_far (by omega) (by omega)]
              exact ⟨V0, rfl, (KM.of (G0.wide (T2 := fun q => o + 24 ≤ q ∧ q ≤ o + 31) (fun q hq => by have hq : q = o + 24 ∨ q = o + 26 := hq; show o + 24 ≤ q ∧ q ≤ o + 31; omega))).fr (fun q hq => hq) eV0, rfl, mt⟩
            · skip
              refine g_iload_n rfl rfl ?_
              refine g_bipush rfl ?_
              refine g_icmp_ge_t rfl (by omega) ?_
              refine g_aload_n rfl rfl ?_
              refine g_aload_n rfl rfl ?_
              refine g_getR rfl ms.1 (mr_one ms) ?_
              refine g_iload_n rfl rfl ?_
              refine g_callVN [aO (some (o + 24)), aI a] [] rfl rfl rfl rfl (Nat.le_of_ble_eq_true rfl) ms.1 (m_load (by omega) ms V0 ok mt (by have := G0.2.2.1; omega) ((o + 24)) (show SLa o ((o + 24)) by unfold SLa; omega) a ha) ?_
              rintro _ ⟨V11, rfl, g11, t11, u11, v11, y11, s11, xt11, xu11, xv11, xy11⟩
              have G_12 := G0.trans (g11.wide (fun q hq => by have hq : q = o + 24 := hq; show q = o + 24 ∨ q = o + 26; omega))
              refine g_aload_n rfl rfl ?_
              refine g_aload_n rfl rfl ?_
              refine g_getR rfl ms.1 (mr_three ms) ?_
              refine g_iload rfl rfl ?_
              refine g_callVN [aO (some (o + 26)), aI c] [] rfl rfl rfl rfl (Nat.le_of_ble_eq_true rfl) ms.1 (m_load (by omega) ms V11 ok (g11.mt (show ¬((o + 4) = o + 24) by omega) (show ¬((o + 5) = o + 24) by omega) mt) (by have := G_12.2.2.1; omega) ((o + 26)) (show SLa o ((o + 26)) by unfold SLa; omega) c hc) ?_
              rintro _ ⟨V13, rfl, g13, t13, u13, v13, y13, s13, xt13, xu13, xv13, xy13⟩
              have G_14 := G_12.trans (g13.wide (fun q hq => by have hq : q = o + 26 := hq; show q = o + 24 ∨ q = o + 26; omega))
              refine g_iload_n rfl rfl ?_
              refine g_bipush rfl ?_
              refine g_icmp_ge_t rfl (by omega) ?_
              refine g_iload_n rfl rfl ?_
              refine g_tsw (t := 617) rfl (by rfl) ?_
              refine g_aload_n rfl rfl ?_
              refine g_iload_n rfl rfl ?_
              refine g_callVI [aI b] [] rfl rfl rfl rfl (Nat.le_of_ble_eq_true rfl) ms.1 (m_stretched (by omega) ms V13 ok (g13.mt (show ¬((o + 4) = o + 26) by omega) (show ¬((o + 5) = o + 26) by omega) (g11.mt (show ¬((o + 4) = o + 24) by omega) (show ¬((o + 5) = o + 24) by omega) mt)) a c (by have := G_14.2.2.1; omega) b (show SB V13 o (o + 24) (tpR S a) (20) from ⟨_, _, _, _, (g13.sa (show SLa o ((o + 24)) by unfold SLa; omega) (show ¬(o + 24 = o + 26) by omega) s11), ((g13.rb xt11).up (by omega)), ((g13.rb xu11).up (by omega)), ((g13.rb xv11).up (by omega)), ((g13.rb xy11).up (by omega))⟩) (show SB V13 o (o + 26) (tpR S c) (20) from ⟨_, _, _, _, s13, (xt13.up (by omega)), (xu13.up (by omega)), (xv13.up (by omega)), (xy13.up (by omega))⟩) okn (g13.mn (show ¬((o + 2) = o + 26) by omega) (show ¬((o + 3) = o + 26) by omega) (g11.mn (show ¬((o + 2) = o + 24) by omega) (show ¬((o + 3) = o + 24) by omega) mn)) hb) ?_
              rintro r15 _ ⟨V15, rfl, k15, e15, m15⟩
              refine g_iret rfl ?_
              rw [three8_yes (by omega) (by omega)]
              exact ⟨_, rfl, (Gs.km (G_14.wide (T2 := fun q => o + 24 ≤ q ∧ q ≤ o + 31) (fun q hq => by have hq : q = o + 24 ∨ q = o + 26 := hq; show o + 24 ≤ q ∧ q ≤ o + 31; omega)) k15 (fun q hq => by have hq := hq; omega)).fr (fun q hq => hq) eV0, e15, m15⟩
