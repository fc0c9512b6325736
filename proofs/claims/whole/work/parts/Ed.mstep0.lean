/-! the reference's face step, kind 0: printed by wip/whole/ed.py -/
theorem Gm.mn {V V1 : Nat → Nat → Int} {o n : Nat} (g : Gm V V1 o n) {S : aS} (x : MN V o S) : MN V1 o S := by
  unfold MN
  rw [g.2.1 2 (by omega), g.1 (o + 2) (by omega) (by omega), g.1 (o + 3) (by omega) (by omega)]
  exact x
theorem MN.rs {V : Nat → Nat → Int} {o : Nat} {S : aS} (x : MN V o S) : MN (vset (vset V o 31 0) o 1 0) o S := by
  refine ⟨?_, fun i hi => ⟨?_, ?_⟩⟩
  · rw [vset_ne _ _ _ _ (by omega), vset_ne _ _ _ _ (by omega)]; exact x.1
  · rw [vset_ne _ _ _ _ (by omega), vset_ne _ _ _ _ (by omega)]; exact (x.2 i hi).1
  · rw [vset_ne _ _ _ _ (by omega), vset_ne _ _ _ _ (by omega)]; exact (x.2 i hi).2
theorem FR.mn {V V1 : Nat → Nat → Int} {o : Nat} (f : FR V V1 o) {S : aS} (x : MN V o S) : MN V1 o S := by
  refine ⟨?_, fun i hi => ⟨?_, ?_⟩⟩
  · rw [f o 2 (by omega) (by omega) (by omega) (by omega) (by omega)]; exact x.1
  · rw [f (o + 2) i (by omega) (by omega) (by omega) (by omega) (by omega)]; exact (x.2 i hi).1
  · rw [f (o + 3) i (by omega) (by omega) (by omega) (by omega) (by omega)]; exact (x.2 i hi).2
def step0M (S : aS) (a b : Int) : Int × aS := if (0 ≤ a ∧ a < sN S) ∧ (0 ≤ b ∧ b < sN S) then keepM S 0 (some (((sNu S a.toNat).1 * (sNu S b.toNat).2), ((sNu S b.toNat).1 * (sNu S a.toNat).2), ((sNu S a.toNat).2 * (sNu S b.toNat).2), 0)) else (-1, S)
theorem m_fits3 {w : aW} {d : Nat} (hd : 4 ≤ d) {h : aH} {o : Nat} (ms : MS h o) (V : Nat → Nat → Int) {S : aS} (mn : MN V o S) (okn : OkN S) (t : Int) : WP w d 306 [aO (some o), aI t, aI 3] (hw h V) (RI (fun r h1 => h1 = hw h V ∧ r = if 0 ≤ t ∧ t < sN S then 1 else 0)) := by
  obtain ⟨d, rfl⟩ : ∃ d1, d = d1 + 1 := ⟨d - 1, by omega⟩
  refine WP.enter (cd := cd_X12_fits) rfl ?_
  have hls : largs 0 [aO (some o), aI t, aI 3] = [(0, aO (some o)), (1, aI t), (2, aI 3)] := rfl
  rw [hls]
  clear hls
  refine g_iload_n rfl rfl ?_
  refine g_iconst rfl ?_
  refine g_icmp_ne_f rfl (by omega) ?_
  refine g_aload_n rfl rfl ?_
  refine g_iload_n rfl rfl ?_
  refine g_callVI [aI t] [] rfl rfl rfl rfl (Nat.le_of_ble_eq_true rfl) ms.1 (m_isNumber (by omega) ms V (sN S) mn.1 okn.1 t) ?_
  rintro r1 hx1 ⟨ehx1, rfl⟩
  rw [ehx1]
  clear ehx1 hx1
  refine g_goto rfl ?_
  refine g_zret rfl (by omega) ?_
  refine ⟨rfl, ?_⟩
  split <;> (try split) <;> omega
set_option maxHeartbeats 4000000 in
theorem m_step0 {w : aW} {d : Nat} (hd : 10 ≤ d) {h : aH} {o : Nat} (ms : MS h o) (V : Nat → Nat → Int) {S : aS} (ok : OkT S) (mt : MT V o S) (okn : OkN S) (mn : MN V o S) (a b : Int) : WP w d 307 [aO (some o), aI 0, aI a, aI b] (hw h V) (RI (fun r h1 => ∃ V1, h1 = hw h V1 ∧ FR V V1 o ∧ r = (step0M S a b).1 ∧ MT V1 o (step0M S a b).2)) := by
  obtain ⟨d, rfl⟩ : ∃ d1, d = d1 + 1 := ⟨d - 1, by omega⟩
  refine WP.enter (cd := cd_X12_step) rfl ?_
  have hn := ok.1
  have hnn := okn.1
  have hls : largs 0 [aO (some o), aI 0, aI a, aI b] = [(0, aO (some o)), (1, aI 0), (2, aI a), (3, aI b)] := rfl
  rw [hls]
  clear hls
  refine g_aload_n rfl rfl ?_
  refine g_iconst rfl ?_
  refine g_putI rfl ms.1 ?_
  refine g_hp (h2 := hw h (vset V o 31 0)) rfl ?_
  refine g_aload_n rfl rfl ?_
  refine g_iconst rfl ?_
  refine g_putI rfl ms.1 ?_
  obtain ⟨V0, eV0⟩ : ∃ W, W = vset (vset V o 31 0) o 1 0 := ⟨_, rfl⟩
  refine g_hp (h2 := hw h V0) (by rw [eV0]; rfl) ?_
  have mt : MT V0 o S := by rw [eV0]; exact mt.rs
  have f0 : V0 o 1 = 0 := by rw [eV0]; exact vset_eq _ _ _ _
  have G0 := Gs.refl V0 o (fun q => q = o + 29)
  have mn : MN V0 o S := by rw [eV0]; exact mn.rs
  refine g_iload_n rfl rfl ?_
  refine g_i2l rfl ?_
  refine g_lconst0 rfl ?_
  refine g_ldc2 rfl ?_
  refine g_callSI [aJ 0, aJ 0, aJ 19] [] rfl rfl rfl rfl (Nat.le_of_ble_eq_true rfl) (c_in (by omega) _ _ _ _) ?_
  rintro r1 _ ⟨rfl, rfl⟩
  refine g_b_eq rfl (fun c19 => ?_) (fun c19 => ?_)
  · skip
    refine g_iconst rfl ?_
    refine g_iret rfl ?_
    have es : step0M S a b = (-1, S) := by unfold step0M; rw [if_neg (by omega)]
    rw [es]
    exact ⟨V0, rfl, (KM.of (G0.wide (fun q hq => by have hq : q = o + 29 := hq; show o + 24 ≤ q ∧ q ≤ o + 31; omega))).fr (T := fun q => o + 24 ≤ q ∧ q ≤ o + 31) (fun q hq => hq) eV0, rfl, mt⟩
  · skip
    refine g_aload_n rfl rfl ?_
    refine g_iload_n rfl rfl ?_
    refine g_iload_n rfl rfl ?_
    refine g_callSI [aI 0] [aI a, aO (some o)] rfl rfl rfl rfl (Nat.le_of_ble_eq_true rfl) (m_wants0 (by omega) _) ?_
    rintro _ _ ⟨rfl, rfl⟩
    refine g_bipush rfl ?_
    refine g_idivN (m := 10) (n := 33) rfl (by omega) (by omega) ?_
    refine g_top (v2 := aI 3) (congrArg aI (by rfl)) ?_
    refine g_callVI [aI a, aI 3] [] rfl rfl rfl rfl (Nat.le_of_ble_eq_true rfl) ms.1 (m_fits3 (by omega) ms V0 mn okn a) ?_
    rintro rxV0a hxV0a ⟨ehxV0a, rfl⟩
    rw [ehxV0a]
    clear ehxV0a hxV0a
    refine g_b_eq rfl (fun c34 => ?_) (fun c34 => ?_)
    · skip
      refine g_iconst rfl ?_
      refine g_iret rfl ?_
      have es : step0M S a b = (-1, S) := by unfold step0M; rw [if_neg (by omega)]
      rw [es]
      exact ⟨V0, rfl, (KM.of (G0.wide (fun q hq => by have hq : q = o + 29 := hq; show o + 24 ≤ q ∧ q ≤ o + 31; omega))).fr (T := fun q => o + 24 ≤ q ∧ q ≤ o + 31) (fun q hq => hq) eV0, rfl, mt⟩
    · skip
      refine g_aload_n rfl rfl ?_
      refine g_iload_n rfl rfl ?_
      refine g_iload_n rfl rfl ?_
      refine g_callSI [aI 0] [aI b, aO (some o)] rfl rfl rfl rfl (Nat.le_of_ble_eq_true rfl) (m_wants0 (by omega) _) ?_
      rintro _ _ ⟨rfl, rfl⟩
      refine g_bipush rfl ?_
      refine g_iremN (m := 10) (n := 33) rfl (by omega) ?_
      refine g_top (v2 := aI 3) (congrArg aI (by rfl)) ?_
      refine g_callVI [aI b, aI 3] [] rfl rfl rfl rfl (Nat.le_of_ble_eq_true rfl) ms.1 (m_fits3 (by omega) ms V0 mn okn b) ?_
      rintro rxV0b hxV0b ⟨ehxV0b, rfl⟩
      rw [ehxV0b]
      clear ehxV0b hxV0b
      refine g_b_ne rfl (fun c49 => ?_) (fun c49 => ?_)
      · skip
        refine g_iload_n rfl rfl ?_
        refine g_if_ne_f rfl (by omega) ?_
        have qa := okn.2 a.toNat (by omega)
        have qb := okn.2 b.toNat (by omega)
        unfold NuOk at qa qb
        refine g_aload_n rfl rfl ?_
        refine g_aload_n rfl rfl ?_
        refine g_getR rfl ms.1 (mr_got ms) ?_
        refine g_aload_n rfl rfl ?_
        refine g_aload_n rfl rfl ?_
        refine g_aload_n rfl rfl ?_
        refine g_getR rfl ms.1 (mr_upper ms) ?_
        refine g_iload_n rfl rfl ?_
        refine g_lald (i := a.toNat) rfl (mt_upper ms) (by omega) (by omega) ?_
        refine g_top (v2 := aJ ((sNu S a.toNat).1)) (congrArg aJ (by exact (mn.2 a.toNat (by omega)).1)) ?_
        refine g_callVI [aJ ((sNu S a.toNat).1)] [aO (some o), aO (some (o + 29)), aO (some o)] rfl rfl rfl rfl (Nat.le_of_ble_eq_true rfl) ms.1 (r_num (by omega) ms V0 (by have := G0.2.2.1; omega) ((sNu S a.toNat).1) (by omega) 30 (by omega)) ?_
        rintro _ _ ⟨p2, rfl, V2, rfl, g2, xp2⟩
        have G_3 := G0.trans (g2.gs _)
        refine g_aload_n rfl rfl ?_
        refine g_aload_n rfl rfl ?_
        refine g_getR rfl ms.1 (mr_lower ms) ?_
        refine g_iload_n rfl rfl ?_
        refine g_lald (i := b.toNat) rfl (mt_lower ms) (by omega) (by omega) ?_
        refine g_top (v2 := aJ ((sNu S b.toNat).2)) (congrArg aJ (by exact ((g2.mn mn).2 b.toNat (by omega)).2)) ?_
        refine g_callVI [aJ ((sNu S b.toNat).2)] [aI ((p2 : Int)), aO (some o), aO (some (o + 29)), aO (some o)] rfl rfl rfl rfl (Nat.le_of_ble_eq_true rfl) ms.1 (r_num (by omega) ms V2 (by have := G_3.2.2.1; omega) ((sNu S b.toNat).2) (by omega) 30 (by omega)) ?_
        rintro _ _ ⟨p4, rfl, V4, rfl, g4, xp4⟩
        have G_5 := G_3.trans (g4.gs _)
        refine g_callVI [aI ((p2 : Int)), aI ((p4 : Int))] [aO (some (o + 29)), aO (some o)] rfl rfl rfl rfl (Nat.le_of_ble_eq_true rfl) ms.1 (r_mul (by omega) ms V4 (by have := G_5.2.2.1; omega) (g4.rb xp2) xp4 (by omega)) ?_
        rintro _ _ ⟨p6, rfl, V6, rfl, g6, xp6⟩
        have G_7 := G_5.trans (g6.gs _)
        refine g_aload_n rfl rfl ?_
        refine g_aload_n rfl rfl ?_
        refine g_aload_n rfl rfl ?_
        refine g_getR rfl ms.1 (mr_upper ms) ?_
        refine g_iload_n rfl rfl ?_
        refine g_lald (i := b.toNat) rfl (mt_upper ms) (by omega) (by omega) ?_
        refine g_top (v2 := aJ ((sNu S b.toNat).1)) (congrArg aJ (by exact ((g6.mn (g4.mn (g2.mn mn))).2 b.toNat (by omega)).1)) ?_
        refine g_callVI [aJ ((sNu S b.toNat).1)] [aO (some o), aI ((p6 : Int)), aO (some (o + 29)), aO (some o)] rfl rfl rfl rfl (Nat.le_of_ble_eq_true rfl) ms.1 (r_num (by omega) ms V6 (by have := G_7.2.2.1; omega) ((sNu S b.toNat).1) (by omega) 30 (by omega)) ?_
        rintro _ _ ⟨p8, rfl, V8, rfl, g8, xp8⟩
        have G_9 := G_7.trans (g8.gs _)
        refine g_aload_n rfl rfl ?_
        refine g_aload_n rfl rfl ?_
        refine g_getR rfl ms.1 (mr_lower ms) ?_
        refine g_iload_n rfl rfl ?_
        refine g_lald (i := a.toNat) rfl (mt_lower ms) (by omega) (by omega) ?_
        refine g_top (v2 := aJ ((sNu S a.toNat).2)) (congrArg aJ (by exact ((g8.mn (g6.mn (g4.mn (g2.mn mn)))).2 a.toNat (by omega)).2)) ?_
        refine g_callVI [aJ ((sNu S a.toNat).2)] [aI ((p8 : Int)), aO (some o), aI ((p6 : Int)), aO (some (o + 29)), aO (some o)] rfl rfl rfl rfl (Nat.le_of_ble_eq_true rfl) ms.1 (r_num (by omega) ms V8 (by have := G_9.2.2.1; omega) ((sNu S a.toNat).2) (by omega) 30 (by omega)) ?_
        rintro _ _ ⟨p10, rfl, V10, rfl, g10, xp10⟩
        have G_11 := G_9.trans (g10.gs _)
        refine g_callVI [aI ((p8 : Int)), aI ((p10 : Int))] [aI ((p6 : Int)), aO (some (o + 29)), aO (some o)] rfl rfl rfl rfl (Nat.le_of_ble_eq_true rfl) ms.1 (r_mul (by omega) ms V10 (by have := G_11.2.2.1; omega) (g10.rb xp8) xp10 (by omega)) ?_
        rintro _ _ ⟨p12, rfl, V12, rfl, g12, xp12⟩
        have G_13 := G_11.trans (g12.gs _)
        refine g_aload_n rfl rfl ?_
        refine g_aload_n rfl rfl ?_
        refine g_aload_n rfl rfl ?_
        refine g_getR rfl ms.1 (mr_lower ms) ?_
        refine g_iload_n rfl rfl ?_
        refine g_lald (i := a.toNat) rfl (mt_lower ms) (by omega) (by omega) ?_
        refine g_top (v2 := aJ ((sNu S a.toNat).2)) (congrArg aJ (by exact ((g12.mn (g10.mn (g8.mn (g6.mn (g4.mn (g2.mn mn)))))).2 a.toNat (by omega)).2)) ?_
        refine g_callVI [aJ ((sNu S a.toNat).2)] [aO (some o), aI ((p12 : Int)), aI ((p6 : Int)), aO (some (o + 29)), aO (some o)] rfl rfl rfl rfl (Nat.le_of_ble_eq_true rfl) ms.1 (r_num (by omega) ms V12 (by have := G_13.2.2.1; omega) ((sNu S a.toNat).2) (by omega) 30 (by omega)) ?_
        rintro _ _ ⟨p14, rfl, V14, rfl, g14, xp14⟩
        have G_15 := G_13.trans (g14.gs _)
        refine g_aload_n rfl rfl ?_
        refine g_aload_n rfl rfl ?_
        refine g_getR rfl ms.1 (mr_lower ms) ?_
        refine g_iload_n rfl rfl ?_
        refine g_lald (i := b.toNat) rfl (mt_lower ms) (by omega) (by omega) ?_
        refine g_top (v2 := aJ ((sNu S b.toNat).2)) (congrArg aJ (by exact ((g14.mn (g12.mn (g10.mn (g8.mn (g6.mn (g4.mn (g2.mn mn))))))).2 b.toNat (by omega)).2)) ?_
        refine g_callVI [aJ ((sNu S b.toNat).2)] [aI ((p14 : Int)), aO (some o), aI ((p12 : Int)), aI ((p6 : Int)), aO (some (o + 29)), aO (some o)] rfl rfl rfl rfl (Nat.le_of_ble_eq_true rfl) ms.1 (r_num (by omega) ms V14 (by have := G_15.2.2.1; omega) ((sNu S b.toNat).2) (by omega) 30 (by omega)) ?_
        rintro _ _ ⟨p16, rfl, V16, rfl, g16, xp16⟩
        have G_17 := G_15.trans (g16.gs _)
        refine g_callVI [aI ((p14 : Int)), aI ((p16 : Int))] [aI ((p12 : Int)), aI ((p6 : Int)), aO (some (o + 29)), aO (some o)] rfl rfl rfl rfl (Nat.le_of_ble_eq_true rfl) ms.1 (r_mul (by omega) ms V16 (by have := G_17.2.2.1; omega) (g16.rb xp14) xp16 (by omega)) ?_
        rintro _ _ ⟨p18, rfl, V18, rfl, g18, xp18⟩
        have G_19 := G_17.trans (g18.gs _)
        refine g_callVN [aO (some (o + 29)), aI ((p6 : Int)), aI ((p12 : Int)), aI ((p18 : Int))] [] rfl rfl rfl rfl (Nat.le_of_ble_eq_true rfl) ms.1 (m_put (by omega) ms V18 (by have := G_19.2.2.1; omega) ((o + 29)) (show SLa o ((o + 29)) by unfold SLa; omega) p6 p12 p18) ?_
        rintro _ ⟨V20, rfl, p20, g20, s20, xp20⟩
        have G_21 := G_19.trans (g20.wide (fun q hq => by have hq : q = o + 29 := hq; show q = o + 29; omega))
        refine g_aload_n rfl rfl ?_
        refine g_aload_n rfl rfl ?_
        refine g_getR rfl ms.1 (mr_got ms) ?_
        refine g_iconst rfl ?_
        refine g_callVI [aO (some (o + 29)), aI 0] [] rfl rfl rfl rfl (Nat.le_of_ble_eq_true rfl) ms.1 (m_keepT0 (by omega) ms V20 ok (g20.mt (show ¬((o + 4) = o + 29) by omega) (show ¬((o + 5) = o + 29) by omega) (g18.mt (g16.mt (g14.mt (g12.mt (g10.mt (g8.mt (g6.mt (g4.mt (g2.mt mt)))))))))) (by have := G_21.2.2.1; omega) ((o + 29)) (show SLa o ((o + 29)) by unfold SLa; omega) (show SB V20 o (o + 29) ((((sNu S a.toNat).1) * ((sNu S b.toNat).2), ((sNu S b.toNat).1) * ((sNu S a.toNat).2), ((sNu S a.toNat).2) * ((sNu S b.toNat).2), 0)) (60) from ⟨_, _, _, _, s20, ((g20.rb (g18.rb (g16.rb (g14.rb (g12.rb (g10.rb (g8.rb xp6))))))).up (by omega)), ((g20.rb (g18.rb (g16.rb (g14.rb xp12)))).up (by omega)), ((g20.rb xp18).up (by omega)), (xp20.up (by omega))⟩) (by omega)) ?_
        rintro r22 _ ⟨V22, rfl, k22, e22, m22⟩
        refine g_iret rfl ?_
        have es : step0M S a b = keepM S 0 (some ((((sNu S a.toNat).1) * ((sNu S b.toNat).2), ((sNu S b.toNat).1) * ((sNu S a.toNat).2), ((sNu S a.toNat).2) * ((sNu S b.toNat).2), 0))) := by unfold step0M; rw [if_pos (by omega)]
        rw [es]
        exact ⟨_, rfl, (Gs.km (G_21.wide (fun q hq => by have hq : q = o + 29 := hq; show o + 24 ≤ q ∧ q ≤ o + 31; omega)) k22 (T := fun q => o + 24 ≤ q ∧ q ≤ o + 31) (fun q hq => by have hq : q = o + 29 := hq; omega)).fr (fun q hq => hq) eV0, e22, m22⟩
      · skip
        refine g_iconst rfl ?_
        refine g_iret rfl ?_
        have es : step0M S a b = (-1, S) := by unfold step0M; rw [if_neg (by omega)]
        rw [es]
        exact ⟨V0, rfl, (KM.of (G0.wide (fun q hq => by have hq : q = o + 29 := hq; show o + 24 ≤ q ∧ q ≤ o + 31; omega))).fr (T := fun q => o + 24 ≤ q ∧ q ≤ o + 31) (fun q hq => hq) eV0, rfl, mt⟩
