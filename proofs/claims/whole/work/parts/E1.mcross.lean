/-! the reference's geometry: rows put together, crossed, multiplied: printed by wip/whole/e1.py -/
/-- a truth, and a row beside it -/
def BO (V : Nat → Nat → Int) (o p : Nat) (r : Int) (O : Option T4) (k : Nat) : Prop := match O with
  | none => r = 0
  | some P => r = 1 ∧ SB V o p P k
theorem m_put {w : aW} {d : Nat} (hd : 3 ≤ d) {h : aH} {o : Nat} (ms : MS h o) (V : Nat → Nat → Int) (hF : 0 ≤ V o 1 ∧ V o 1 + 1 ≤ 700) (t : Nat) (ht : SLa o t) (a b c : Nat) : WP w d 286 [aO (some o), aO (some t), aI (a : Int), aI (b : Int), aI (c : Int)] (hw h V) (RN (fun h1 => ∃ V1, h1 = hw h V1 ∧ ∃ p, Gs V V1 o 1 (fun q => q = t) ∧ SA V1 t a b c p ∧ RB V1 o p 0 0)) := by
  obtain ⟨d, rfl⟩ : ∃ d1, d = d1 + 1 := ⟨d - 1, by omega⟩
  have hs := ht
  unfold SLa at hs
  refine WP.enter (cd := cd_X12_put) rfl ?_
  have hls : largs 0 [aO (some o), aO (some t), aI (a : Int), aI (b : Int), aI (c : Int)] = [(0, aO (some o)), (1, aO (some t)), (2, aI (a : Int)), (3, aI (b : Int)), (4, aI (c : Int))] := rfl
  rw [hls]
  clear hls
  refine g_aload_n rfl rfl ?_
  refine g_iconst rfl ?_
  refine g_iload_n rfl rfl ?_
  refine g_iast (i := 0) rfl (ms.slot ht) (by omega) (by omega) ?_
  refine g_aload_n rfl rfl ?_
  refine g_iconst rfl ?_
  refine g_iload_n rfl rfl ?_
  refine g_iast (i := 1) rfl (ms.slot ht) (by omega) (by omega) ?_
  refine g_aload_n rfl rfl ?_
  refine g_iconst rfl ?_
  refine g_iload rfl rfl ?_
  refine g_iast (i := 2) rfl (ms.slot ht) (by omega) (by omega) ?_
  obtain ⟨W, eW⟩ : ∃ W, W = vset (vset (vset V t 0 (a : Int)) t 1 (b : Int)) t 2 (c : Int) := ⟨_, rfl⟩
  refine g_hp (h2 := hw h W) (by rw [eW]; rfl) ?_
  have gW : Gs V W o 0 (fun q => q = t) := by
    rw [eW]
    exact ((Gs.cell ht).trans (Gs.cell ht)).trans (Gs.cell ht)
  have hW0 : W t 0 = (a : Int) := by rw [eW, vset_ne _ _ _ _ (by omega), vset_ne _ _ _ _ (by omega), vset_eq]
  have hW1 : W t 1 = (b : Int) := by rw [eW, vset_ne _ _ _ _ (by omega), vset_eq]
  have hW2 : W t 2 = (c : Int) := by rw [eW, vset_eq]
  refine g_aload_n rfl rfl ?_
  refine g_iconst rfl ?_
  refine g_aload_n rfl rfl ?_
  refine g_lconst0 rfl ?_
  refine g_callVI [aJ 0] [aI 3, aO (some t)] rfl rfl rfl rfl (Nat.le_of_ble_eq_true rfl) ms.1 (r_num (by omega) ms W (by have := gW.2.2.1; omega) 0 (by omega) 0 (by decide)) ?_
  rintro _ _ ⟨p, rfl, W1, rfl, g1, x1⟩
  have e1 : W1 t = W t := g1.1 t (by omega) (by omega)
  refine g_iast (i := 3) rfl (ms.slot ht) (by omega) (by omega) ?_
  refine g_vret rfl ?_
  refine ⟨vset W1 t 3 (p : Int), rfl, p, (gW.trans (g1.gs _)).trans (Gs.cell ht), ⟨?_, ?_, ?_, vset_eq _ _ _ _⟩, (Gs.cell ht).rb x1⟩
  · rw [vset_ne _ _ _ _ (by omega), e1]; exact hW0
  · rw [vset_ne _ _ _ _ (by omega), e1]; exact hW1
  · rw [vset_ne _ _ _ _ (by omega), e1]; exact hW2
def m_cross_S (P : T4) (Q : T4) : T4 := ((P.2.1 * Q.2.2.1) - (P.2.2.1 * Q.2.1), (P.2.2.1 * Q.1) - (P.1 * Q.2.2.1), (P.1 * Q.2.1) - (P.2.1 * Q.1), 0)
set_option maxHeartbeats 4000000 in
theorem m_cross {w : aW} {d : Nat} (hd : 6 ≤ d) {k : Nat} {h : aH} {o : Nat} (ms : MS h o) (V : Nat → Nat → Int) (hF : 0 ≤ V o 1 ∧ V o 1 + 10 ≤ 700) {P : T4} (aP : Nat) (hP : SLa o aP) (tP : SB V o aP P (k)) {Q : T4} (aQ : Nat) (hQ : SLa o aQ) (tQ : SB V o aQ Q (k)) (aU : Nat) (hU : SLa o aU)  (hk : k ≤ 190) : WP w d 291 [aO (some o), aO (some aP), aO (some aQ), aO (some aU)] (hw h V) (RN (fun h1 => ∃ V1, h1 = hw h V1 ∧ Gs V V1 o 10 (fun q => q = aU) ∧ SB V1 o aU (m_cross_S P Q) (2 * k + 1))) := by
  obtain ⟨d, rfl⟩ : ∃ d1, d = d1 + 1 := ⟨d - 1, by omega⟩
  refine WP.enter (cd := cd_X12_cross) rfl ?_
  have G0 := Gs.refl V o (fun q => q = aU)
  obtain ⟨Pp, Pq, Pr, Ps, sP, xPp, xPq, xPr, xPs⟩ := tP
  obtain ⟨Qp, Qq, Qr, Qs, sQ, xQp, xQq, xQr, xQs⟩ := tQ
  have hs_P := hP
  unfold SLa at hs_P
  have hs_Q := hQ
  unfold SLa at hs_Q
  have hs_U := hU
  unfold SLa at hs_U
  have hls : largs 0 [aO (some o), aO (some aP), aO (some aQ), aO (some aU)] = [(0, aO (some o)), (1, aO (some aP)), (2, aO (some aQ)), (3, aO (some aU))] := rfl
  rw [hls]
  clear hls
  refine g_aload_n rfl rfl ?_
  refine g_aload_n rfl rfl ?_
  refine g_aload_n rfl rfl ?_
  refine g_iconst rfl ?_
  refine g_iald (i := 1) rfl (ms.slot hP) (by omega) (by omega) ?_
  refine g_top (v2 := aI ((Pq : Int))) (congrArg aI (by exact sP.2.1)) ?_
  refine g_aload_n rfl rfl ?_
  refine g_iconst rfl ?_
  refine g_iald (i := 2) rfl (ms.slot hQ) (by omega) (by omega) ?_
  refine g_top (v2 := aI ((Qr : Int))) (congrArg aI (by exact sQ.2.2.1)) ?_
  refine g_callVI [aI ((Pq : Int)), aI ((Qr : Int))] [aO (some o)] rfl rfl rfl rfl (Nat.le_of_ble_eq_true rfl) ms.1 (r_mul (by omega) ms V (by have := G0.2.2.1; omega) xPq xQr (by omega)) ?_
  rintro _ _ ⟨p1, rfl, V1, rfl, g1, xp1⟩
  have G_2 := G0.trans (g1.gs _)
  refine g_aload_n rfl rfl ?_
  refine g_aload_n rfl rfl ?_
  refine g_iconst rfl ?_
  refine g_iald (i := 2) rfl (ms.slot hP) (by omega) (by omega) ?_
  refine g_top (v2 := aI ((Pr : Int))) (congrArg aI (by exact (g1.sa hP sP).2.2.1)) ?_
  refine g_aload_n rfl rfl ?_
  refine g_iconst rfl ?_
  refine g_iald (i := 1) rfl (ms.slot hQ) (by omega) (by omega) ?_
  refine g_top (v2 := aI ((Qq : Int))) (congrArg aI (by exact (g1.sa hQ sQ).2.1)) ?_
  refine g_callVI [aI ((Pr : Int)), aI ((Qq : Int))] [aI ((p1 : Int)), aO (some o)] rfl rfl rfl rfl (Nat.le_of_ble_eq_true rfl) ms.1 (r_mul (by omega) ms V1 (by have := G_2.2.2.1; omega) (g1.rb xPr) (g1.rb xQq) (by omega)) ?_
  rintro _ _ ⟨p3, rfl, V3, rfl, g3, xp3⟩
  have G_4 := G_2.trans (g3.gs _)
  refine g_callVI [aI ((p1 : Int)), aI ((p3 : Int))] [] rfl rfl rfl rfl (Nat.le_of_ble_eq_true rfl) ms.1 (r_sub (by omega) ms V3 (by have := G_4.2.2.1; omega) (g3.rb xp1) xp3 (2 * k + 1) (by omega) (by omega) (by omega)) ?_
  rintro _ _ ⟨p5, rfl, V5, rfl, g5, xp5⟩
  have G_6 := G_4.trans (g5.gs _)
  refine g_istore (l1 := [(4, aI ((p5 : Int))), (0, aO (some o)), (1, aO (some aP)), (2, aO (some aQ)), (3, aO (some aU))]) rfl rfl ?_
  refine g_aload_n rfl rfl ?_
  refine g_aload_n rfl rfl ?_
  refine g_aload_n rfl rfl ?_
  refine g_iconst rfl ?_
  refine g_iald (i := 2) rfl (ms.slot hP) (by omega) (by omega) ?_
  refine g_top (v2 := aI ((Pr : Int))) (congrArg aI (by exact (g5.sa hP (g3.sa hP (g1.sa hP sP))).2.2.1)) ?_
  refine g_aload_n rfl rfl ?_
  refine g_iconst rfl ?_
  refine g_iald (i := 0) rfl (ms.slot hQ) (by omega) (by omega) ?_
  refine g_top (v2 := aI ((Qp : Int))) (congrArg aI (by exact (g5.sa hQ (g3.sa hQ (g1.sa hQ sQ))).1)) ?_
  refine g_callVI [aI ((Pr : Int)), aI ((Qp : Int))] [aO (some o)] rfl rfl rfl rfl (Nat.le_of_ble_eq_true rfl) ms.1 (r_mul (by omega) ms V5 (by have := G_6.2.2.1; omega) (g5.rb (g3.rb (g1.rb xPr))) (g5.rb (g3.rb (g1.rb xQp))) (by omega)) ?_
  rintro _ _ ⟨p7, rfl, V7, rfl, g7, xp7⟩
  have G_8 := G_6.trans (g7.gs _)
  refine g_aload_n rfl rfl ?_
  refine g_aload_n rfl rfl ?_
  refine g_iconst rfl ?_
  refine g_iald (i := 0) rfl (ms.slot hP) (by omega) (by omega) ?_
  refine g_top (v2 := aI ((Pp : Int))) (congrArg aI (by exact (g7.sa hP (g5.sa hP (g3.sa hP (g1.sa hP sP)))).1)) ?_
  refine g_aload_n rfl rfl ?_
  refine g_iconst rfl ?_
  refine g_iald (i := 2) rfl (ms.slot hQ) (by omega) (by omega) ?_
  refine g_top (v2 := aI ((Qr : Int))) (congrArg aI (by exact (g7.sa hQ (g5.sa hQ (g3.sa hQ (g1.sa hQ sQ)))).2.2.1)) ?_
  refine g_callVI [aI ((Pp : Int)), aI ((Qr : Int))] [aI ((p7 : Int)), aO (some o)] rfl rfl rfl rfl (Nat.le_of_ble_eq_true rfl) ms.1 (r_mul (by omega) ms V7 (by have := G_8.2.2.1; omega) (g7.rb (g5.rb (g3.rb (g1.rb xPp)))) (g7.rb (g5.rb (g3.rb (g1.rb xQr)))) (by omega)) ?_
  rintro _ _ ⟨p9, rfl, V9, rfl, g9, xp9⟩
  have G_10 := G_8.trans (g9.gs _)
  refine g_callVI [aI ((p7 : Int)), aI ((p9 : Int))] [] rfl rfl rfl rfl (Nat.le_of_ble_eq_true rfl) ms.1 (r_sub (by omega) ms V9 (by have := G_10.2.2.1; omega) (g9.rb xp7) xp9 (2 * k + 1) (by omega) (by omega) (by omega)) ?_
  rintro _ _ ⟨p11, rfl, V11, rfl, g11, xp11⟩
  have G_12 := G_10.trans (g11.gs _)
  refine g_istore (l1 := [(5, aI ((p11 : Int))), (4, aI ((p5 : Int))), (0, aO (some o)), (1, aO (some aP)), (2, aO (some aQ)), (3, aO (some aU))]) rfl rfl ?_
  refine g_aload_n rfl rfl ?_
  refine g_aload_n rfl rfl ?_
  refine g_aload_n rfl rfl ?_
  refine g_iconst rfl ?_
  refine g_iald (i := 0) rfl (ms.slot hP) (by omega) (by omega) ?_
  refine g_top (v2 := aI ((Pp : Int))) (congrArg aI (by exact (g11.sa hP (g9.sa hP (g7.sa hP (g5.sa hP (g3.sa hP (g1.sa hP sP)))))).1)) ?_
  refine g_aload_n rfl rfl ?_
  refine g_iconst rfl ?_
  refine g_iald (i := 1) rfl (ms.slot hQ) (by omega) (by omega) ?_
  refine g_top (v2 := aI ((Qq : Int))) (congrArg aI (by exact (g11.sa hQ (g9.sa hQ (g7.sa hQ (g5.sa hQ (g3.sa hQ (g1.sa hQ sQ)))))).2.1)) ?_
  refine g_callVI [aI ((Pp : Int)), aI ((Qq : Int))] [aO (some o)] rfl rfl rfl rfl (Nat.le_of_ble_eq_true rfl) ms.1 (r_mul (by omega) ms V11 (by have := G_12.2.2.1; omega) (g11.rb (g9.rb (g7.rb (g5.rb (g3.rb (g1.rb xPp)))))) (g11.rb (g9.rb (g7.rb (g5.rb (g3.rb (g1.rb xQq)))))) (by omega)) ?_
  rintro _ _ ⟨p13, rfl, V13, rfl, g13, xp13⟩
  have G_14 := G_12.trans (g13.gs _)
  refine g_aload_n rfl rfl ?_
  refine g_aload_n rfl rfl ?_
  refine g_iconst rfl ?_
  refine g_iald (i := 1) rfl (ms.slot hP) (by omega) (by omega) ?_
  refine g_top (v2 := aI ((Pq : Int))) (congrArg aI (by exact (g13.sa hP (g11.sa hP (g9.sa hP (g7.sa hP (g5.sa hP (g3.sa hP (g1.sa hP sP))))))).2.1)) ?_
  refine g_aload_n rfl rfl ?_
  refine g_iconst rfl ?_
  refine g_iald (i := 0) rfl (ms.slot hQ) (by omega) (by omega) ?_
  refine g_top (v2 := aI ((Qp : Int))) (congrArg aI (by exact (g13.sa hQ (g11.sa hQ (g9.sa hQ (g7.sa hQ (g5.sa hQ (g3.sa hQ (g1.sa hQ sQ))))))).1)) ?_
  refine g_callVI [aI ((Pq : Int)), aI ((Qp : Int))] [aI ((p13 : Int)), aO (some o)] rfl rfl rfl rfl (Nat.le_of_ble_eq_true rfl) ms.1 (r_mul (by omega) ms V13 (by have := G_14.2.2.1; omega) (g13.rb (g11.rb (g9.rb (g7.rb (g5.rb (g3.rb (g1.rb xPq))))))) (g13.rb (g11.rb (g9.rb (g7.rb (g5.rb (g3.rb (g1.rb xQp))))))) (by omega)) ?_
  rintro _ _ ⟨p15, rfl, V15, rfl, g15, xp15⟩
  have G_16 := G_14.trans (g15.gs _)
  refine g_callVI [aI ((p13 : Int)), aI ((p15 : Int))] [] rfl rfl rfl rfl (Nat.le_of_ble_eq_true rfl) ms.1 (r_sub (by omega) ms V15 (by have := G_16.2.2.1; omega) (g15.rb xp13) xp15 (2 * k + 1) (by omega) (by omega) (by omega)) ?_
  rintro _ _ ⟨p17, rfl, V17, rfl, g17, xp17⟩
  have G_18 := G_16.trans (g17.gs _)
  refine g_istore (l1 := [(6, aI ((p17 : Int))), (5, aI ((p11 : Int))), (4, aI ((p5 : Int))), (0, aO (some o)), (1, aO (some aP)), (2, aO (some aQ)), (3, aO (some aU))]) rfl rfl ?_
  refine g_aload_n rfl rfl ?_
  refine g_aload_n rfl rfl ?_
  refine g_iload rfl rfl ?_
  refine g_iload rfl rfl ?_
  refine g_iload rfl rfl ?_
  refine g_callVN [aO (some aU), aI ((p5 : Int)), aI ((p11 : Int)), aI ((p17 : Int))] [] rfl rfl rfl rfl (Nat.le_of_ble_eq_true rfl) ms.1 (m_put (by omega) ms V17 (by have := G_18.2.2.1; omega) aU hU p5 p11 p17) ?_
  rintro _ ⟨V19, rfl, p19, g19, s19, xp19⟩
  have G_20 := G_18.trans (g19.wide (fun q hq => by have hq : q = aU := hq; show q = aU; omega))
  refine g_vret rfl ?_
  exact ⟨V19, rfl, G_20.mono (by omega), _, _, _, _, s19, ((g19.rb (g17.rb (g15.rb (g13.rb (g11.rb (g9.rb (g7.rb xp5))))))).up (by omega)), ((g19.rb (g17.rb (g15.rb (g13.rb xp11)))).up (by omega)), ((g19.rb xp17).up (by omega)), (xp19.up (by omega))⟩
def m_dot_S (P : T4) (Q : T4) : Int := ((P.1 * Q.1) + (P.2.1 * Q.2.1)) + (P.2.2.1 * Q.2.2.1)
set_option maxHeartbeats 4000000 in
theorem m_dot {w : aW} {d : Nat} (hd : 6 ≤ d) {k : Nat} {h : aH} {o : Nat} (ms : MS h o) (V : Nat → Nat → Int) (hF : 0 ≤ V o 1 ∧ V o 1 + 5 ≤ 700) {P : T4} (aP : Nat) (hP : SLa o aP) (tP : SB V o aP P (k)) {Q : T4} (aQ : Nat) (hQ : SLa o aQ) (tQ : SB V o aQ Q (k))  (hk : k ≤ 190) : WP w d 292 [aO (some o), aO (some aP), aO (some aQ)] (hw h V) (RI (fun r h1 => ∃ p : Nat, r = p ∧ ∃ V1, h1 = hw h V1 ∧ Gm V V1 o 5 ∧ RB V1 o p (m_dot_S P Q) (2 * k + 2))) := by
  obtain ⟨d, rfl⟩ : ∃ d1, d = d1 + 1 := ⟨d - 1, by omega⟩
  refine WP.enter (cd := cd_X12_dot) rfl ?_
  have G0 := Gs.refl V o (fun _ => False)
  obtain ⟨Pp, Pq, Pr, Ps, sP, xPp, xPq, xPr, xPs⟩ := tP
  obtain ⟨Qp, Qq, Qr, Qs, sQ, xQp, xQq, xQr, xQs⟩ := tQ
  have hs_P := hP
  unfold SLa at hs_P
  have hs_Q := hQ
  unfold SLa at hs_Q
  have hls : largs 0 [aO (some o), aO (some aP), aO (some aQ)] = [(0, aO (some o)), (1, aO (some aP)), (2, aO (some aQ))] := rfl
  rw [hls]
  clear hls
  refine g_aload_n rfl rfl ?_
  refine g_aload_n rfl rfl ?_
  refine g_aload_n rfl rfl ?_
  refine g_aload_n rfl rfl ?_
  refine g_iconst rfl ?_
  refine g_iald (i := 0) rfl (ms.slot hP) (by omega) (by omega) ?_
  refine g_top (v2 := aI ((Pp : Int))) (congrArg aI (by exact sP.1)) ?_
  refine g_aload_n rfl rfl ?_
  refine g_iconst rfl ?_
  refine g_iald (i := 0) rfl (ms.slot hQ) (by omega) (by omega) ?_
  refine g_top (v2 := aI ((Qp : Int))) (congrArg aI (by exact sQ.1)) ?_
  refine g_callVI [aI ((Pp : Int)), aI ((Qp : Int))] [aO (some o), aO (some o)] rfl rfl rfl rfl (Nat.le_of_ble_eq_true rfl) ms.1 (r_mul (by omega) ms V (by have := G0.2.2.1; omega) xPp xQp (by omega)) ?_
  rintro _ _ ⟨p1, rfl, V1, rfl, g1, xp1⟩
  have G_2 := G0.trans (g1.gs _)
  refine g_aload_n rfl rfl ?_
  refine g_aload_n rfl rfl ?_
  refine g_iconst rfl ?_
  refine g_iald (i := 1) rfl (ms.slot hP) (by omega) (by omega) ?_
  refine g_top (v2 := aI ((Pq : Int))) (congrArg aI (by exact (g1.sa hP sP).2.1)) ?_
  refine g_aload_n rfl rfl ?_
  refine g_iconst rfl ?_
  refine g_iald (i := 1) rfl (ms.slot hQ) (by omega) (by omega) ?_
  refine g_top (v2 := aI ((Qq : Int))) (congrArg aI (by exact (g1.sa hQ sQ).2.1)) ?_
  refine g_callVI [aI ((Pq : Int)), aI ((Qq : Int))] [aI ((p1 : Int)), aO (some o), aO (some o)] rfl rfl rfl rfl (Nat.le_of_ble_eq_true rfl) ms.1 (r_mul (by omega) ms V1 (by have := G_2.2.2.1; omega) (g1.rb xPq) (g1.rb xQq) (by omega)) ?_
  rintro _ _ ⟨p3, rfl, V3, rfl, g3, xp3⟩
  have G_4 := G_2.trans (g3.gs _)
  refine g_callVI [aI ((p1 : Int)), aI ((p3 : Int))] [aO (some o)] rfl rfl rfl rfl (Nat.le_of_ble_eq_true rfl) ms.1 (r_add (by omega) ms V3 (by have := G_4.2.2.1; omega) (g3.rb xp1) xp3 (2 * k + 1) (by omega) (by omega) (by omega)) ?_
  rintro _ _ ⟨p5, rfl, V5, rfl, g5, xp5⟩
  have G_6 := G_4.trans (g5.gs _)
  refine g_aload_n rfl rfl ?_
  refine g_aload_n rfl rfl ?_
  refine g_iconst rfl ?_
  refine g_iald (i := 2) rfl (ms.slot hP) (by omega) (by omega) ?_
  refine g_top (v2 := aI ((Pr : Int))) (congrArg aI (by exact (g5.sa hP (g3.sa hP (g1.sa hP sP))).2.2.1)) ?_
  refine g_aload_n rfl rfl ?_
  refine g_iconst rfl ?_
  refine g_iald (i := 2) rfl (ms.slot hQ) (by omega) (by omega) ?_
  refine g_top (v2 := aI ((Qr : Int))) (congrArg aI (by exact (g5.sa hQ (g3.sa hQ (g1.sa hQ sQ))).2.2.1)) ?_
  refine g_callVI [aI ((Pr : Int)), aI ((Qr : Int))] [aI ((p5 : Int)), aO (some o)] rfl rfl rfl rfl (Nat.le_of_ble_eq_true rfl) ms.1 (r_mul (by omega) ms V5 (by have := G_6.2.2.1; omega) (g5.rb (g3.rb (g1.rb xPr))) (g5.rb (g3.rb (g1.rb xQr))) (by omega)) ?_
  rintro _ _ ⟨p7, rfl, V7, rfl, g7, xp7⟩
  have G_8 := G_6.trans (g7.gs _)
  refine g_callVI [aI ((p5 : Int)), aI ((p7 : Int))] [] rfl rfl rfl rfl (Nat.le_of_ble_eq_true rfl) ms.1 (r_add (by omega) ms V7 (by have := G_8.2.2.1; omega) (g7.rb xp5) xp7 (2 * k + 2) (by omega) (by omega) (by omega)) ?_
  rintro _ _ ⟨p9, rfl, V9, rfl, g9, xp9⟩
  have G_10 := G_8.trans (g9.gs _)
  refine g_iret rfl ?_
  exact ⟨p9, rfl, V9, rfl, (G_10.mono (by omega)).gm, (xp9.up (by omega))⟩
def m_det_S (P : T4) (Q : T4) (R : T4) : Int := ((P.1 * ((Q.2.1 * R.2.2.1) - (Q.2.2.1 * R.2.1))) + (P.2.1 * ((Q.2.2.1 * R.1) - (Q.1 * R.2.2.1)))) + (P.2.2.1 * ((Q.1 * R.2.1) - (Q.2.1 * R.1)))
set_option maxHeartbeats 4000000 in
theorem m_det {w : aW} {d : Nat} (hd : 6 ≤ d) {h : aH} {o : Nat} (ms : MS h o) (V : Nat → Nat → Int) (hF : 0 ≤ V o 1 ∧ V o 1 + 14 ≤ 700) {P : T4} (aP : Nat) (hP : SLa o aP) (tP : SB V o aP P (20)) {Q : T4} (aQ : Nat) (hQ : SLa o aQ) (tQ : SB V o aQ Q (20)) {R : T4} (aR : Nat) (hR : SLa o aR) (tR : SB V o aR R (20))  : WP w d 293 [aO (some o), aO (some aP), aO (some aQ), aO (some aR)] (hw h V) (RI (fun r h1 => ∃ p : Nat, r = p ∧ ∃ V1, h1 = hw h V1 ∧ Gm V V1 o 14 ∧ RB V1 o p (m_det_S P Q R) (63))) := by
  obtain ⟨d, rfl⟩ : ∃ d1, d = d1 + 1 := ⟨d - 1, by omega⟩
  refine WP.enter (cd := cd_X12_determinant) rfl ?_
  have G0 := Gs.refl V o (fun _ => False)
  obtain ⟨Pp, Pq, Pr, Ps, sP, xPp, xPq, xPr, xPs⟩ := tP
  obtain ⟨Qp, Qq, Qr, Qs, sQ, xQp, xQq, xQr, xQs⟩ := tQ
  obtain ⟨Rp, Rq, Rr, Rs, sR, xRp, xRq, xRr, xRs⟩ := tR
  have hs_P := hP
  unfold SLa at hs_P
  have hs_Q := hQ
  unfold SLa at hs_Q
  have hs_R := hR
  unfold SLa at hs_R
  have hls : largs 0 [aO (some o), aO (some aP), aO (some aQ), aO (some aR)] = [(0, aO (some o)), (1, aO (some aP)), (2, aO (some aQ)), (3, aO (some aR))] := rfl
  rw [hls]
  clear hls
  refine g_aload_n rfl rfl ?_
  refine g_aload_n rfl rfl ?_
  refine g_iconst rfl ?_
  refine g_iald (i := 0) rfl (ms.slot hP) (by omega) (by omega) ?_
  refine g_top (v2 := aI ((Pp : Int))) (congrArg aI (by exact sP.1)) ?_
  refine g_aload_n rfl rfl ?_
  refine g_aload_n rfl rfl ?_
  refine g_aload_n rfl rfl ?_
  refine g_iconst rfl ?_
  refine g_iald (i := 1) rfl (ms.slot hQ) (by omega) (by omega) ?_
  refine g_top (v2 := aI ((Qq : Int))) (congrArg aI (by exact sQ.2.1)) ?_
  refine g_aload_n rfl rfl ?_
  refine g_iconst rfl ?_
  refine g_iald (i := 2) rfl (ms.slot hR) (by omega) (by omega) ?_
  refine g_top (v2 := aI ((Rr : Int))) (congrArg aI (by exact sR.2.2.1)) ?_
  refine g_callVI [aI ((Qq : Int)), aI ((Rr : Int))] [aO (some o), aI ((Pp : Int)), aO (some o)] rfl rfl rfl rfl (Nat.le_of_ble_eq_true rfl) ms.1 (r_mul (by omega) ms V (by have := G0.2.2.1; omega) xQq xRr (by omega)) ?_
  rintro _ _ ⟨p1, rfl, V1, rfl, g1, xp1⟩
  have G_2 := G0.trans (g1.gs _)
  refine g_aload_n rfl rfl ?_
  refine g_aload_n rfl rfl ?_
  refine g_iconst rfl ?_
  refine g_iald (i := 2) rfl (ms.slot hQ) (by omega) (by omega) ?_
  refine g_top (v2 := aI ((Qr : Int))) (congrArg aI (by exact (g1.sa hQ sQ).2.2.1)) ?_
  refine g_aload_n rfl rfl ?_
  refine g_iconst rfl ?_
  refine g_iald (i := 1) rfl (ms.slot hR) (by omega) (by omega) ?_
  refine g_top (v2 := aI ((Rq : Int))) (congrArg aI (by exact (g1.sa hR sR).2.1)) ?_
  refine g_callVI [aI ((Qr : Int)), aI ((Rq : Int))] [aI ((p1 : Int)), aO (some o), aI ((Pp : Int)), aO (some o)] rfl rfl rfl rfl (Nat.le_of_ble_eq_true rfl) ms.1 (r_mul (by omega) ms V1 (by have := G_2.2.2.1; omega) (g1.rb xQr) (g1.rb xRq) (by omega)) ?_
  rintro _ _ ⟨p3, rfl, V3, rfl, g3, xp3⟩
  have G_4 := G_2.trans (g3.gs _)
  refine g_callVI [aI ((p1 : Int)), aI ((p3 : Int))] [aI ((Pp : Int)), aO (some o)] rfl rfl rfl rfl (Nat.le_of_ble_eq_true rfl) ms.1 (r_sub (by omega) ms V3 (by have := G_4.2.2.1; omega) (g3.rb xp1) xp3 (41) (by omega) (by omega) (by omega)) ?_
  rintro _ _ ⟨p5, rfl, V5, rfl, g5, xp5⟩
  have G_6 := G_4.trans (g5.gs _)
  refine g_callVI [aI ((Pp : Int)), aI ((p5 : Int))] [] rfl rfl rfl rfl (Nat.le_of_ble_eq_true rfl) ms.1 (r_mul (by omega) ms V5 (by have := G_6.2.2.1; omega) (g5.rb (g3.rb (g1.rb xPp))) xp5 (by omega)) ?_
  rintro _ _ ⟨p7, rfl, V7, rfl, g7, xp7⟩
  have G_8 := G_6.trans (g7.gs _)
  refine g_istore (l1 := [(4, aI ((p7 : Int))), (0, aO (some o)), (1, aO (some aP)), (2, aO (some aQ)), (3, aO (some aR))]) rfl rfl ?_
  refine g_aload_n rfl rfl ?_
  refine g_aload_n rfl rfl ?_
  refine g_iconst rfl ?_
  refine g_iald (i := 1) rfl (ms.slot hP) (by omega) (by omega) ?_
  refine g_top (v2 := aI ((Pq : Int))) (congrArg aI (by exact (g7.sa hP (g5.sa hP (g3.sa hP (g1.sa hP sP)))).2.1)) ?_
  refine g_aload_n rfl rfl ?_
  refine g_aload_n rfl rfl ?_
  refine g_aload_n rfl rfl ?_
  refine g_iconst rfl ?_
  refine g_iald (i := 2) rfl (ms.slot hQ) (by omega) (by omega) ?_
  refine g_top (v2 := aI ((Qr : Int))) (congrArg aI (by exact (g7.sa hQ (g5.sa hQ (g3.sa hQ (g1.sa hQ sQ)))).2.2.1)) ?_
  refine g_aload_n rfl rfl ?_
  refine g_iconst rfl ?_
  refine g_iald (i := 0) rfl (ms.slot hR) (by omega) (by omega) ?_
  refine g_top (v2 := aI ((Rp : Int))) (congrArg aI (by exact (g7.sa hR (g5.sa hR (g3.sa hR (g1.sa hR sR)))).1)) ?_
  refine g_callVI [aI ((Qr : Int)), aI ((Rp : Int))] [aO (some o), aI ((Pq : Int)), aO (some o)] rfl rfl rfl rfl (Nat.le_of_ble_eq_true rfl) ms.1 (r_mul (by omega) ms V7 (by have := G_8.2.2.1; omega) (g7.rb (g5.rb (g3.rb (g1.rb xQr)))) (g7.rb (g5.rb (g3.rb (g1.rb xRp)))) (by omega)) ?_
  rintro _ _ ⟨p9, rfl, V9, rfl, g9, xp9⟩
  have G_10 := G_8.trans (g9.gs _)
  refine g_aload_n rfl rfl ?_
  refine g_aload_n rfl rfl ?_
  refine g_iconst rfl ?_
  refine g_iald (i := 0) rfl (ms.slot hQ) (by omega) (by omega) ?_
  refine g_top (v2 := aI ((Qp : Int))) (congrArg aI (by exact (g9.sa hQ (g7.sa hQ (g5.sa hQ (g3.sa hQ (g1.sa hQ sQ))))).1)) ?_
  refine g_aload_n rfl rfl ?_
  refine g_iconst rfl ?_
  refine g_iald (i := 2) rfl (ms.slot hR) (by omega) (by omega) ?_
  refine g_top (v2 := aI ((Rr : Int))) (congrArg aI (by exact (g9.sa hR (g7.sa hR (g5.sa hR (g3.sa hR (g1.sa hR sR))))).2.2.1)) ?_
  refine g_callVI [aI ((Qp : Int)), aI ((Rr : Int))] [aI ((p9 : Int)), aO (some o), aI ((Pq : Int)), aO (some o)] rfl rfl rfl rfl (Nat.le_of_ble_eq_true rfl) ms.1 (r_mul (by omega) ms V9 (by have := G_10.2.2.1; omega) (g9.rb (g7.rb (g5.rb (g3.rb (g1.rb xQp))))) (g9.rb (g7.rb (g5.rb (g3.rb (g1.rb xRr))))) (by omega)) ?_
  rintro _ _ ⟨p11, rfl, V11, rfl, g11, xp11⟩
  have G_12 := G_10.trans (g11.gs _)
  refine g_callVI [aI ((p9 : Int)), aI ((p11 : Int))] [aI ((Pq : Int)), aO (some o)] rfl rfl rfl rfl (Nat.le_of_ble_eq_true rfl) ms.1 (r_sub (by omega) ms V11 (by have := G_12.2.2.1; omega) (g11.rb xp9) xp11 (41) (by omega) (by omega) (by omega)) ?_
  rintro _ _ ⟨p13, rfl, V13, rfl, g13, xp13⟩
  have G_14 := G_12.trans (g13.gs _)
  refine g_callVI [aI ((Pq : Int)), aI ((p13 : Int))] [] rfl rfl rfl rfl (Nat.le_of_ble_eq_true rfl) ms.1 (r_mul (by omega) ms V13 (by have := G_14.2.2.1; omega) (g13.rb (g11.rb (g9.rb (g7.rb (g5.rb (g3.rb (g1.rb xPq))))))) xp13 (by omega)) ?_
  rintro _ _ ⟨p15, rfl, V15, rfl, g15, xp15⟩
  have G_16 := G_14.trans (g15.gs _)
  refine g_istore (l1 := [(5, aI ((p15 : Int))), (4, aI ((p7 : Int))), (0, aO (some o)), (1, aO (some aP)), (2, aO (some aQ)), (3, aO (some aR))]) rfl rfl ?_
  refine g_aload_n rfl rfl ?_
  refine g_aload_n rfl rfl ?_
  refine g_iconst rfl ?_
  refine g_iald (i := 2) rfl (ms.slot hP) (by omega) (by omega) ?_
  refine g_top (v2 := aI ((Pr : Int))) (congrArg aI (by exact (g15.sa hP (g13.sa hP (g11.sa hP (g9.sa hP (g7.sa hP (g5.sa hP (g3.sa hP (g1.sa hP sP)))))))).2.2.1)) ?_
  refine g_aload_n rfl rfl ?_
  refine g_aload_n rfl rfl ?_
  refine g_aload_n rfl rfl ?_
  refine g_iconst rfl ?_
  refine g_iald (i := 0) rfl (ms.slot hQ) (by omega) (by omega) ?_
  refine g_top (v2 := aI ((Qp : Int))) (congrArg aI (by exact (g15.sa hQ (g13.sa hQ (g11.sa hQ (g9.sa hQ (g7.sa hQ (g5.sa hQ (g3.sa hQ (g1.sa hQ sQ)))))))).1)) ?_
  refine g_aload_n rfl rfl ?_
  refine g_iconst rfl ?_
  refine g_iald (i := 1) rfl (ms.slot hR) (by omega) (by omega) ?_
  refine g_top (v2 := aI ((Rq : Int))) (congrArg aI (by exact (g15.sa hR (g13.sa hR (g11.sa hR (g9.sa hR (g7.sa hR (g5.sa hR (g3.sa hR (g1.sa hR sR)))))))).2.1)) ?_
  refine g_callVI [aI ((Qp : Int)), aI ((Rq : Int))] [aO (some o), aI ((Pr : Int)), aO (some o)] rfl rfl rfl rfl (Nat.le_of_ble_eq_true rfl) ms.1 (r_mul (by omega) ms V15 (by have := G_16.2.2.1; omega) (g15.rb (g13.rb (g11.rb (g9.rb (g7.rb (g5.rb (g3.rb (g1.rb xQp)))))))) (g15.rb (g13.rb (g11.rb (g9.rb (g7.rb (g5.rb (g3.rb (g1.rb xRq)))))))) (by omega)) ?_
  rintro _ _ ⟨p17, rfl, V17, rfl, g17, xp17⟩
  have G_18 := G_16.trans (g17.gs _)
  refine g_aload_n rfl rfl ?_
  refine g_aload_n rfl rfl ?_
  refine g_iconst rfl ?_
  refine g_iald (i := 1) rfl (ms.slot hQ) (by omega) (by omega) ?_
  refine g_top (v2 := aI ((Qq : Int))) (congrArg aI (by exact (g17.sa hQ (g15.sa hQ (g13.sa hQ (g11.sa hQ (g9.sa hQ (g7.sa hQ (g5.sa hQ (g3.sa hQ (g1.sa hQ sQ))))))))).2.1)) ?_
  refine g_aload_n rfl rfl ?_
  refine g_iconst rfl ?_
  refine g_iald (i := 0) rfl (ms.slot hR) (by omega) (by omega) ?_
  refine g_top (v2 := aI ((Rp : Int))) (congrArg aI (by exact (g17.sa hR (g15.sa hR (g13.sa hR (g11.sa hR (g9.sa hR (g7.sa hR (g5.sa hR (g3.sa hR (g1.sa hR sR))))))))).1)) ?_
  refine g_callVI [aI ((Qq : Int)), aI ((Rp : Int))] [aI ((p17 : Int)), aO (some o), aI ((Pr : Int)), aO (some o)] rfl rfl rfl rfl (Nat.le_of_ble_eq_true rfl) ms.1 (r_mul (by omega) ms V17 (by have := G_18.2.2.1; omega) (g17.rb (g15.rb (g13.rb (g11.rb (g9.rb (g7.rb (g5.rb (g3.rb (g1.rb xQq))))))))) (g17.rb (g15.rb (g13.rb (g11.rb (g9.rb (g7.rb (g5.rb (g3.rb (g1.rb xRp))))))))) (by omega)) ?_
  rintro _ _ ⟨p19, rfl, V19, rfl, g19, xp19⟩
  have G_20 := G_18.trans (g19.gs _)
  refine g_callVI [aI ((p17 : Int)), aI ((p19 : Int))] [aI ((Pr : Int)), aO (some o)] rfl rfl rfl rfl (Nat.le_of_ble_eq_true rfl) ms.1 (r_sub (by omega) ms V19 (by have := G_20.2.2.1; omega) (g19.rb xp17) xp19 (41) (by omega) (by omega) (by omega)) ?_
  rintro _ _ ⟨p21, rfl, V21, rfl, g21, xp21⟩
  have G_22 := G_20.trans (g21.gs _)
  refine g_callVI [aI ((Pr : Int)), aI ((p21 : Int))] [] rfl rfl rfl rfl (Nat.le_of_ble_eq_true rfl) ms.1 (r_mul (by omega) ms V21 (by have := G_22.2.2.1; omega) (g21.rb (g19.rb (g17.rb (g15.rb (g13.rb (g11.rb (g9.rb (g7.rb (g5.rb (g3.rb (g1.rb xPr))))))))))) xp21 (by omega)) ?_
  rintro _ _ ⟨p23, rfl, V23, rfl, g23, xp23⟩
  have G_24 := G_22.trans (g23.gs _)
  refine g_istore (l1 := [(6, aI ((p23 : Int))), (5, aI ((p15 : Int))), (4, aI ((p7 : Int))), (0, aO (some o)), (1, aO (some aP)), (2, aO (some aQ)), (3, aO (some aR))]) rfl rfl ?_
  refine g_aload_n rfl rfl ?_
  refine g_aload_n rfl rfl ?_
  refine g_iload rfl rfl ?_
  refine g_iload rfl rfl ?_
  refine g_callVI [aI ((p7 : Int)), aI ((p15 : Int))] [aO (some o)] rfl rfl rfl rfl (Nat.le_of_ble_eq_true rfl) ms.1 (r_add (by omega) ms V23 (by have := G_24.2.2.1; omega) (g23.rb (g21.rb (g19.rb (g17.rb (g15.rb (g13.rb (g11.rb (g9.rb xp7)))))))) (g23.rb (g21.rb (g19.rb (g17.rb xp15)))) (62) (by omega) (by omega) (by omega)) ?_
  rintro _ _ ⟨p25, rfl, V25, rfl, g25, xp25⟩
  have G_26 := G_24.trans (g25.gs _)
  refine g_iload rfl rfl ?_
  refine g_callVI [aI ((p25 : Int)), aI ((p23 : Int))] [] rfl rfl rfl rfl (Nat.le_of_ble_eq_true rfl) ms.1 (r_add (by omega) ms V25 (by have := G_26.2.2.1; omega) xp25 (g25.rb xp23) (63) (by omega) (by omega) (by omega)) ?_
  rintro _ _ ⟨p27, rfl, V27, rfl, g27, xp27⟩
  have G_28 := G_26.trans (g27.gs _)
  refine g_iret rfl ?_
  exact ⟨p27, rfl, V27, rfl, (G_28.mono (by omega)).gm, (xp27.up (by omega))⟩
def m_bulge_S (R : T4) : Int := ((R.2.1 * R.2.1) + (R.2.2.1 * R.2.2.1)) - (4 * R.1 * R.2.2.2)
set_option maxHeartbeats 4000000 in
theorem m_bulge {w : aW} {d : Nat} (hd : 6 ≤ d) {h : aH} {o : Nat} (ms : MS h o) (V : Nat → Nat → Int) (hF : 0 ≤ V o 1 ∧ V o 1 + 7 ≤ 700) {R : T4} (aR : Nat) (hR : SLa o aR) (tR : SB V o aR R (20))  : WP w d 294 [aO (some o), aO (some aR)] (hw h V) (RI (fun r h1 => ∃ p : Nat, r = p ∧ ∃ V1, h1 = hw h V1 ∧ Gm V V1 o 7 ∧ RB V1 o p (m_bulge_S R) (43))) := by
  obtain ⟨d, rfl⟩ : ∃ d1, d = d1 + 1 := ⟨d - 1, by omega⟩
  refine WP.enter (cd := cd_X12_bulge) rfl ?_
  have G0 := Gs.refl V o (fun _ => False)
  obtain ⟨Rp, Rq, Rr, Rs, sR, xRp, xRq, xRr, xRs⟩ := tR
  have hs_R := hR
  unfold SLa at hs_R
  have hls : largs 0 [aO (some o), aO (some aR)] = [(0, aO (some o)), (1, aO (some aR))] := rfl
  rw [hls]
  clear hls
  refine g_aload_n rfl rfl ?_
  refine g_aload_n rfl rfl ?_
  refine g_aload_n rfl rfl ?_
  refine g_aload_n rfl rfl ?_
  refine g_iconst rfl ?_
  refine g_iald (i := 1) rfl (ms.slot hR) (by omega) (by omega) ?_
  refine g_top (v2 := aI ((Rq : Int))) (congrArg aI (by exact sR.2.1)) ?_
  refine g_callVI [aI ((Rq : Int))] [aO (some o), aO (some o)] rfl rfl rfl rfl (Nat.le_of_ble_eq_true rfl) ms.1 (r_square (by omega) ms V (by have := G0.2.2.1; omega) xRq (by omega)) ?_
  rintro _ _ ⟨p1, rfl, V1, rfl, g1, xp1⟩
  have G_2 := G0.trans (g1.gs _)
  refine g_aload_n rfl rfl ?_
  refine g_aload_n rfl rfl ?_
  refine g_iconst rfl ?_
  refine g_iald (i := 2) rfl (ms.slot hR) (by omega) (by omega) ?_
  refine g_top (v2 := aI ((Rr : Int))) (congrArg aI (by exact (g1.sa hR sR).2.2.1)) ?_
  refine g_callVI [aI ((Rr : Int))] [aI ((p1 : Int)), aO (some o), aO (some o)] rfl rfl rfl rfl (Nat.le_of_ble_eq_true rfl) ms.1 (r_square (by omega) ms V1 (by have := G_2.2.2.1; omega) (g1.rb xRr) (by omega)) ?_
  rintro _ _ ⟨p3, rfl, V3, rfl, g3, xp3⟩
  have G_4 := G_2.trans (g3.gs _)
  refine g_callVI [aI ((p1 : Int)), aI ((p3 : Int))] [aO (some o)] rfl rfl rfl rfl (Nat.le_of_ble_eq_true rfl) ms.1 (r_add (by omega) ms V3 (by have := G_4.2.2.1; omega) (g3.rb xp1) xp3 (41) (by omega) (by omega) (by omega)) ?_
  rintro _ _ ⟨p5, rfl, V5, rfl, g5, xp5⟩
  have G_6 := G_4.trans (g5.gs _)
  refine g_aload_n rfl rfl ?_
  refine g_aload_n rfl rfl ?_
  refine g_ldc2 rfl ?_
  refine g_callVI [aJ 4] [aO (some o), aI ((p5 : Int)), aO (some o)] rfl rfl rfl rfl (Nat.le_of_ble_eq_true rfl) ms.1 (r_num (by omega) ms V5 (by have := G_6.2.2.1; omega) 4 (by omega) 2 (by decide)) ?_
  rintro _ _ ⟨p7, rfl, V7, rfl, g7, xp7⟩
  have G_8 := G_6.trans (g7.gs _)
  refine g_aload_n rfl rfl ?_
  refine g_iconst rfl ?_
  refine g_iald (i := 0) rfl (ms.slot hR) (by omega) (by omega) ?_
  refine g_top (v2 := aI ((Rp : Int))) (congrArg aI (by exact (g7.sa hR (g5.sa hR (g3.sa hR (g1.sa hR sR)))).1)) ?_
  refine g_aload_n rfl rfl ?_
  refine g_iconst rfl ?_
  refine g_iald (i := 3) rfl (ms.slot hR) (by omega) (by omega) ?_
  refine g_top (v2 := aI ((Rs : Int))) (congrArg aI (by exact (g7.sa hR (g5.sa hR (g3.sa hR (g1.sa hR sR)))).2.2.2)) ?_
  refine g_callVI [aI ((p7 : Int)), aI ((Rp : Int)), aI ((Rs : Int))] [aI ((p5 : Int)), aO (some o)] rfl rfl rfl rfl (Nat.le_of_ble_eq_true rfl) ms.1 (r_mul3 (by omega) ms V7 (by have := G_8.2.2.1; omega) xp7 (g7.rb (g5.rb (g3.rb (g1.rb xRp)))) (g7.rb (g5.rb (g3.rb (g1.rb xRs)))) (by omega)) ?_
  rintro _ _ ⟨p9, rfl, V9, rfl, g9, xp9⟩
  have G_10 := G_8.trans (g9.gs _)
  refine g_callVI [aI ((p5 : Int)), aI ((p9 : Int))] [] rfl rfl rfl rfl (Nat.le_of_ble_eq_true rfl) ms.1 (r_sub (by omega) ms V9 (by have := G_10.2.2.1; omega) (g9.rb (g7.rb xp5)) xp9 (43) (by omega) (by omega) (by omega)) ?_
  rintro _ _ ⟨p11, rfl, V11, rfl, g11, xp11⟩
  have G_12 := G_10.trans (g11.gs _)
  refine g_iret rfl ?_
  exact ⟨p11, rfl, V11, rfl, (G_12.mono (by omega)).gm, (xp11.up (by omega))⟩
def m_polar_S (P : T4) (R : T4) : T4 := (((2 * R.1) * P.1) + (R.2.1 * P.2.2.1), ((2 * R.1) * P.2.1) + (R.2.2.1 * P.2.2.1), ((R.2.1 * P.1) + (R.2.2.1 * P.2.1)) + (2 * R.2.2.2 * P.2.2.1), 0)
set_option maxHeartbeats 4000000 in
theorem m_polar {w : aW} {d : Nat} (hd : 7 ≤ d) {k : Nat} {h : aH} {o : Nat} (ms : MS h o) (V : Nat → Nat → Int) (hF : 0 ≤ V o 1 ∧ V o 1 + 15 ≤ 700) {P : T4} (aP : Nat) (hP : SLa o aP) (tP : SB V o aP P (k)) {R : T4} (aR : Nat) (hR : SLa o aR) (tR : SB V o aR R (20)) (aU : Nat) (hU : SLa o aU)  (hk : k ≤ 360) : WP w d 295 [aO (some o), aO (some aP), aO (some aR), aO (some aU)] (hw h V) (RN (fun h1 => ∃ V1, h1 = hw h V1 ∧ Gs V V1 o 15 (fun q => q = aU) ∧ SB V1 o aU (m_polar_S P R) (k + 22))) := by
  obtain ⟨d, rfl⟩ : ∃ d1, d = d1 + 1 := ⟨d - 1, by omega⟩
  refine WP.enter (cd := cd_X12_polar) rfl ?_
  have G0 := Gs.refl V o (fun q => q = aU)
  obtain ⟨Pp, Pq, Pr, Ps, sP, xPp, xPq, xPr, xPs⟩ := tP
  obtain ⟨Rp, Rq, Rr, Rs, sR, xRp, xRq, xRr, xRs⟩ := tR
  have hs_P := hP
  unfold SLa at hs_P
  have hs_R := hR
  unfold SLa at hs_R
  have hs_U := hU
  unfold SLa at hs_U
  have hls : largs 0 [aO (some o), aO (some aP), aO (some aR), aO (some aU)] = [(0, aO (some o)), (1, aO (some aP)), (2, aO (some aR)), (3, aO (some aU))] := rfl
  rw [hls]
  clear hls
  refine g_aload_n rfl rfl ?_
  refine g_aload_n rfl rfl ?_
  refine g_iconst rfl ?_
  refine g_iald (i := 0) rfl (ms.slot hR) (by omega) (by omega) ?_
  refine g_top (v2 := aI ((Rp : Int))) (congrArg aI (by exact sR.1)) ?_
  refine g_callVI [aI ((Rp : Int))] [] rfl rfl rfl rfl (Nat.le_of_ble_eq_true rfl) ms.1 (r_twice (by omega) ms V (by have := G0.2.2.1; omega) xRp (by omega)) ?_
  rintro _ _ ⟨p1, rfl, V1, rfl, g1, xp1⟩
  have G_2 := G0.trans (g1.gs _)
  refine g_istore (l1 := [(4, aI ((p1 : Int))), (0, aO (some o)), (1, aO (some aP)), (2, aO (some aR)), (3, aO (some aU))]) rfl rfl ?_
  refine g_aload_n rfl rfl ?_
  refine g_aload_n rfl rfl ?_
  refine g_iload rfl rfl ?_
  refine g_aload_n rfl rfl ?_
  refine g_iconst rfl ?_
  refine g_iald (i := 0) rfl (ms.slot hP) (by omega) (by omega) ?_
  refine g_top (v2 := aI ((Pp : Int))) (congrArg aI (by exact (g1.sa hP sP).1)) ?_
  refine g_callVI [aI ((p1 : Int)), aI ((Pp : Int))] [aO (some o)] rfl rfl rfl rfl (Nat.le_of_ble_eq_true rfl) ms.1 (r_mul (by omega) ms V1 (by have := G_2.2.2.1; omega) xp1 (g1.rb xPp) (by omega)) ?_
  rintro _ _ ⟨p3, rfl, V3, rfl, g3, xp3⟩
  have G_4 := G_2.trans (g3.gs _)
  refine g_aload_n rfl rfl ?_
  refine g_aload_n rfl rfl ?_
  refine g_iconst rfl ?_
  refine g_iald (i := 1) rfl (ms.slot hR) (by omega) (by omega) ?_
  refine g_top (v2 := aI ((Rq : Int))) (congrArg aI (by exact (g3.sa hR (g1.sa hR sR)).2.1)) ?_
  refine g_aload_n rfl rfl ?_
  refine g_iconst rfl ?_
  refine g_iald (i := 2) rfl (ms.slot hP) (by omega) (by omega) ?_
  refine g_top (v2 := aI ((Pr : Int))) (congrArg aI (by exact (g3.sa hP (g1.sa hP sP)).2.2.1)) ?_
  refine g_callVI [aI ((Rq : Int)), aI ((Pr : Int))] [aI ((p3 : Int)), aO (some o)] rfl rfl rfl rfl (Nat.le_of_ble_eq_true rfl) ms.1 (r_mul (by omega) ms V3 (by have := G_4.2.2.1; omega) (g3.rb (g1.rb xRq)) (g3.rb (g1.rb xPr)) (by omega)) ?_
  rintro _ _ ⟨p5, rfl, V5, rfl, g5, xp5⟩
  have G_6 := G_4.trans (g5.gs _)
  refine g_callVI [aI ((p3 : Int)), aI ((p5 : Int))] [] rfl rfl rfl rfl (Nat.le_of_ble_eq_true rfl) ms.1 (r_add (by omega) ms V5 (by have := G_6.2.2.1; omega) (g5.rb xp3) xp5 (k + 22) (by omega) (by omega) (by omega)) ?_
  rintro _ _ ⟨p7, rfl, V7, rfl, g7, xp7⟩
  have G_8 := G_6.trans (g7.gs _)
  refine g_istore (l1 := [(5, aI ((p7 : Int))), (4, aI ((p1 : Int))), (0, aO (some o)), (1, aO (some aP)), (2, aO (some aR)), (3, aO (some aU))]) rfl rfl ?_
  refine g_aload_n rfl rfl ?_
  refine g_aload_n rfl rfl ?_
  refine g_iload rfl rfl ?_
  refine g_aload_n rfl rfl ?_
  refine g_iconst rfl ?_
  refine g_iald (i := 1) rfl (ms.slot hP) (by omega) (by omega) ?_
  refine g_top (v2 := aI ((Pq : Int))) (congrArg aI (by exact (g7.sa hP (g5.sa hP (g3.sa hP (g1.sa hP sP)))).2.1)) ?_
  refine g_callVI [aI ((p1 : Int)), aI ((Pq : Int))] [aO (some o)] rfl rfl rfl rfl (Nat.le_of_ble_eq_true rfl) ms.1 (r_mul (by omega) ms V7 (by have := G_8.2.2.1; omega) (g7.rb (g5.rb (g3.rb xp1))) (g7.rb (g5.rb (g3.rb (g1.rb xPq)))) (by omega)) ?_
  rintro _ _ ⟨p9, rfl, V9, rfl, g9, xp9⟩
  have G_10 := G_8.trans (g9.gs _)
  refine g_aload_n rfl rfl ?_
  refine g_aload_n rfl rfl ?_
  refine g_iconst rfl ?_
  refine g_iald (i := 2) rfl (ms.slot hR) (by omega) (by omega) ?_
  refine g_top (v2 := aI ((Rr : Int))) (congrArg aI (by exact (g9.sa hR (g7.sa hR (g5.sa hR (g3.sa hR (g1.sa hR sR))))).2.2.1)) ?_
  refine g_aload_n rfl rfl ?_
  refine g_iconst rfl ?_
  refine g_iald (i := 2) rfl (ms.slot hP) (by omega) (by omega) ?_
  refine g_top (v2 := aI ((Pr : Int))) (congrArg aI (by exact (g9.sa hP (g7.sa hP (g5.sa hP (g3.sa hP (g1.sa hP sP))))).2.2.1)) ?_
  refine g_callVI [aI ((Rr : Int)), aI ((Pr : Int))] [aI ((p9 : Int)), aO (some o)] rfl rfl rfl rfl (Nat.le_of_ble_eq_true rfl) ms.1 (r_mul (by omega) ms V9 (by have := G_10.2.2.1; omega) (g9.rb (g7.rb (g5.rb (g3.rb (g1.rb xRr))))) (g9.rb (g7.rb (g5.rb (g3.rb (g1.rb xPr))))) (by omega)) ?_
  rintro _ _ ⟨p11, rfl, V11, rfl, g11, xp11⟩
  have G_12 := G_10.trans (g11.gs _)
  refine g_callVI [aI ((p9 : Int)), aI ((p11 : Int))] [] rfl rfl rfl rfl (Nat.le_of_ble_eq_true rfl) ms.1 (r_add (by omega) ms V11 (by have := G_12.2.2.1; omega) (g11.rb xp9) xp11 (k + 22) (by omega) (by omega) (by omega)) ?_
  rintro _ _ ⟨p13, rfl, V13, rfl, g13, xp13⟩
  have G_14 := G_12.trans (g13.gs _)
  refine g_istore (l1 := [(6, aI ((p13 : Int))), (5, aI ((p7 : Int))), (4, aI ((p1 : Int))), (0, aO (some o)), (1, aO (some aP)), (2, aO (some aR)), (3, aO (some aU))]) rfl rfl ?_
  refine g_aload_n rfl rfl ?_
  refine g_aload_n rfl rfl ?_
  refine g_aload_n rfl rfl ?_
  refine g_aload_n rfl rfl ?_
  refine g_iconst rfl ?_
  refine g_iald (i := 1) rfl (ms.slot hR) (by omega) (by omega) ?_
  refine g_top (v2 := aI ((Rq : Int))) (congrArg aI (by exact (g13.sa hR (g11.sa hR (g9.sa hR (g7.sa hR (g5.sa hR (g3.sa hR (g1.sa hR sR))))))).2.1)) ?_
  refine g_aload_n rfl rfl ?_
  refine g_iconst rfl ?_
  refine g_iald (i := 0) rfl (ms.slot hP) (by omega) (by omega) ?_
  refine g_top (v2 := aI ((Pp : Int))) (congrArg aI (by exact (g13.sa hP (g11.sa hP (g9.sa hP (g7.sa hP (g5.sa hP (g3.sa hP (g1.sa hP sP))))))).1)) ?_
  refine g_callVI [aI ((Rq : Int)), aI ((Pp : Int))] [aO (some o), aO (some o)] rfl rfl rfl rfl (Nat.le_of_ble_eq_true rfl) ms.1 (r_mul (by omega) ms V13 (by have := G_14.2.2.1; omega) (g13.rb (g11.rb (g9.rb (g7.rb (g5.rb (g3.rb (g1.rb xRq))))))) (g13.rb (g11.rb (g9.rb (g7.rb (g5.rb (g3.rb (g1.rb xPp))))))) (by omega)) ?_
  rintro _ _ ⟨p15, rfl, V15, rfl, g15, xp15⟩
  have G_16 := G_14.trans (g15.gs _)
  refine g_aload_n rfl rfl ?_
  refine g_aload_n rfl rfl ?_
  refine g_iconst rfl ?_
  refine g_iald (i := 2) rfl (ms.slot hR) (by omega) (by omega) ?_
  refine g_top (v2 := aI ((Rr : Int))) (congrArg aI (by exact (g15.sa hR (g13.sa hR (g11.sa hR (g9.sa hR (g7.sa hR (g5.sa hR (g3.sa hR (g1.sa hR sR)))))))).2.2.1)) ?_
  refine g_aload_n rfl rfl ?_
  refine g_iconst rfl ?_
  refine g_iald (i := 1) rfl (ms.slot hP) (by omega) (by omega) ?_
  refine g_top (v2 := aI ((Pq : Int))) (congrArg aI (by exact (g15.sa hP (g13.sa hP (g11.sa hP (g9.sa hP (g7.sa hP (g5.sa hP (g3.sa hP (g1.sa hP sP)))))))).2.1)) ?_
  refine g_callVI [aI ((Rr : Int)), aI ((Pq : Int))] [aI ((p15 : Int)), aO (some o), aO (some o)] rfl rfl rfl rfl (Nat.le_of_ble_eq_true rfl) ms.1 (r_mul (by omega) ms V15 (by have := G_16.2.2.1; omega) (g15.rb (g13.rb (g11.rb (g9.rb (g7.rb (g5.rb (g3.rb (g1.rb xRr)))))))) (g15.rb (g13.rb (g11.rb (g9.rb (g7.rb (g5.rb (g3.rb (g1.rb xPq)))))))) (by omega)) ?_
  rintro _ _ ⟨p17, rfl, V17, rfl, g17, xp17⟩
  have G_18 := G_16.trans (g17.gs _)
  refine g_callVI [aI ((p15 : Int)), aI ((p17 : Int))] [aO (some o)] rfl rfl rfl rfl (Nat.le_of_ble_eq_true rfl) ms.1 (r_add (by omega) ms V17 (by have := G_18.2.2.1; omega) (g17.rb xp15) xp17 (k + 21) (by omega) (by omega) (by omega)) ?_
  rintro _ _ ⟨p19, rfl, V19, rfl, g19, xp19⟩
  have G_20 := G_18.trans (g19.gs _)
  refine g_aload_n rfl rfl ?_
  refine g_aload_n rfl rfl ?_
  refine g_ldc2 rfl ?_
  refine g_callVI [aJ 2] [aO (some o), aI ((p19 : Int)), aO (some o)] rfl rfl rfl rfl (Nat.le_of_ble_eq_true rfl) ms.1 (r_num (by omega) ms V19 (by have := G_20.2.2.1; omega) 2 (by omega) 1 (by decide)) ?_
  rintro _ _ ⟨p21, rfl, V21, rfl, g21, xp21⟩
  have G_22 := G_20.trans (g21.gs _)
  refine g_aload_n rfl rfl ?_
  refine g_iconst rfl ?_
  refine g_iald (i := 3) rfl (ms.slot hR) (by omega) (by omega) ?_
  refine g_top (v2 := aI ((Rs : Int))) (congrArg aI (by exact (g21.sa hR (g19.sa hR (g17.sa hR (g15.sa hR (g13.sa hR (g11.sa hR (g9.sa hR (g7.sa hR (g5.sa hR (g3.sa hR (g1.sa hR sR))))))))))).2.2.2)) ?_
  refine g_aload_n rfl rfl ?_
  refine g_iconst rfl ?_
  refine g_iald (i := 2) rfl (ms.slot hP) (by omega) (by omega) ?_
  refine g_top (v2 := aI ((Pr : Int))) (congrArg aI (by exact (g21.sa hP (g19.sa hP (g17.sa hP (g15.sa hP (g13.sa hP (g11.sa hP (g9.sa hP (g7.sa hP (g5.sa hP (g3.sa hP (g1.sa hP sP))))))))))).2.2.1)) ?_
  refine g_callVI [aI ((p21 : Int)), aI ((Rs : Int)), aI ((Pr : Int))] [aI ((p19 : Int)), aO (some o)] rfl rfl rfl rfl (Nat.le_of_ble_eq_true rfl) ms.1 (r_mul3 (by omega) ms V21 (by have := G_22.2.2.1; omega) xp21 (g21.rb (g19.rb (g17.rb (g15.rb (g13.rb (g11.rb (g9.rb (g7.rb (g5.rb (g3.rb (g1.rb xRs))))))))))) (g21.rb (g19.rb (g17.rb (g15.rb (g13.rb (g11.rb (g9.rb (g7.rb (g5.rb (g3.rb (g1.rb xPr))))))))))) (by omega)) ?_
  rintro _ _ ⟨p23, rfl, V23, rfl, g23, xp23⟩
  have G_24 := G_22.trans (g23.gs _)
  refine g_callVI [aI ((p19 : Int)), aI ((p23 : Int))] [] rfl rfl rfl rfl (Nat.le_of_ble_eq_true rfl) ms.1 (r_add (by omega) ms V23 (by have := G_24.2.2.1; omega) (g23.rb (g21.rb xp19)) xp23 (k + 22) (by omega) (by omega) (by omega)) ?_
  rintro _ _ ⟨p25, rfl, V25, rfl, g25, xp25⟩
  have G_26 := G_24.trans (g25.gs _)
  refine g_istore (l1 := [(7, aI ((p25 : Int))), (6, aI ((p13 : Int))), (5, aI ((p7 : Int))), (4, aI ((p1 : Int))), (0, aO (some o)), (1, aO (some aP)), (2, aO (some aR)), (3, aO (some aU))]) rfl rfl ?_
  refine g_aload_n rfl rfl ?_
  refine g_aload_n rfl rfl ?_
  refine g_iload rfl rfl ?_
  refine g_iload rfl rfl ?_
  refine g_iload rfl rfl ?_
  refine g_callVN [aO (some aU), aI ((p7 : Int)), aI ((p13 : Int)), aI ((p25 : Int))] [] rfl rfl rfl rfl (Nat.le_of_ble_eq_true rfl) ms.1 (m_put (by omega) ms V25 (by have := G_26.2.2.1; omega) aU hU p7 p13 p25) ?_
  rintro _ ⟨V27, rfl, p27, g27, s27, xp27⟩
  have G_28 := G_26.trans (g27.wide (fun q hq => by have hq : q = aU := hq; show q = aU; omega))
  refine g_vret rfl ?_
  exact ⟨V27, rfl, G_28.mono (by omega), _, _, _, _, s27, ((g27.rb (g25.rb (g23.rb (g21.rb (g19.rb (g17.rb (g15.rb (g13.rb (g11.rb (g9.rb xp7)))))))))).up (by omega)), ((g27.rb (g25.rb (g23.rb (g21.rb (g19.rb (g17.rb (g15.rb xp13))))))).up (by omega)), ((g27.rb xp25).up (by omega)), (xp27.up (by omega))⟩
def m_pole_S (L : T4) (R : T4) : T4 := (((((4 * R.1 * R.2.2.2) - (R.2.2.1 * R.2.2.1)) * L.1) + ((R.2.1 * R.2.2.1) * L.2.1)) + ((-((2 * R.1) * R.2.1)) * L.2.2.1), (((R.2.1 * R.2.2.1) * L.1) + (((4 * R.1 * R.2.2.2) - (R.2.1 * R.2.1)) * L.2.1)) + ((-((2 * R.1) * R.2.2.1)) * L.2.2.1), (((-((2 * R.1) * R.2.1)) * L.1) + ((-((2 * R.1) * R.2.2.1)) * L.2.1)) + (((2 * R.1) * (2 * R.1)) * L.2.2.1), 0)
set_option maxHeartbeats 4000000 in
theorem m_pole {w : aW} {d : Nat} (hd : 7 ≤ d) {h : aH} {o : Nat} (ms : MS h o) (V : Nat → Nat → Int) (hF : 0 ≤ V o 1 ∧ V o 1 + 32 ≤ 700) {L : T4} (aL : Nat) (hL : SLa o aL) (tL : SB V o aL L (20)) {R : T4} (aR : Nat) (hR : SLa o aR) (tR : SB V o aR R (20)) (aU : Nat) (hU : SLa o aU)  : WP w d 296 [aO (some o), aO (some aL), aO (some aR), aO (some aU)] (hw h V) (RN (fun h1 => ∃ V1, h1 = hw h V1 ∧ Gs V V1 o 32 (fun q => q = aU) ∧ SB V1 o aU (m_pole_S L R) (65))) := by
  obtain ⟨d, rfl⟩ : ∃ d1, d = d1 + 1 := ⟨d - 1, by omega⟩
  refine WP.enter (cd := cd_X12_pole) rfl ?_
  have G0 := Gs.refl V o (fun q => q = aU)
  obtain ⟨Lp, Lq, Lr, Ls, sL, xLp, xLq, xLr, xLs⟩ := tL
  obtain ⟨Rp, Rq, Rr, Rs, sR, xRp, xRq, xRr, xRs⟩ := tR
  have hs_L := hL
  unfold SLa at hs_L
  have hs_R := hR
  unfold SLa at hs_R
  have hs_U := hU
  unfold SLa at hs_U
  have hls : largs 0 [aO (some o), aO (some aL), aO (some aR), aO (some aU)] = [(0, aO (some o)), (1, aO (some aL)), (2, aO (some aR)), (3, aO (some aU))] := rfl
  rw [hls]
  clear hls
  refine g_aload_n rfl rfl ?_
  refine g_aload_n rfl rfl ?_
  refine g_ldc2 rfl ?_
  refine g_callVI [aJ 4] [aO (some o)] rfl rfl rfl rfl (Nat.le_of_ble_eq_true rfl) ms.1 (r_num (by omega) ms V (by have := G0.2.2.1; omega) 4 (by omega) 2 (by decide)) ?_
  rintro _ _ ⟨p1, rfl, V1, rfl, g1, xp1⟩
  have G_2 := G0.trans (g1.gs _)
  refine g_aload_n rfl rfl ?_
  refine g_iconst rfl ?_
  refine g_iald (i := 0) rfl (ms.slot hR) (by omega) (by omega) ?_
  refine g_top (v2 := aI ((Rp : Int))) (congrArg aI (by exact (g1.sa hR sR).1)) ?_
  refine g_aload_n rfl rfl ?_
  refine g_iconst rfl ?_
  refine g_iald (i := 3) rfl (ms.slot hR) (by omega) (by omega) ?_
  refine g_top (v2 := aI ((Rs : Int))) (congrArg aI (by exact (g1.sa hR sR).2.2.2)) ?_
  refine g_callVI [aI ((p1 : Int)), aI ((Rp : Int)), aI ((Rs : Int))] [] rfl rfl rfl rfl (Nat.le_of_ble_eq_true rfl) ms.1 (r_mul3 (by omega) ms V1 (by have := G_2.2.2.1; omega) xp1 (g1.rb xRp) (g1.rb xRs) (by omega)) ?_
  rintro _ _ ⟨p3, rfl, V3, rfl, g3, xp3⟩
  have G_4 := G_2.trans (g3.gs _)
  refine g_istore (l1 := [(4, aI ((p3 : Int))), (0, aO (some o)), (1, aO (some aL)), (2, aO (some aR)), (3, aO (some aU))]) rfl rfl ?_
  refine g_aload_n rfl rfl ?_
  refine g_aload_n rfl rfl ?_
  refine g_iconst rfl ?_
  refine g_iald (i := 0) rfl (ms.slot hR) (by omega) (by omega) ?_
  refine g_top (v2 := aI ((Rp : Int))) (congrArg aI (by exact (g3.sa hR (g1.sa hR sR)).1)) ?_
  refine g_callVI [aI ((Rp : Int))] [] rfl rfl rfl rfl (Nat.le_of_ble_eq_true rfl) ms.1 (r_twice (by omega) ms V3 (by have := G_4.2.2.1; omega) (g3.rb (g1.rb xRp)) (by omega)) ?_
  rintro _ _ ⟨p5, rfl, V5, rfl, g5, xp5⟩
  have G_6 := G_4.trans (g5.gs _)
  refine g_istore (l1 := [(5, aI ((p5 : Int))), (4, aI ((p3 : Int))), (0, aO (some o)), (1, aO (some aL)), (2, aO (some aR)), (3, aO (some aU))]) rfl rfl ?_
  refine g_aload_n rfl rfl ?_
  refine g_aload_n rfl rfl ?_
  refine g_iconst rfl ?_
  refine g_iald (i := 1) rfl (ms.slot hR) (by omega) (by omega) ?_
  refine g_top (v2 := aI ((Rq : Int))) (congrArg aI (by exact (g5.sa hR (g3.sa hR (g1.sa hR sR))).2.1)) ?_
  refine g_aload_n rfl rfl ?_
  refine g_iconst rfl ?_
  refine g_iald (i := 2) rfl (ms.slot hR) (by omega) (by omega) ?_
  refine g_top (v2 := aI ((Rr : Int))) (congrArg aI (by exact (g5.sa hR (g3.sa hR (g1.sa hR sR))).2.2.1)) ?_
  refine g_callVI [aI ((Rq : Int)), aI ((Rr : Int))] [] rfl rfl rfl rfl (Nat.le_of_ble_eq_true rfl) ms.1 (r_mul (by omega) ms V5 (by have := G_6.2.2.1; omega) (g5.rb (g3.rb (g1.rb xRq))) (g5.rb (g3.rb (g1.rb xRr))) (by omega)) ?_
  rintro _ _ ⟨p7, rfl, V7, rfl, g7, xp7⟩
  have G_8 := G_6.trans (g7.gs _)
  refine g_istore (l1 := [(6, aI ((p7 : Int))), (5, aI ((p5 : Int))), (4, aI ((p3 : Int))), (0, aO (some o)), (1, aO (some aL)), (2, aO (some aR)), (3, aO (some aU))]) rfl rfl ?_
  refine g_aload_n rfl rfl ?_
  refine g_aload_n rfl rfl ?_
  refine g_iload rfl rfl ?_
  refine g_aload_n rfl rfl ?_
  refine g_iconst rfl ?_
  refine g_iald (i := 1) rfl (ms.slot hR) (by omega) (by omega) ?_
  refine g_top (v2 := aI ((Rq : Int))) (congrArg aI (by exact (g7.sa hR (g5.sa hR (g3.sa hR (g1.sa hR sR)))).2.1)) ?_
  refine g_callVI [aI ((p5 : Int)), aI ((Rq : Int))] [aO (some o)] rfl rfl rfl rfl (Nat.le_of_ble_eq_true rfl) ms.1 (r_mul (by omega) ms V7 (by have := G_8.2.2.1; omega) (g7.rb xp5) (g7.rb (g5.rb (g3.rb (g1.rb xRq)))) (by omega)) ?_
  rintro _ _ ⟨p9, rfl, V9, rfl, g9, xp9⟩
  have G_10 := G_8.trans (g9.gs _)
  refine g_callVI [aI ((p9 : Int))] [] rfl rfl rfl rfl (Nat.le_of_ble_eq_true rfl) ms.1 (r_neg (by omega) ms V9 (by have := G_10.2.2.1; omega) xp9 (by omega)) ?_
  rintro _ _ ⟨p11, rfl, V11, rfl, g11, xp11⟩
  have G_12 := G_10.trans (g11.gs _)
  refine g_istore (l1 := [(7, aI ((p11 : Int))), (6, aI ((p7 : Int))), (5, aI ((p5 : Int))), (4, aI ((p3 : Int))), (0, aO (some o)), (1, aO (some aL)), (2, aO (some aR)), (3, aO (some aU))]) rfl rfl ?_
  refine g_aload_n rfl rfl ?_
  refine g_aload_n rfl rfl ?_
  refine g_iload rfl rfl ?_
  refine g_aload_n rfl rfl ?_
  refine g_iconst rfl ?_
  refine g_iald (i := 2) rfl (ms.slot hR) (by omega) (by omega) ?_
  refine g_top (v2 := aI ((Rr : Int))) (congrArg aI (by exact (g11.sa hR (g9.sa hR (g7.sa hR (g5.sa hR (g3.sa hR (g1.sa hR sR)))))).2.2.1)) ?_
  refine g_callVI [aI ((p5 : Int)), aI ((Rr : Int))] [aO (some o)] rfl rfl rfl rfl (Nat.le_of_ble_eq_true rfl) ms.1 (r_mul (by omega) ms V11 (by have := G_12.2.2.1; omega) (g11.rb (g9.rb (g7.rb xp5))) (g11.rb (g9.rb (g7.rb (g5.rb (g3.rb (g1.rb xRr)))))) (by omega)) ?_
  rintro _ _ ⟨p13, rfl, V13, rfl, g13, xp13⟩
  have G_14 := G_12.trans (g13.gs _)
  refine g_callVI [aI ((p13 : Int))] [] rfl rfl rfl rfl (Nat.le_of_ble_eq_true rfl) ms.1 (r_neg (by omega) ms V13 (by have := G_14.2.2.1; omega) xp13 (by omega)) ?_
  rintro _ _ ⟨p15, rfl, V15, rfl, g15, xp15⟩
  have G_16 := G_14.trans (g15.gs _)
  refine g_istore (l1 := [(8, aI ((p15 : Int))), (7, aI ((p11 : Int))), (6, aI ((p7 : Int))), (5, aI ((p5 : Int))), (4, aI ((p3 : Int))), (0, aO (some o)), (1, aO (some aL)), (2, aO (some aR)), (3, aO (some aU))]) rfl rfl ?_
  refine g_aload_n rfl rfl ?_
  refine g_aload_n rfl rfl ?_
  refine g_aload_n rfl rfl ?_
  refine g_aload_n rfl rfl ?_
  refine g_iload rfl rfl ?_
  refine g_aload_n rfl rfl ?_
  refine g_aload_n rfl rfl ?_
  refine g_iconst rfl ?_
  refine g_iald (i := 2) rfl (ms.slot hR) (by omega) (by omega) ?_
  refine g_top (v2 := aI ((Rr : Int))) (congrArg aI (by exact (g15.sa hR (g13.sa hR (g11.sa hR (g9.sa hR (g7.sa hR (g5.sa hR (g3.sa hR (g1.sa hR sR)))))))).2.2.1)) ?_
  refine g_callVI [aI ((Rr : Int))] [aI ((p3 : Int)), aO (some o), aO (some o), aO (some o), aO (some o)] rfl rfl rfl rfl (Nat.le_of_ble_eq_true rfl) ms.1 (r_square (by omega) ms V15 (by have := G_16.2.2.1; omega) (g15.rb (g13.rb (g11.rb (g9.rb (g7.rb (g5.rb (g3.rb (g1.rb xRr)))))))) (by omega)) ?_
  rintro _ _ ⟨p17, rfl, V17, rfl, g17, xp17⟩
  have G_18 := G_16.trans (g17.gs _)
  refine g_callVI [aI ((p3 : Int)), aI ((p17 : Int))] [aO (some o), aO (some o), aO (some o)] rfl rfl rfl rfl (Nat.le_of_ble_eq_true rfl) ms.1 (r_sub (by omega) ms V17 (by have := G_18.2.2.1; omega) (g17.rb (g15.rb (g13.rb (g11.rb (g9.rb (g7.rb (g5.rb xp3))))))) xp17 (43) (by omega) (by omega) (by omega)) ?_
  rintro _ _ ⟨p19, rfl, V19, rfl, g19, xp19⟩
  have G_20 := G_18.trans (g19.gs _)
  refine g_aload_n rfl rfl ?_
  refine g_iconst rfl ?_
  refine g_iald (i := 0) rfl (ms.slot hL) (by omega) (by omega) ?_
  refine g_top (v2 := aI ((Lp : Int))) (congrArg aI (by exact (g19.sa hL (g17.sa hL (g15.sa hL (g13.sa hL (g11.sa hL (g9.sa hL (g7.sa hL (g5.sa hL (g3.sa hL (g1.sa hL sL)))))))))).1)) ?_
  refine g_callVI [aI ((p19 : Int)), aI ((Lp : Int))] [aO (some o), aO (some o)] rfl rfl rfl rfl (Nat.le_of_ble_eq_true rfl) ms.1 (r_mul (by omega) ms V19 (by have := G_20.2.2.1; omega) xp19 (g19.rb (g17.rb (g15.rb (g13.rb (g11.rb (g9.rb (g7.rb (g5.rb (g3.rb (g1.rb xLp)))))))))) (by omega)) ?_
  rintro _ _ ⟨p21, rfl, V21, rfl, g21, xp21⟩
  have G_22 := G_20.trans (g21.gs _)
  refine g_aload_n rfl rfl ?_
  refine g_iload rfl rfl ?_
  refine g_aload_n rfl rfl ?_
  refine g_iconst rfl ?_
  refine g_iald (i := 1) rfl (ms.slot hL) (by omega) (by omega) ?_
  refine g_top (v2 := aI ((Lq : Int))) (congrArg aI (by exact (g21.sa hL (g19.sa hL (g17.sa hL (g15.sa hL (g13.sa hL (g11.sa hL (g9.sa hL (g7.sa hL (g5.sa hL (g3.sa hL (g1.sa hL sL))))))))))).2.1)) ?_
  refine g_callVI [aI ((p7 : Int)), aI ((Lq : Int))] [aI ((p21 : Int)), aO (some o), aO (some o)] rfl rfl rfl rfl (Nat.le_of_ble_eq_true rfl) ms.1 (r_mul (by omega) ms V21 (by have := G_22.2.2.1; omega) (g21.rb (g19.rb (g17.rb (g15.rb (g13.rb (g11.rb (g9.rb xp7))))))) (g21.rb (g19.rb (g17.rb (g15.rb (g13.rb (g11.rb (g9.rb (g7.rb (g5.rb (g3.rb (g1.rb xLq))))))))))) (by omega)) ?_
  rintro _ _ ⟨p23, rfl, V23, rfl, g23, xp23⟩
  have G_24 := G_22.trans (g23.gs _)
  refine g_callVI [aI ((p21 : Int)), aI ((p23 : Int))] [aO (some o)] rfl rfl rfl rfl (Nat.le_of_ble_eq_true rfl) ms.1 (r_add (by omega) ms V23 (by have := G_24.2.2.1; omega) (g23.rb xp21) xp23 (64) (by omega) (by omega) (by omega)) ?_
  rintro _ _ ⟨p25, rfl, V25, rfl, g25, xp25⟩
  have G_26 := G_24.trans (g25.gs _)
  refine g_aload_n rfl rfl ?_
  refine g_iload rfl rfl ?_
  refine g_aload_n rfl rfl ?_
  refine g_iconst rfl ?_
  refine g_iald (i := 2) rfl (ms.slot hL) (by omega) (by omega) ?_
  refine g_top (v2 := aI ((Lr : Int))) (congrArg aI (by exact (g25.sa hL (g23.sa hL (g21.sa hL (g19.sa hL (g17.sa hL (g15.sa hL (g13.sa hL (g11.sa hL (g9.sa hL (g7.sa hL (g5.sa hL (g3.sa hL (g1.sa hL sL))))))))))))).2.2.1)) ?_
  refine g_callVI [aI ((p11 : Int)), aI ((Lr : Int))] [aI ((p25 : Int)), aO (some o)] rfl rfl rfl rfl (Nat.le_of_ble_eq_true rfl) ms.1 (r_mul (by omega) ms V25 (by have := G_26.2.2.1; omega) (g25.rb (g23.rb (g21.rb (g19.rb (g17.rb (g15.rb (g13.rb xp11))))))) (g25.rb (g23.rb (g21.rb (g19.rb (g17.rb (g15.rb (g13.rb (g11.rb (g9.rb (g7.rb (g5.rb (g3.rb (g1.rb xLr))))))))))))) (by omega)) ?_
  rintro _ _ ⟨p27, rfl, V27, rfl, g27, xp27⟩
  have G_28 := G_26.trans (g27.gs _)
  refine g_callVI [aI ((p25 : Int)), aI ((p27 : Int))] [] rfl rfl rfl rfl (Nat.le_of_ble_eq_true rfl) ms.1 (r_add (by omega) ms V27 (by have := G_28.2.2.1; omega) (g27.rb xp25) xp27 (65) (by omega) (by omega) (by omega)) ?_
  rintro _ _ ⟨p29, rfl, V29, rfl, g29, xp29⟩
  have G_30 := G_28.trans (g29.gs _)
  refine g_istore (l1 := [(9, aI ((p29 : Int))), (8, aI ((p15 : Int))), (7, aI ((p11 : Int))), (6, aI ((p7 : Int))), (5, aI ((p5 : Int))), (4, aI ((p3 : Int))), (0, aO (some o)), (1, aO (some aL)), (2, aO (some aR)), (3, aO (some aU))]) rfl rfl ?_
  refine g_aload_n rfl rfl ?_
  refine g_aload_n rfl rfl ?_
  refine g_aload_n rfl rfl ?_
  refine g_iload rfl rfl ?_
  refine g_aload_n rfl rfl ?_
  refine g_iconst rfl ?_
  refine g_iald (i := 0) rfl (ms.slot hL) (by omega) (by omega) ?_
  refine g_top (v2 := aI ((Lp : Int))) (congrArg aI (by exact (g29.sa hL (g27.sa hL (g25.sa hL (g23.sa hL (g21.sa hL (g19.sa hL (g17.sa hL (g15.sa hL (g13.sa hL (g11.sa hL (g9.sa hL (g7.sa hL (g5.sa hL (g3.sa hL (g1.sa hL sL))))))))))))))).1)) ?_
  refine g_callVI [aI ((p7 : Int)), aI ((Lp : Int))] [aO (some o), aO (some o)] rfl rfl rfl rfl (Nat.le_of_ble_eq_true rfl) ms.1 (r_mul (by omega) ms V29 (by have := G_30.2.2.1; omega) (g29.rb (g27.rb (g25.rb (g23.rb (g21.rb (g19.rb (g17.rb (g15.rb (g13.rb (g11.rb (g9.rb xp7))))))))))) (g29.rb (g27.rb (g25.rb (g23.rb (g21.rb (g19.rb (g17.rb (g15.rb (g13.rb (g11.rb (g9.rb (g7.rb (g5.rb (g3.rb (g1.rb xLp))))))))))))))) (by omega)) ?_
  rintro _ _ ⟨p31, rfl, V31, rfl, g31, xp31⟩
  have G_32 := G_30.trans (g31.gs _)
  refine g_aload_n rfl rfl ?_
  refine g_aload_n rfl rfl ?_
  refine g_iload rfl rfl ?_
  refine g_aload_n rfl rfl ?_
  refine g_aload_n rfl rfl ?_
  refine g_iconst rfl ?_
  refine g_iald (i := 1) rfl (ms.slot hR) (by omega) (by omega) ?_
  refine g_top (v2 := aI ((Rq : Int))) (congrArg aI (by exact (g31.sa hR (g29.sa hR (g27.sa hR (g25.sa hR (g23.sa hR (g21.sa hR (g19.sa hR (g17.sa hR (g15.sa hR (g13.sa hR (g11.sa hR (g9.sa hR (g7.sa hR (g5.sa hR (g3.sa hR (g1.sa hR sR)))))))))))))))).2.1)) ?_
  refine g_callVI [aI ((Rq : Int))] [aI ((p3 : Int)), aO (some o), aO (some o), aI ((p31 : Int)), aO (some o), aO (some o)] rfl rfl rfl rfl (Nat.le_of_ble_eq_true rfl) ms.1 (r_square (by omega) ms V31 (by have := G_32.2.2.1; omega) (g31.rb (g29.rb (g27.rb (g25.rb (g23.rb (g21.rb (g19.rb (g17.rb (g15.rb (g13.rb (g11.rb (g9.rb (g7.rb (g5.rb (g3.rb (g1.rb xRq)))))))))))))))) (by omega)) ?_
  rintro _ _ ⟨p33, rfl, V33, rfl, g33, xp33⟩
  have G_34 := G_32.trans (g33.gs _)
  refine g_callVI [aI ((p3 : Int)), aI ((p33 : Int))] [aO (some o), aI ((p31 : Int)), aO (some o), aO (some o)] rfl rfl rfl rfl (Nat.le_of_ble_eq_true rfl) ms.1 (r_sub (by omega) ms V33 (by have := G_34.2.2.1; omega) (g33.rb (g31.rb (g29.rb (g27.rb (g25.rb (g23.rb (g21.rb (g19.rb (g17.rb (g15.rb (g13.rb (g11.rb (g9.rb (g7.rb (g5.rb xp3))))))))))))))) xp33 (43) (by omega) (by omega) (by omega)) ?_
  rintro _ _ ⟨p35, rfl, V35, rfl, g35, xp35⟩
  have G_36 := G_34.trans (g35.gs _)
  refine g_aload_n rfl rfl ?_
  refine g_iconst rfl ?_
  refine g_iald (i := 1) rfl (ms.slot hL) (by omega) (by omega) ?_
  refine g_top (v2 := aI ((Lq : Int))) (congrArg aI (by exact (g35.sa hL (g33.sa hL (g31.sa hL (g29.sa hL (g27.sa hL (g25.sa hL (g23.sa hL (g21.sa hL (g19.sa hL (g17.sa hL (g15.sa hL (g13.sa hL (g11.sa hL (g9.sa hL (g7.sa hL (g5.sa hL (g3.sa hL (g1.sa hL sL)))))))))))))))))).2.1)) ?_
  refine g_callVI [aI ((p35 : Int)), aI ((Lq : Int))] [aI ((p31 : Int)), aO (some o), aO (some o)] rfl rfl rfl rfl (Nat.le_of_ble_eq_true rfl) ms.1 (r_mul (by omega) ms V35 (by have := G_36.2.2.1; omega) xp35 (g35.rb (g33.rb (g31.rb (g29.rb (g27.rb (g25.rb (g23.rb (g21.rb (g19.rb (g17.rb (g15.rb (g13.rb (g11.rb (g9.rb (g7.rb (g5.rb (g3.rb (g1.rb xLq)))))))))))))))))) (by omega)) ?_
  rintro _ _ ⟨p37, rfl, V37, rfl, g37, xp37⟩
  have G_38 := G_36.trans (g37.gs _)
  refine g_callVI [aI ((p31 : Int)), aI ((p37 : Int))] [aO (some o)] rfl rfl rfl rfl (Nat.le_of_ble_eq_true rfl) ms.1 (r_add (by omega) ms V37 (by have := G_38.2.2.1; omega) (g37.rb (g35.rb (g33.rb xp31))) xp37 (64) (by omega) (by omega) (by omega)) ?_
  rintro _ _ ⟨p39, rfl, V39, rfl, g39, xp39⟩
  have G_40 := G_38.trans (g39.gs _)
  refine g_aload_n rfl rfl ?_
  refine g_iload rfl rfl ?_
  refine g_aload_n rfl rfl ?_
  refine g_iconst rfl ?_
  refine g_iald (i := 2) rfl (ms.slot hL) (by omega) (by omega) ?_
  refine g_top (v2 := aI ((Lr : Int))) (congrArg aI (by exact (g39.sa hL (g37.sa hL (g35.sa hL (g33.sa hL (g31.sa hL (g29.sa hL (g27.sa hL (g25.sa hL (g23.sa hL (g21.sa hL (g19.sa hL (g17.sa hL (g15.sa hL (g13.sa hL (g11.sa hL (g9.sa hL (g7.sa hL (g5.sa hL (g3.sa hL (g1.sa hL sL)))))))))))))))))))).2.2.1)) ?_
  refine g_callVI [aI ((p15 : Int)), aI ((Lr : Int))] [aI ((p39 : Int)), aO (some o)] rfl rfl rfl rfl (Nat.le_of_ble_eq_true rfl) ms.1 (r_mul (by omega) ms V39 (by have := G_40.2.2.1; omega) (g39.rb (g37.rb (g35.rb (g33.rb (g31.rb (g29.rb (g27.rb (g25.rb (g23.rb (g21.rb (g19.rb (g17.rb xp15)))))))))))) (g39.rb (g37.rb (g35.rb (g33.rb (g31.rb (g29.rb (g27.rb (g25.rb (g23.rb (g21.rb (g19.rb (g17.rb (g15.rb (g13.rb (g11.rb (g9.rb (g7.rb (g5.rb (g3.rb (g1.rb xLr)))))))))))))))))))) (by omega)) ?_
  rintro _ _ ⟨p41, rfl, V41, rfl, g41, xp41⟩
  have G_42 := G_40.trans (g41.gs _)
  refine g_callVI [aI ((p39 : Int)), aI ((p41 : Int))] [] rfl rfl rfl rfl (Nat.le_of_ble_eq_true rfl) ms.1 (r_add (by omega) ms V41 (by have := G_42.2.2.1; omega) (g41.rb xp39) xp41 (65) (by omega) (by omega) (by omega)) ?_
  rintro _ _ ⟨p43, rfl, V43, rfl, g43, xp43⟩
  have G_44 := G_42.trans (g43.gs _)
  refine g_istore (l1 := [(10, aI ((p43 : Int))), (9, aI ((p29 : Int))), (8, aI ((p15 : Int))), (7, aI ((p11 : Int))), (6, aI ((p7 : Int))), (5, aI ((p5 : Int))), (4, aI ((p3 : Int))), (0, aO (some o)), (1, aO (some aL)), (2, aO (some aR)), (3, aO (some aU))]) rfl rfl ?_
  refine g_aload_n rfl rfl ?_
  refine g_aload_n rfl rfl ?_
  refine g_aload_n rfl rfl ?_
  refine g_iload rfl rfl ?_
  refine g_aload_n rfl rfl ?_
  refine g_iconst rfl ?_
  refine g_iald (i := 0) rfl (ms.slot hL) (by omega) (by omega) ?_
  refine g_top (v2 := aI ((Lp : Int))) (congrArg aI (by exact (g43.sa hL (g41.sa hL (g39.sa hL (g37.sa hL (g35.sa hL (g33.sa hL (g31.sa hL (g29.sa hL (g27.sa hL (g25.sa hL (g23.sa hL (g21.sa hL (g19.sa hL (g17.sa hL (g15.sa hL (g13.sa hL (g11.sa hL (g9.sa hL (g7.sa hL (g5.sa hL (g3.sa hL (g1.sa hL sL)))))))))))))))))))))).1)) ?_
  refine g_callVI [aI ((p11 : Int)), aI ((Lp : Int))] [aO (some o), aO (some o)] rfl rfl rfl rfl (Nat.le_of_ble_eq_true rfl) ms.1 (r_mul (by omega) ms V43 (by have := G_44.2.2.1; omega) (g43.rb (g41.rb (g39.rb (g37.rb (g35.rb (g33.rb (g31.rb (g29.rb (g27.rb (g25.rb (g23.rb (g21.rb (g19.rb (g17.rb (g15.rb (g13.rb xp11)))))))))))))))) (g43.rb (g41.rb (g39.rb (g37.rb (g35.rb (g33.rb (g31.rb (g29.rb (g27.rb (g25.rb (g23.rb (g21.rb (g19.rb (g17.rb (g15.rb (g13.rb (g11.rb (g9.rb (g7.rb (g5.rb (g3.rb (g1.rb xLp)))))))))))))))))))))) (by omega)) ?_
  rintro _ _ ⟨p45, rfl, V45, rfl, g45, xp45⟩
  have G_46 := G_44.trans (g45.gs _)
  refine g_aload_n rfl rfl ?_
  refine g_iload rfl rfl ?_
  refine g_aload_n rfl rfl ?_
  refine g_iconst rfl ?_
  refine g_iald (i := 1) rfl (ms.slot hL) (by omega) (by omega) ?_
  refine g_top (v2 := aI ((Lq : Int))) (congrArg aI (by exact (g45.sa hL (g43.sa hL (g41.sa hL (g39.sa hL (g37.sa hL (g35.sa hL (g33.sa hL (g31.sa hL (g29.sa hL (g27.sa hL (g25.sa hL (g23.sa hL (g21.sa hL (g19.sa hL (g17.sa hL (g15.sa hL (g13.sa hL (g11.sa hL (g9.sa hL (g7.sa hL (g5.sa hL (g3.sa hL (g1.sa hL sL))))))))))))))))))))))).2.1)) ?_
  refine g_callVI [aI ((p15 : Int)), aI ((Lq : Int))] [aI ((p45 : Int)), aO (some o), aO (some o)] rfl rfl rfl rfl (Nat.le_of_ble_eq_true rfl) ms.1 (r_mul (by omega) ms V45 (by have := G_46.2.2.1; omega) (g45.rb (g43.rb (g41.rb (g39.rb (g37.rb (g35.rb (g33.rb (g31.rb (g29.rb (g27.rb (g25.rb (g23.rb (g21.rb (g19.rb (g17.rb xp15))))))))))))))) (g45.rb (g43.rb (g41.rb (g39.rb (g37.rb (g35.rb (g33.rb (g31.rb (g29.rb (g27.rb (g25.rb (g23.rb (g21.rb (g19.rb (g17.rb (g15.rb (g13.rb (g11.rb (g9.rb (g7.rb (g5.rb (g3.rb (g1.rb xLq))))))))))))))))))))))) (by omega)) ?_
  rintro _ _ ⟨p47, rfl, V47, rfl, g47, xp47⟩
  have G_48 := G_46.trans (g47.gs _)
  refine g_callVI [aI ((p45 : Int)), aI ((p47 : Int))] [aO (some o)] rfl rfl rfl rfl (Nat.le_of_ble_eq_true rfl) ms.1 (r_add (by omega) ms V47 (by have := G_48.2.2.1; omega) (g47.rb xp45) xp47 (62) (by omega) (by omega) (by omega)) ?_
  rintro _ _ ⟨p49, rfl, V49, rfl, g49, xp49⟩
  have G_50 := G_48.trans (g49.gs _)
  refine g_aload_n rfl rfl ?_
  refine g_aload_n rfl rfl ?_
  refine g_iload rfl rfl ?_
  refine g_callVI [aI ((p5 : Int))] [aO (some o), aI ((p49 : Int)), aO (some o)] rfl rfl rfl rfl (Nat.le_of_ble_eq_true rfl) ms.1 (r_square (by omega) ms V49 (by have := G_50.2.2.1; omega) (g49.rb (g47.rb (g45.rb (g43.rb (g41.rb (g39.rb (g37.rb (g35.rb (g33.rb (g31.rb (g29.rb (g27.rb (g25.rb (g23.rb (g21.rb (g19.rb (g17.rb (g15.rb (g13.rb (g11.rb (g9.rb (g7.rb xp5)))))))))))))))))))))) (by omega)) ?_
  rintro _ _ ⟨p51, rfl, V51, rfl, g51, xp51⟩
  have G_52 := G_50.trans (g51.gs _)
  refine g_aload_n rfl rfl ?_
  refine g_iconst rfl ?_
  refine g_iald (i := 2) rfl (ms.slot hL) (by omega) (by omega) ?_
  refine g_top (v2 := aI ((Lr : Int))) (congrArg aI (by exact (g51.sa hL (g49.sa hL (g47.sa hL (g45.sa hL (g43.sa hL (g41.sa hL (g39.sa hL (g37.sa hL (g35.sa hL (g33.sa hL (g31.sa hL (g29.sa hL (g27.sa hL (g25.sa hL (g23.sa hL (g21.sa hL (g19.sa hL (g17.sa hL (g15.sa hL (g13.sa hL (g11.sa hL (g9.sa hL (g7.sa hL (g5.sa hL (g3.sa hL (g1.sa hL sL)))))))))))))))))))))))))).2.2.1)) ?_
  refine g_callVI [aI ((p51 : Int)), aI ((Lr : Int))] [aI ((p49 : Int)), aO (some o)] rfl rfl rfl rfl (Nat.le_of_ble_eq_true rfl) ms.1 (r_mul (by omega) ms V51 (by have := G_52.2.2.1; omega) xp51 (g51.rb (g49.rb (g47.rb (g45.rb (g43.rb (g41.rb (g39.rb (g37.rb (g35.rb (g33.rb (g31.rb (g29.rb (g27.rb (g25.rb (g23.rb (g21.rb (g19.rb (g17.rb (g15.rb (g13.rb (g11.rb (g9.rb (g7.rb (g5.rb (g3.rb (g1.rb xLr)))))))))))))))))))))))))) (by omega)) ?_
  rintro _ _ ⟨p53, rfl, V53, rfl, g53, xp53⟩
  have G_54 := G_52.trans (g53.gs _)
  refine g_callVI [aI ((p49 : Int)), aI ((p53 : Int))] [] rfl rfl rfl rfl (Nat.le_of_ble_eq_true rfl) ms.1 (r_add (by omega) ms V53 (by have := G_54.2.2.1; omega) (g53.rb (g51.rb xp49)) xp53 (63) (by omega) (by omega) (by omega)) ?_
  rintro _ _ ⟨p55, rfl, V55, rfl, g55, xp55⟩
  have G_56 := G_54.trans (g55.gs _)
  refine g_istore (l1 := [(11, aI ((p55 : Int))), (10, aI ((p43 : Int))), (9, aI ((p29 : Int))), (8, aI ((p15 : Int))), (7, aI ((p11 : Int))), (6, aI ((p7 : Int))), (5, aI ((p5 : Int))), (4, aI ((p3 : Int))), (0, aO (some o)), (1, aO (some aL)), (2, aO (some aR)), (3, aO (some aU))]) rfl rfl ?_
  refine g_aload_n rfl rfl ?_
  refine g_aload_n rfl rfl ?_
  refine g_iload rfl rfl ?_
  refine g_iload rfl rfl ?_
  refine g_iload rfl rfl ?_
  refine g_callVN [aO (some aU), aI ((p29 : Int)), aI ((p43 : Int)), aI ((p55 : Int))] [] rfl rfl rfl rfl (Nat.le_of_ble_eq_true rfl) ms.1 (m_put (by omega) ms V55 (by have := G_56.2.2.1; omega) aU hU p29 p43 p55) ?_
  rintro _ ⟨V57, rfl, p57, g57, s57, xp57⟩
  have G_58 := G_56.trans (g57.wide (fun q hq => by have hq : q = aU := hq; show q = aU; omega))
  refine g_vret rfl ?_
  exact ⟨V57, rfl, G_58.mono (by omega), _, _, _, _, s57, ((g57.rb (g55.rb (g53.rb (g51.rb (g49.rb (g47.rb (g45.rb (g43.rb (g41.rb (g39.rb (g37.rb (g35.rb (g33.rb (g31.rb xp29)))))))))))))).up (by omega)), ((g57.rb (g55.rb (g53.rb (g51.rb (g49.rb (g47.rb (g45.rb xp43))))))).up (by omega)), ((g57.rb xp55).up (by omega)), (xp57.up (by omega))⟩
def m_powers_S (R : T4) (K : T4) : T4 := ((R.2.1 * K.1) - (K.2.1 * R.1), (R.2.2.1 * K.1) - (K.2.2.1 * R.1), (R.2.2.2 * K.1) - (K.2.2.2 * R.1), 0)
set_option maxHeartbeats 4000000 in
theorem m_powers {w : aW} {d : Nat} (hd : 6 ≤ d) {h : aH} {o : Nat} (ms : MS h o) (V : Nat → Nat → Int) (hF : 0 ≤ V o 1 ∧ V o 1 + 10 ≤ 700) {R : T4} (aR : Nat) (hR : SLa o aR) (tR : SB V o aR R (20)) {K : T4} (aK : Nat) (hK : SLa o aK) (tK : SB V o aK K (20)) (aU : Nat) (hU : SLa o aU)  : WP w d 298 [aO (some o), aO (some aR), aO (some aK), aO (some aU)] (hw h V) (RN (fun h1 => ∃ V1, h1 = hw h V1 ∧ Gs V V1 o 10 (fun q => q = aU) ∧ SB V1 o aU (m_powers_S R K) (41))) := by
  obtain ⟨d, rfl⟩ : ∃ d1, d = d1 + 1 := ⟨d - 1, by omega⟩
  refine WP.enter (cd := cd_X12_powers) rfl ?_
  have G0 := Gs.refl V o (fun q => q = aU)
  obtain ⟨Rp, Rq, Rr, Rs, sR, xRp, xRq, xRr, xRs⟩ := tR
  obtain ⟨Kp, Kq, Kr, Ks, sK, xKp, xKq, xKr, xKs⟩ := tK
  have hs_R := hR
  unfold SLa at hs_R
  have hs_K := hK
  unfold SLa at hs_K
  have hs_U := hU
  unfold SLa at hs_U
  have hls : largs 0 [aO (some o), aO (some aR), aO (some aK), aO (some aU)] = [(0, aO (some o)), (1, aO (some aR)), (2, aO (some aK)), (3, aO (some aU))] := rfl
  rw [hls]
  clear hls
  refine g_aload_n rfl rfl ?_
  refine g_aload_n rfl rfl ?_
  refine g_aload_n rfl rfl ?_
  refine g_iconst rfl ?_
  refine g_iald (i := 1) rfl (ms.slot hR) (by omega) (by omega) ?_
  refine g_top (v2 := aI ((Rq : Int))) (congrArg aI (by exact sR.2.1)) ?_
  refine g_aload_n rfl rfl ?_
  refine g_iconst rfl ?_
  refine g_iald (i := 0) rfl (ms.slot hK) (by omega) (by omega) ?_
  refine g_top (v2 := aI ((Kp : Int))) (congrArg aI (by exact sK.1)) ?_
  refine g_callVI [aI ((Rq : Int)), aI ((Kp : Int))] [aO (some o)] rfl rfl rfl rfl (Nat.le_of_ble_eq_true rfl) ms.1 (r_mul (by omega) ms V (by have := G0.2.2.1; omega) xRq xKp (by omega)) ?_
  rintro _ _ ⟨p1, rfl, V1, rfl, g1, xp1⟩
  have G_2 := G0.trans (g1.gs _)
  refine g_aload_n rfl rfl ?_
  refine g_aload_n rfl rfl ?_
  refine g_iconst rfl ?_
  refine g_iald (i := 1) rfl (ms.slot hK) (by omega) (by omega) ?_
  refine g_top (v2 := aI ((Kq : Int))) (congrArg aI (by exact (g1.sa hK sK).2.1)) ?_
  refine g_aload_n rfl rfl ?_
  refine g_iconst rfl ?_
  refine g_iald (i := 0) rfl (ms.slot hR) (by omega) (by omega) ?_
  refine g_top (v2 := aI ((Rp : Int))) (congrArg aI (by exact (g1.sa hR sR).1)) ?_
  refine g_callVI [aI ((Kq : Int)), aI ((Rp : Int))] [aI ((p1 : Int)), aO (some o)] rfl rfl rfl rfl (Nat.le_of_ble_eq_true rfl) ms.1 (r_mul (by omega) ms V1 (by have := G_2.2.2.1; omega) (g1.rb xKq) (g1.rb xRp) (by omega)) ?_
  rintro _ _ ⟨p3, rfl, V3, rfl, g3, xp3⟩
  have G_4 := G_2.trans (g3.gs _)
  refine g_callVI [aI ((p1 : Int)), aI ((p3 : Int))] [] rfl rfl rfl rfl (Nat.le_of_ble_eq_true rfl) ms.1 (r_sub (by omega) ms V3 (by have := G_4.2.2.1; omega) (g3.rb xp1) xp3 (41) (by omega) (by omega) (by omega)) ?_
  rintro _ _ ⟨p5, rfl, V5, rfl, g5, xp5⟩
  have G_6 := G_4.trans (g5.gs _)
  refine g_istore (l1 := [(4, aI ((p5 : Int))), (0, aO (some o)), (1, aO (some aR)), (2, aO (some aK)), (3, aO (some aU))]) rfl rfl ?_
  refine g_aload_n rfl rfl ?_
  refine g_aload_n rfl rfl ?_
  refine g_aload_n rfl rfl ?_
  refine g_iconst rfl ?_
  refine g_iald (i := 2) rfl (ms.slot hR) (by omega) (by omega) ?_
  refine g_top (v2 := aI ((Rr : Int))) (congrArg aI (by exact (g5.sa hR (g3.sa hR (g1.sa hR sR))).2.2.1)) ?_
  refine g_aload_n rfl rfl ?_
  refine g_iconst rfl ?_
  refine g_iald (i := 0) rfl (ms.slot hK) (by omega) (by omega) ?_
  refine g_top (v2 := aI ((Kp : Int))) (congrArg aI (by exact (g5.sa hK (g3.sa hK (g1.sa hK sK))).1)) ?_
  refine g_callVI [aI ((Rr : Int)), aI ((Kp : Int))] [aO (some o)] rfl rfl rfl rfl (Nat.le_of_ble_eq_true rfl) ms.1 (r_mul (by omega) ms V5 (by have := G_6.2.2.1; omega) (g5.rb (g3.rb (g1.rb xRr))) (g5.rb (g3.rb (g1.rb xKp))) (by omega)) ?_
  rintro _ _ ⟨p7, rfl, V7, rfl, g7, xp7⟩
  have G_8 := G_6.trans (g7.gs _)
  refine g_aload_n rfl rfl ?_
  refine g_aload_n rfl rfl ?_
  refine g_iconst rfl ?_
  refine g_iald (i := 2) rfl (ms.slot hK) (by omega) (by omega) ?_
  refine g_top (v2 := aI ((Kr : Int))) (congrArg aI (by exact (g7.sa hK (g5.sa hK (g3.sa hK (g1.sa hK sK)))).2.2.1)) ?_
  refine g_aload_n rfl rfl ?_
  refine g_iconst rfl ?_
  refine g_iald (i := 0) rfl (ms.slot hR) (by omega) (by omega) ?_
  refine g_top (v2 := aI ((Rp : Int))) (congrArg aI (by exact (g7.sa hR (g5.sa hR (g3.sa hR (g1.sa hR sR)))).1)) ?_
  refine g_callVI [aI ((Kr : Int)), aI ((Rp : Int))] [aI ((p7 : Int)), aO (some o)] rfl rfl rfl rfl (Nat.le_of_ble_eq_true rfl) ms.1 (r_mul (by omega) ms V7 (by have := G_8.2.2.1; omega) (g7.rb (g5.rb (g3.rb (g1.rb xKr)))) (g7.rb (g5.rb (g3.rb (g1.rb xRp)))) (by omega)) ?_
  rintro _ _ ⟨p9, rfl, V9, rfl, g9, xp9⟩
  have G_10 := G_8.trans (g9.gs _)
  refine g_callVI [aI ((p7 : Int)), aI ((p9 : Int))] [] rfl rfl rfl rfl (Nat.le_of_ble_eq_true rfl) ms.1 (r_sub (by omega) ms V9 (by have := G_10.2.2.1; omega) (g9.rb xp7) xp9 (41) (by omega) (by omega) (by omega)) ?_
  rintro _ _ ⟨p11, rfl, V11, rfl, g11, xp11⟩
  have G_12 := G_10.trans (g11.gs _)
  refine g_istore (l1 := [(5, aI ((p11 : Int))), (4, aI ((p5 : Int))), (0, aO (some o)), (1, aO (some aR)), (2, aO (some aK)), (3, aO (some aU))]) rfl rfl ?_
  refine g_aload_n rfl rfl ?_
  refine g_aload_n rfl rfl ?_
  refine g_iload rfl rfl ?_
  refine g_iload rfl rfl ?_
  refine g_aload_n rfl rfl ?_
  refine g_aload_n rfl rfl ?_
  refine g_aload_n rfl rfl ?_
  refine g_iconst rfl ?_
  refine g_iald (i := 3) rfl (ms.slot hR) (by omega) (by omega) ?_
  refine g_top (v2 := aI ((Rs : Int))) (congrArg aI (by exact (g11.sa hR (g9.sa hR (g7.sa hR (g5.sa hR (g3.sa hR (g1.sa hR sR)))))).2.2.2)) ?_
  refine g_aload_n rfl rfl ?_
  refine g_iconst rfl ?_
  refine g_iald (i := 0) rfl (ms.slot hK) (by omega) (by omega) ?_
  refine g_top (v2 := aI ((Kp : Int))) (congrArg aI (by exact (g11.sa hK (g9.sa hK (g7.sa hK (g5.sa hK (g3.sa hK (g1.sa hK sK)))))).1)) ?_
  refine g_callVI [aI ((Rs : Int)), aI ((Kp : Int))] [aO (some o), aI ((p11 : Int)), aI ((p5 : Int)), aO (some aU), aO (some o)] rfl rfl rfl rfl (Nat.le_of_ble_eq_true rfl) ms.1 (r_mul (by omega) ms V11 (by have := G_12.2.2.1; omega) (g11.rb (g9.rb (g7.rb (g5.rb (g3.rb (g1.rb xRs)))))) (g11.rb (g9.rb (g7.rb (g5.rb (g3.rb (g1.rb xKp)))))) (by omega)) ?_
  rintro _ _ ⟨p13, rfl, V13, rfl, g13, xp13⟩
  have G_14 := G_12.trans (g13.gs _)
  refine g_aload_n rfl rfl ?_
  refine g_aload_n rfl rfl ?_
  refine g_iconst rfl ?_
  refine g_iald (i := 3) rfl (ms.slot hK) (by omega) (by omega) ?_
  refine g_top (v2 := aI ((Ks : Int))) (congrArg aI (by exact (g13.sa hK (g11.sa hK (g9.sa hK (g7.sa hK (g5.sa hK (g3.sa hK (g1.sa hK sK))))))).2.2.2)) ?_
  refine g_aload_n rfl rfl ?_
  refine g_iconst rfl ?_
  refine g_iald (i := 0) rfl (ms.slot hR) (by omega) (by omega) ?_
  refine g_top (v2 := aI ((Rp : Int))) (congrArg aI (by exact (g13.sa hR (g11.sa hR (g9.sa hR (g7.sa hR (g5.sa hR (g3.sa hR (g1.sa hR sR))))))).1)) ?_
  refine g_callVI [aI ((Ks : Int)), aI ((Rp : Int))] [aI ((p13 : Int)), aO (some o), aI ((p11 : Int)), aI ((p5 : Int)), aO (some aU), aO (some o)] rfl rfl rfl rfl (Nat.le_of_ble_eq_true rfl) ms.1 (r_mul (by omega) ms V13 (by have := G_14.2.2.1; omega) (g13.rb (g11.rb (g9.rb (g7.rb (g5.rb (g3.rb (g1.rb xKs))))))) (g13.rb (g11.rb (g9.rb (g7.rb (g5.rb (g3.rb (g1.rb xRp))))))) (by omega)) ?_
  rintro _ _ ⟨p15, rfl, V15, rfl, g15, xp15⟩
  have G_16 := G_14.trans (g15.gs _)
  refine g_callVI [aI ((p13 : Int)), aI ((p15 : Int))] [aI ((p11 : Int)), aI ((p5 : Int)), aO (some aU), aO (some o)] rfl rfl rfl rfl (Nat.le_of_ble_eq_true rfl) ms.1 (r_sub (by omega) ms V15 (by have := G_16.2.2.1; omega) (g15.rb xp13) xp15 (41) (by omega) (by omega) (by omega)) ?_
  rintro _ _ ⟨p17, rfl, V17, rfl, g17, xp17⟩
  have G_18 := G_16.trans (g17.gs _)
  refine g_callVN [aO (some aU), aI ((p5 : Int)), aI ((p11 : Int)), aI ((p17 : Int))] [] rfl rfl rfl rfl (Nat.le_of_ble_eq_true rfl) ms.1 (m_put (by omega) ms V17 (by have := G_18.2.2.1; omega) aU hU p5 p11 p17) ?_
  rintro _ ⟨V19, rfl, p19, g19, s19, xp19⟩
  have G_20 := G_18.trans (g19.wide (fun q hq => by have hq : q = aU := hq; show q = aU; omega))
  refine g_vret rfl ?_
  exact ⟨V19, rfl, G_20.mono (by omega), _, _, _, _, s19, ((g19.rb (g17.rb (g15.rb (g13.rb (g11.rb (g9.rb (g7.rb xp5))))))).up (by omega)), ((g19.rb (g17.rb (g15.rb (g13.rb xp11)))).up (by omega)), ((g19.rb xp17).up (by omega)), (xp19.up (by omega))⟩
def m_within_S (P : T4) (R : T4) : Int := ((R.1 * ((P.1 * P.1) + (P.2.1 * P.2.1))) + (P.2.2.1 * ((R.2.1 * P.1) + (R.2.2.1 * P.2.1)))) + (R.2.2.2 * (P.2.2.1 * P.2.2.1))
set_option maxHeartbeats 4000000 in
theorem m_within {w : aW} {d : Nat} (hd : 6 ≤ d) {h : aH} {o : Nat} (ms : MS h o) (V : Nat → Nat → Int) (hF : 0 ≤ V o 1 ∧ V o 1 + 12 ≤ 700) {P : T4} (aP : Nat) (hP : SLa o aP) (tP : SB V o aP P (20)) {R : T4} (aR : Nat) (hR : SLa o aR) (tR : SB V o aR R (180))  : WP w d 299 [aO (some o), aO (some aP), aO (some aR)] (hw h V) (RI (fun r h1 => ∃ p : Nat, r = p ∧ ∃ V1, h1 = hw h V1 ∧ Gm V V1 o 12 ∧ RB V1 o p (m_within_S P R) (223))) := by
  obtain ⟨d, rfl⟩ : ∃ d1, d = d1 + 1 := ⟨d - 1, by omega⟩
  refine WP.enter (cd := cd_X12_within) rfl ?_
  have G0 := Gs.refl V o (fun _ => False)
  obtain ⟨Pp, Pq, Pr, Ps, sP, xPp, xPq, xPr, xPs⟩ := tP
  obtain ⟨Rp, Rq, Rr, Rs, sR, xRp, xRq, xRr, xRs⟩ := tR
  have hs_P := hP
  unfold SLa at hs_P
  have hs_R := hR
  unfold SLa at hs_R
  have hls : largs 0 [aO (some o), aO (some aP), aO (some aR)] = [(0, aO (some o)), (1, aO (some aP)), (2, aO (some aR))] := rfl
  rw [hls]
  clear hls
  refine g_aload_n rfl rfl ?_
  refine g_aload_n rfl rfl ?_
  refine g_iconst rfl ?_
  refine g_iald (i := 0) rfl (ms.slot hR) (by omega) (by omega) ?_
  refine g_top (v2 := aI ((Rp : Int))) (congrArg aI (by exact sR.1)) ?_
  refine g_aload_n rfl rfl ?_
  refine g_aload_n rfl rfl ?_
  refine g_aload_n rfl rfl ?_
  refine g_iconst rfl ?_
  refine g_iald (i := 0) rfl (ms.slot hP) (by omega) (by omega) ?_
  refine g_top (v2 := aI ((Pp : Int))) (congrArg aI (by exact sP.1)) ?_
  refine g_callVI [aI ((Pp : Int))] [aO (some o), aI ((Rp : Int)), aO (some o)] rfl rfl rfl rfl (Nat.le_of_ble_eq_true rfl) ms.1 (r_square (by omega) ms V (by have := G0.2.2.1; omega) xPp (by omega)) ?_
  rintro _ _ ⟨p1, rfl, V1, rfl, g1, xp1⟩
  have G_2 := G0.trans (g1.gs _)
  refine g_aload_n rfl rfl ?_
  refine g_aload_n rfl rfl ?_
  refine g_iconst rfl ?_
  refine g_iald (i := 1) rfl (ms.slot hP) (by omega) (by omega) ?_
  refine g_top (v2 := aI ((Pq : Int))) (congrArg aI (by exact (g1.sa hP sP).2.1)) ?_
  refine g_callVI [aI ((Pq : Int))] [aI ((p1 : Int)), aO (some o), aI ((Rp : Int)), aO (some o)] rfl rfl rfl rfl (Nat.le_of_ble_eq_true rfl) ms.1 (r_square (by omega) ms V1 (by have := G_2.2.2.1; omega) (g1.rb xPq) (by omega)) ?_
  rintro _ _ ⟨p3, rfl, V3, rfl, g3, xp3⟩
  have G_4 := G_2.trans (g3.gs _)
  refine g_callVI [aI ((p1 : Int)), aI ((p3 : Int))] [aI ((Rp : Int)), aO (some o)] rfl rfl rfl rfl (Nat.le_of_ble_eq_true rfl) ms.1 (r_add (by omega) ms V3 (by have := G_4.2.2.1; omega) (g3.rb xp1) xp3 (41) (by omega) (by omega) (by omega)) ?_
  rintro _ _ ⟨p5, rfl, V5, rfl, g5, xp5⟩
  have G_6 := G_4.trans (g5.gs _)
  refine g_callVI [aI ((Rp : Int)), aI ((p5 : Int))] [] rfl rfl rfl rfl (Nat.le_of_ble_eq_true rfl) ms.1 (r_mul (by omega) ms V5 (by have := G_6.2.2.1; omega) (g5.rb (g3.rb (g1.rb xRp))) xp5 (by omega)) ?_
  rintro _ _ ⟨p7, rfl, V7, rfl, g7, xp7⟩
  have G_8 := G_6.trans (g7.gs _)
  refine g_istore_n (l1 := [(3, aI ((p7 : Int))), (0, aO (some o)), (1, aO (some aP)), (2, aO (some aR))]) rfl rfl ?_
  refine g_aload_n rfl rfl ?_
  refine g_aload_n rfl rfl ?_
  refine g_iconst rfl ?_
  refine g_iald (i := 2) rfl (ms.slot hP) (by omega) (by omega) ?_
  refine g_top (v2 := aI ((Pr : Int))) (congrArg aI (by exact (g7.sa hP (g5.sa hP (g3.sa hP (g1.sa hP sP)))).2.2.1)) ?_
  refine g_aload_n rfl rfl ?_
  refine g_aload_n rfl rfl ?_
  refine g_aload_n rfl rfl ?_
  refine g_iconst rfl ?_
  refine g_iald (i := 1) rfl (ms.slot hR) (by omega) (by omega) ?_
  refine g_top (v2 := aI ((Rq : Int))) (congrArg aI (by exact (g7.sa hR (g5.sa hR (g3.sa hR (g1.sa hR sR)))).2.1)) ?_
  refine g_aload_n rfl rfl ?_
  refine g_iconst rfl ?_
  refine g_iald (i := 0) rfl (ms.slot hP) (by omega) (by omega) ?_
  refine g_top (v2 := aI ((Pp : Int))) (congrArg aI (by exact (g7.sa hP (g5.sa hP (g3.sa hP (g1.sa hP sP)))).1)) ?_
  refine g_callVI [aI ((Rq : Int)), aI ((Pp : Int))] [aO (some o), aI ((Pr : Int)), aO (some o)] rfl rfl rfl rfl (Nat.le_of_ble_eq_true rfl) ms.1 (r_mul (by omega) ms V7 (by have := G_8.2.2.1; omega) (g7.rb (g5.rb (g3.rb (g1.rb xRq)))) (g7.rb (g5.rb (g3.rb (g1.rb xPp)))) (by omega)) ?_
  rintro _ _ ⟨p9, rfl, V9, rfl, g9, xp9⟩
  have G_10 := G_8.trans (g9.gs _)
  refine g_aload_n rfl rfl ?_
  refine g_aload_n rfl rfl ?_
  refine g_iconst rfl ?_
  refine g_iald (i := 2) rfl (ms.slot hR) (by omega) (by omega) ?_
  refine g_top (v2 := aI ((Rr : Int))) (congrArg aI (by exact (g9.sa hR (g7.sa hR (g5.sa hR (g3.sa hR (g1.sa hR sR))))).2.2.1)) ?_
  refine g_aload_n rfl rfl ?_
  refine g_iconst rfl ?_
  refine g_iald (i := 1) rfl (ms.slot hP) (by omega) (by omega) ?_
  refine g_top (v2 := aI ((Pq : Int))) (congrArg aI (by exact (g9.sa hP (g7.sa hP (g5.sa hP (g3.sa hP (g1.sa hP sP))))).2.1)) ?_
  refine g_callVI [aI ((Rr : Int)), aI ((Pq : Int))] [aI ((p9 : Int)), aO (some o), aI ((Pr : Int)), aO (some o)] rfl rfl rfl rfl (Nat.le_of_ble_eq_true rfl) ms.1 (r_mul (by omega) ms V9 (by have := G_10.2.2.1; omega) (g9.rb (g7.rb (g5.rb (g3.rb (g1.rb xRr))))) (g9.rb (g7.rb (g5.rb (g3.rb (g1.rb xPq))))) (by omega)) ?_
  rintro _ _ ⟨p11, rfl, V11, rfl, g11, xp11⟩
  have G_12 := G_10.trans (g11.gs _)
  refine g_callVI [aI ((p9 : Int)), aI ((p11 : Int))] [aI ((Pr : Int)), aO (some o)] rfl rfl rfl rfl (Nat.le_of_ble_eq_true rfl) ms.1 (r_add (by omega) ms V11 (by have := G_12.2.2.1; omega) (g11.rb xp9) xp11 (201) (by omega) (by omega) (by omega)) ?_
  rintro _ _ ⟨p13, rfl, V13, rfl, g13, xp13⟩
  have G_14 := G_12.trans (g13.gs _)
  refine g_callVI [aI ((Pr : Int)), aI ((p13 : Int))] [] rfl rfl rfl rfl (Nat.le_of_ble_eq_true rfl) ms.1 (r_mul (by omega) ms V13 (by have := G_14.2.2.1; omega) (g13.rb (g11.rb (g9.rb (g7.rb (g5.rb (g3.rb (g1.rb xPr))))))) xp13 (by omega)) ?_
  rintro _ _ ⟨p15, rfl, V15, rfl, g15, xp15⟩
  have G_16 := G_14.trans (g15.gs _)
  refine g_istore (l1 := [(4, aI ((p15 : Int))), (3, aI ((p7 : Int))), (0, aO (some o)), (1, aO (some aP)), (2, aO (some aR))]) rfl rfl ?_
  refine g_aload_n rfl rfl ?_
  refine g_aload_n rfl rfl ?_
  refine g_iload_n rfl rfl ?_
  refine g_iload rfl rfl ?_
  refine g_callVI [aI ((p7 : Int)), aI ((p15 : Int))] [aO (some o)] rfl rfl rfl rfl (Nat.le_of_ble_eq_true rfl) ms.1 (r_add (by omega) ms V15 (by have := G_16.2.2.1; omega) (g15.rb (g13.rb (g11.rb (g9.rb xp7)))) xp15 (222) (by omega) (by omega) (by omega)) ?_
  rintro _ _ ⟨p17, rfl, V17, rfl, g17, xp17⟩
  have G_18 := G_16.trans (g17.gs _)
  refine g_aload_n rfl rfl ?_
  refine g_aload_n rfl rfl ?_
  refine g_iconst rfl ?_
  refine g_iald (i := 3) rfl (ms.slot hR) (by omega) (by omega) ?_
  refine g_top (v2 := aI ((Rs : Int))) (congrArg aI (by exact (g17.sa hR (g15.sa hR (g13.sa hR (g11.sa hR (g9.sa hR (g7.sa hR (g5.sa hR (g3.sa hR (g1.sa hR sR))))))))).2.2.2)) ?_
  refine g_aload_n rfl rfl ?_
  refine g_aload_n rfl rfl ?_
  refine g_iconst rfl ?_
  refine g_iald (i := 2) rfl (ms.slot hP) (by omega) (by omega) ?_
  refine g_top (v2 := aI ((Pr : Int))) (congrArg aI (by exact (g17.sa hP (g15.sa hP (g13.sa hP (g11.sa hP (g9.sa hP (g7.sa hP (g5.sa hP (g3.sa hP (g1.sa hP sP))))))))).2.2.1)) ?_
  refine g_callVI [aI ((Pr : Int))] [aI ((Rs : Int)), aO (some o), aI ((p17 : Int)), aO (some o)] rfl rfl rfl rfl (Nat.le_of_ble_eq_true rfl) ms.1 (r_square (by omega) ms V17 (by have := G_18.2.2.1; omega) (g17.rb (g15.rb (g13.rb (g11.rb (g9.rb (g7.rb (g5.rb (g3.rb (g1.rb xPr))))))))) (by omega)) ?_
  rintro _ _ ⟨p19, rfl, V19, rfl, g19, xp19⟩
  have G_20 := G_18.trans (g19.gs _)
  refine g_callVI [aI ((Rs : Int)), aI ((p19 : Int))] [aI ((p17 : Int)), aO (some o)] rfl rfl rfl rfl (Nat.le_of_ble_eq_true rfl) ms.1 (r_mul (by omega) ms V19 (by have := G_20.2.2.1; omega) (g19.rb (g17.rb (g15.rb (g13.rb (g11.rb (g9.rb (g7.rb (g5.rb (g3.rb (g1.rb xRs)))))))))) xp19 (by omega)) ?_
  rintro _ _ ⟨p21, rfl, V21, rfl, g21, xp21⟩
  have G_22 := G_20.trans (g21.gs _)
  refine g_callVI [aI ((p17 : Int)), aI ((p21 : Int))] [] rfl rfl rfl rfl (Nat.le_of_ble_eq_true rfl) ms.1 (r_add (by omega) ms V21 (by have := G_22.2.2.1; omega) (g21.rb (g19.rb xp17)) xp21 (223) (by omega) (by omega) (by omega)) ?_
  rintro _ _ ⟨p23, rfl, V23, rfl, g23, xp23⟩
  have G_24 := G_22.trans (g23.gs _)
  refine g_iret rfl ?_
  exact ⟨p23, rfl, V23, rfl, (G_24.mono (by omega)).gm, (xp23.up (by omega))⟩
def m_upright_S (P : T4) (L : T4) : T4 := m_cross_S P ((L.1, L.2.1, 0, 0))
set_option maxHeartbeats 4000000 in
theorem m_upright {w : aW} {d : Nat} (hd : 7 ≤ d) {h : aH} {o : Nat} (ms : MS h o) (V : Nat → Nat → Int) (hF : 0 ≤ V o 1 ∧ V o 1 + 12 ≤ 700) {P : T4} (aP : Nat) (hP : SLa o aP) (tP : SB V o aP P (20)) {L : T4} (aL : Nat) (hL : SLa o aL) (tL : SB V o aL L (42)) (aU : Nat) (hU : SLa o aU) (hy0 : aP ≠ o + 28) : WP w d 301 [aO (some o), aO (some aP), aO (some aL), aO (some aU)] (hw h V) (RN (fun h1 => ∃ V1, h1 = hw h V1 ∧ Gs V V1 o 12 (fun q => q = o + 28 ∨ q = aU) ∧ SB V1 o aU (m_upright_S P L) (85))) := by
  obtain ⟨d, rfl⟩ : ∃ d1, d = d1 + 1 := ⟨d - 1, by omega⟩
  refine WP.enter (cd := cd_X12_upright) rfl ?_
  have G0 := Gs.refl V o (fun q => q = o + 28 ∨ q = aU)
  obtain ⟨Pp, Pq, Pr, Ps, sP, xPp, xPq, xPr, xPs⟩ := tP
  obtain ⟨Lp, Lq, Lr, Ls, sL, xLp, xLq, xLr, xLs⟩ := tL
  have hs_P := hP
  unfold SLa at hs_P
  have hs_L := hL
  unfold SLa at hs_L
  have hs_U := hU
  unfold SLa at hs_U
  have hls : largs 0 [aO (some o), aO (some aP), aO (some aL), aO (some aU)] = [(0, aO (some o)), (1, aO (some aP)), (2, aO (some aL)), (3, aO (some aU))] := rfl
  rw [hls]
  clear hls
  refine g_aload_n rfl rfl ?_
  refine g_aload_n rfl rfl ?_
  refine g_getR rfl ms.1 (mr_five ms) ?_
  refine g_aload_n rfl rfl ?_
  refine g_iconst rfl ?_
  refine g_iald (i := 0) rfl (ms.slot hL) (by omega) (by omega) ?_
  refine g_top (v2 := aI ((Lp : Int))) (congrArg aI (by exact sL.1)) ?_
  refine g_aload_n rfl rfl ?_
  refine g_iconst rfl ?_
  refine g_iald (i := 1) rfl (ms.slot hL) (by omega) (by omega) ?_
  refine g_top (v2 := aI ((Lq : Int))) (congrArg aI (by exact sL.2.1)) ?_
  refine g_aload_n rfl rfl ?_
  refine g_lconst0 rfl ?_
  refine g_callVI [aJ 0] [aI ((Lq : Int)), aI ((Lp : Int)), aO (some (o + 28)), aO (some o)] rfl rfl rfl rfl (Nat.le_of_ble_eq_true rfl) ms.1 (r_num (by omega) ms V (by have := G0.2.2.1; omega) 0 (by omega) 0 (by decide)) ?_
  rintro _ _ ⟨p1, rfl, V1, rfl, g1, xp1⟩
  have G_2 := G0.trans (g1.gs _)
  refine g_callVN [aO (some (o + 28)), aI ((Lp : Int)), aI ((Lq : Int)), aI ((p1 : Int))] [] rfl rfl rfl rfl (Nat.le_of_ble_eq_true rfl) ms.1 (m_put (by omega) ms V1 (by have := G_2.2.2.1; omega) ((o + 28)) (show SLa o ((o + 28)) by unfold SLa; omega) Lp Lq p1) ?_
  rintro _ ⟨V3, rfl, p3, g3, s3, xp3⟩
  have G_4 := G_2.trans (g3.wide (fun q hq => by have hq : q = o + 28 := hq; show q = o + 28 ∨ q = aU; omega))
  refine g_aload_n rfl rfl ?_
  refine g_aload_n rfl rfl ?_
  refine g_aload_n rfl rfl ?_
  refine g_getR rfl ms.1 (mr_five ms) ?_
  refine g_aload_n rfl rfl ?_
  refine g_callVN [aO (some aP), aO (some (o + 28)), aO (some aU)] [] rfl rfl rfl rfl (Nat.le_of_ble_eq_true rfl) ms.1 (m_cross (by omega) ms V3 (by have := G_4.2.2.1; omega) aP hP (show SB V3 o aP P (42) from ⟨_, _, _, _, (g3.sa hP (show ¬(aP = o + 28) by omega) (g1.sa hP sP)), ((g3.rb (g1.rb xPp)).up (by omega)), ((g3.rb (g1.rb xPq)).up (by omega)), ((g3.rb (g1.rb xPr)).up (by omega)), ((g3.rb (g1.rb xPs)).up (by omega))⟩) ((o + 28)) (show SLa o ((o + 28)) by unfold SLa; omega) (show SB V3 o (o + 28) ((L.1, L.2.1, 0, 0)) (42) from ⟨_, _, _, _, s3, ((g3.rb (g1.rb xLp)).up (by omega)), ((g3.rb (g1.rb xLq)).up (by omega)), ((g3.rb xp1).up (by omega)), (xp3.up (by omega))⟩) aU hU (by omega)) ?_
  rintro _ ⟨V5, rfl, g5, t5, u5, v5, y5, s5, xt5, xu5, xv5, xy5⟩
  have G_6 := G_4.trans (g5.wide (fun q hq => by have hq : q = aU := hq; show q = o + 28 ∨ q = aU; omega))
  refine g_vret rfl ?_
  exact ⟨V5, rfl, G_6.mono (by omega), _, _, _, _, s5, (xt5.up (by omega)), (xu5.up (by omega)), (xv5.up (by omega)), (xy5.up (by omega))⟩
def m_apart_S (P : T4) (Q : T4) : Int := (((P.1 * Q.2.2.1) - (Q.1 * P.2.2.1)) * ((P.1 * Q.2.2.1) - (Q.1 * P.2.2.1))) + (((P.2.1 * Q.2.2.1) - (Q.2.1 * P.2.2.1)) * ((P.2.1 * Q.2.2.1) - (Q.2.1 * P.2.2.1)))
set_option maxHeartbeats 4000000 in
theorem m_apart {w : aW} {d : Nat} (hd : 6 ≤ d) {h : aH} {o : Nat} (ms : MS h o) (V : Nat → Nat → Int) (hF : 0 ≤ V o 1 ∧ V o 1 + 9 ≤ 700) {P : T4} (aP : Nat) (hP : SLa o aP) (tP : SB V o aP P (20)) {Q : T4} (aQ : Nat) (hQ : SLa o aQ) (tQ : SB V o aQ Q (20))  : WP w d 321 [aO (some o), aO (some aP), aO (some aQ)] (hw h V) (RI (fun r h1 => ∃ p : Nat, r = p ∧ ∃ V1, h1 = hw h V1 ∧ Gm V V1 o 9 ∧ RB V1 o p (m_apart_S P Q) (83))) := by
  obtain ⟨d, rfl⟩ : ∃ d1, d = d1 + 1 := ⟨d - 1, by omega⟩
  refine WP.enter (cd := cd_X12_apart) rfl ?_
  have G0 := Gs.refl V o (fun _ => False)
  obtain ⟨Pp, Pq, Pr, Ps, sP, xPp, xPq, xPr, xPs⟩ := tP
  obtain ⟨Qp, Qq, Qr, Qs, sQ, xQp, xQq, xQr, xQs⟩ := tQ
  have hs_P := hP
  unfold SLa at hs_P
  have hs_Q := hQ
  unfold SLa at hs_Q
  have hls : largs 0 [aO (some o), aO (some aP), aO (some aQ)] = [(0, aO (some o)), (1, aO (some aP)), (2, aO (some aQ))] := rfl
  rw [hls]
  clear hls
  refine g_aload_n rfl rfl ?_
  refine g_aload_n rfl rfl ?_
  refine g_aload_n rfl rfl ?_
  refine g_aload_n rfl rfl ?_
  refine g_aload_n rfl rfl ?_
  refine g_iconst rfl ?_
  refine g_iald (i := 0) rfl (ms.slot hP) (by omega) (by omega) ?_
  refine g_top (v2 := aI ((Pp : Int))) (congrArg aI (by exact sP.1)) ?_
  refine g_aload_n rfl rfl ?_
  refine g_iconst rfl ?_
  refine g_iald (i := 2) rfl (ms.slot hQ) (by omega) (by omega) ?_
  refine g_top (v2 := aI ((Qr : Int))) (congrArg aI (by exact sQ.2.2.1)) ?_
  refine g_callVI [aI ((Pp : Int)), aI ((Qr : Int))] [aO (some o), aO (some o), aO (some o)] rfl rfl rfl rfl (Nat.le_of_ble_eq_true rfl) ms.1 (r_mul (by omega) ms V (by have := G0.2.2.1; omega) xPp xQr (by omega)) ?_
  rintro _ _ ⟨p1, rfl, V1, rfl, g1, xp1⟩
  have G_2 := G0.trans (g1.gs _)
  refine g_aload_n rfl rfl ?_
  refine g_aload_n rfl rfl ?_
  refine g_iconst rfl ?_
  refine g_iald (i := 0) rfl (ms.slot hQ) (by omega) (by omega) ?_
  refine g_top (v2 := aI ((Qp : Int))) (congrArg aI (by exact (g1.sa hQ sQ).1)) ?_
  refine g_aload_n rfl rfl ?_
  refine g_iconst rfl ?_
  refine g_iald (i := 2) rfl (ms.slot hP) (by omega) (by omega) ?_
  refine g_top (v2 := aI ((Pr : Int))) (congrArg aI (by exact (g1.sa hP sP).2.2.1)) ?_
  refine g_callVI [aI ((Qp : Int)), aI ((Pr : Int))] [aI ((p1 : Int)), aO (some o), aO (some o), aO (some o)] rfl rfl rfl rfl (Nat.le_of_ble_eq_true rfl) ms.1 (r_mul (by omega) ms V1 (by have := G_2.2.2.1; omega) (g1.rb xQp) (g1.rb xPr) (by omega)) ?_
  rintro _ _ ⟨p3, rfl, V3, rfl, g3, xp3⟩
  have G_4 := G_2.trans (g3.gs _)
  refine g_callVI [aI ((p1 : Int)), aI ((p3 : Int))] [aO (some o), aO (some o)] rfl rfl rfl rfl (Nat.le_of_ble_eq_true rfl) ms.1 (r_sub (by omega) ms V3 (by have := G_4.2.2.1; omega) (g3.rb xp1) xp3 (41) (by omega) (by omega) (by omega)) ?_
  rintro _ _ ⟨p5, rfl, V5, rfl, g5, xp5⟩
  have G_6 := G_4.trans (g5.gs _)
  refine g_callVI [aI ((p5 : Int))] [aO (some o)] rfl rfl rfl rfl (Nat.le_of_ble_eq_true rfl) ms.1 (r_square (by omega) ms V5 (by have := G_6.2.2.1; omega) xp5 (by omega)) ?_
  rintro _ _ ⟨p7, rfl, V7, rfl, g7, xp7⟩
  have G_8 := G_6.trans (g7.gs _)
  refine g_aload_n rfl rfl ?_
  refine g_aload_n rfl rfl ?_
  refine g_aload_n rfl rfl ?_
  refine g_aload_n rfl rfl ?_
  refine g_iconst rfl ?_
  refine g_iald (i := 1) rfl (ms.slot hP) (by omega) (by omega) ?_
  refine g_top (v2 := aI ((Pq : Int))) (congrArg aI (by exact (g7.sa hP (g5.sa hP (g3.sa hP (g1.sa hP sP)))).2.1)) ?_
  refine g_aload_n rfl rfl ?_
  refine g_iconst rfl ?_
  refine g_iald (i := 2) rfl (ms.slot hQ) (by omega) (by omega) ?_
  refine g_top (v2 := aI ((Qr : Int))) (congrArg aI (by exact (g7.sa hQ (g5.sa hQ (g3.sa hQ (g1.sa hQ sQ)))).2.2.1)) ?_
  refine g_callVI [aI ((Pq : Int)), aI ((Qr : Int))] [aO (some o), aO (some o), aI ((p7 : Int)), aO (some o)] rfl rfl rfl rfl (Nat.le_of_ble_eq_true rfl) ms.1 (r_mul (by omega) ms V7 (by have := G_8.2.2.1; omega) (g7.rb (g5.rb (g3.rb (g1.rb xPq)))) (g7.rb (g5.rb (g3.rb (g1.rb xQr)))) (by omega)) ?_
  rintro _ _ ⟨p9, rfl, V9, rfl, g9, xp9⟩
  have G_10 := G_8.trans (g9.gs _)
  refine g_aload_n rfl rfl ?_
  refine g_aload_n rfl rfl ?_
  refine g_iconst rfl ?_
  refine g_iald (i := 1) rfl (ms.slot hQ) (by omega) (by omega) ?_
  refine g_top (v2 := aI ((Qq : Int))) (congrArg aI (by exact (g9.sa hQ (g7.sa hQ (g5.sa hQ (g3.sa hQ (g1.sa hQ sQ))))).2.1)) ?_
  refine g_aload_n rfl rfl ?_
  refine g_iconst rfl ?_
  refine g_iald (i := 2) rfl (ms.slot hP) (by omega) (by omega) ?_
  refine g_top (v2 := aI ((Pr : Int))) (congrArg aI (by exact (g9.sa hP (g7.sa hP (g5.sa hP (g3.sa hP (g1.sa hP sP))))).2.2.1)) ?_
  refine g_callVI [aI ((Qq : Int)), aI ((Pr : Int))] [aI ((p9 : Int)), aO (some o), aO (some o), aI ((p7 : Int)), aO (some o)] rfl rfl rfl rfl (Nat.le_of_ble_eq_true rfl) ms.1 (r_mul (by omega) ms V9 (by have := G_10.2.2.1; omega) (g9.rb (g7.rb (g5.rb (g3.rb (g1.rb xQq))))) (g9.rb (g7.rb (g5.rb (g3.rb (g1.rb xPr))))) (by omega)) ?_
  rintro _ _ ⟨p11, rfl, V11, rfl, g11, xp11⟩
  have G_12 := G_10.trans (g11.gs _)
  refine g_callVI [aI ((p9 : Int)), aI ((p11 : Int))] [aO (some o), aI ((p7 : Int)), aO (some o)] rfl rfl rfl rfl (Nat.le_of_ble_eq_true rfl) ms.1 (r_sub (by omega) ms V11 (by have := G_12.2.2.1; omega) (g11.rb xp9) xp11 (41) (by omega) (by omega) (by omega)) ?_
  rintro _ _ ⟨p13, rfl, V13, rfl, g13, xp13⟩
  have G_14 := G_12.trans (g13.gs _)
  refine g_callVI [aI ((p13 : Int))] [aI ((p7 : Int)), aO (some o)] rfl rfl rfl rfl (Nat.le_of_ble_eq_true rfl) ms.1 (r_square (by omega) ms V13 (by have := G_14.2.2.1; omega) xp13 (by omega)) ?_
  rintro _ _ ⟨p15, rfl, V15, rfl, g15, xp15⟩
  have G_16 := G_14.trans (g15.gs _)
  refine g_callVI [aI ((p7 : Int)), aI ((p15 : Int))] [] rfl rfl rfl rfl (Nat.le_of_ble_eq_true rfl) ms.1 (r_add (by omega) ms V15 (by have := G_16.2.2.1; omega) (g15.rb (g13.rb (g11.rb (g9.rb xp7)))) xp15 (83) (by omega) (by omega) (by omega)) ?_
  rintro _ _ ⟨p17, rfl, V17, rfl, g17, xp17⟩
  have G_18 := G_16.trans (g17.gs _)
  refine g_iret rfl ?_
  exact ⟨p17, rfl, V17, rfl, (G_18.mono (by omega)).gm, (xp17.up (by omega))⟩
def m_rows_S (z1 : Int) (z2 : Int) (z3 : Int) (z4 : Int) (z5 : Int) (z6 : Int) (z7 : Int) (z8 : Int) (z9 : Int) : Int := ((z1 * ((z5 * z9) - (z6 * z8))) + (z2 * ((z6 * z7) - (z4 * z9)))) + (z3 * ((z4 * z8) - (z5 * z7)))
set_option maxHeartbeats 4000000 in
theorem m_rows {w : aW} {d : Nat} (hd : 6 ≤ d) {k : Nat} {h : aH} {o : Nat} (ms : MS h o) (V : Nat → Nat → Int) (hF : 0 ≤ V o 1 ∧ V o 1 + 14 ≤ 700) {az1 : Nat} {z1 : Int} (tz1 : RB V o az1 z1 (k)) {az2 : Nat} {z2 : Int} (tz2 : RB V o az2 z2 (k)) {az3 : Nat} {z3 : Int} (tz3 : RB V o az3 z3 (k)) {az4 : Nat} {z4 : Int} (tz4 : RB V o az4 z4 (k)) {az5 : Nat} {z5 : Int} (tz5 : RB V o az5 z5 (k)) {az6 : Nat} {z6 : Int} (tz6 : RB V o az6 z6 (k)) {az7 : Nat} {z7 : Int} (tz7 : RB V o az7 z7 (k)) {az8 : Nat} {z8 : Int} (tz8 : RB V o az8 z8 (k)) {az9 : Nat} {z9 : Int} (tz9 : RB V o az9 z9 (k))  (hk : k ≤ 126) : WP w d 303 [aO (some o), aI ((az1 : Int)), aI ((az2 : Int)), aI ((az3 : Int)), aI ((az4 : Int)), aI ((az5 : Int)), aI ((az6 : Int)), aI ((az7 : Int)), aI ((az8 : Int)), aI ((az9 : Int))] (hw h V) (RI (fun r h1 => ∃ p : Nat, r = p ∧ ∃ V1, h1 = hw h V1 ∧ Gm V V1 o 14 ∧ RB V1 o p (m_rows_S z1 z2 z3 z4 z5 z6 z7 z8 z9) (3 * k + 3))) := by
  obtain ⟨d, rfl⟩ : ∃ d1, d = d1 + 1 := ⟨d - 1, by omega⟩
  refine WP.enter (cd := cd_X12_rows) rfl ?_
  have G0 := Gs.refl V o (fun _ => False)
  have hls : largs 0 [aO (some o), aI ((az1 : Int)), aI ((az2 : Int)), aI ((az3 : Int)), aI ((az4 : Int)), aI ((az5 : Int)), aI ((az6 : Int)), aI ((az7 : Int)), aI ((az8 : Int)), aI ((az9 : Int))] = [(0, aO (some o)), (1, aI ((az1 : Int))), (2, aI ((az2 : Int))), (3, aI ((az3 : Int))), (4, aI ((az4 : Int))), (5, aI ((az5 : Int))), (6, aI ((az6 : Int))), (7, aI ((az7 : Int))), (8, aI ((az8 : Int))), (9, aI ((az9 : Int)))] := rfl
  rw [hls]
  clear hls
  refine g_aload_n rfl rfl ?_
  refine g_iload_n rfl rfl ?_
  refine g_aload_n rfl rfl ?_
  refine g_aload_n rfl rfl ?_
  refine g_iload rfl rfl ?_
  refine g_iload rfl rfl ?_
  refine g_callVI [aI ((az5 : Int)), aI ((az9 : Int))] [aO (some o), aI ((az1 : Int)), aO (some o)] rfl rfl rfl rfl (Nat.le_of_ble_eq_true rfl) ms.1 (r_mul (by omega) ms V (by have := G0.2.2.1; omega) tz5 tz9 (by omega)) ?_
  rintro _ _ ⟨p1, rfl, V1, rfl, g1, xp1⟩
  have G_2 := G0.trans (g1.gs _)
  refine g_aload_n rfl rfl ?_
  refine g_iload rfl rfl ?_
  refine g_iload rfl rfl ?_
  refine g_callVI [aI ((az6 : Int)), aI ((az8 : Int))] [aI ((p1 : Int)), aO (some o), aI ((az1 : Int)), aO (some o)] rfl rfl rfl rfl (Nat.le_of_ble_eq_true rfl) ms.1 (r_mul (by omega) ms V1 (by have := G_2.2.2.1; omega) (g1.rb tz6) (g1.rb tz8) (by omega)) ?_
  rintro _ _ ⟨p3, rfl, V3, rfl, g3, xp3⟩
  have G_4 := G_2.trans (g3.gs _)
  refine g_callVI [aI ((p1 : Int)), aI ((p3 : Int))] [aI ((az1 : Int)), aO (some o)] rfl rfl rfl rfl (Nat.le_of_ble_eq_true rfl) ms.1 (r_sub (by omega) ms V3 (by have := G_4.2.2.1; omega) (g3.rb xp1) xp3 (2 * k + 1) (by omega) (by omega) (by omega)) ?_
  rintro _ _ ⟨p5, rfl, V5, rfl, g5, xp5⟩
  have G_6 := G_4.trans (g5.gs _)
  refine g_callVI [aI ((az1 : Int)), aI ((p5 : Int))] [] rfl rfl rfl rfl (Nat.le_of_ble_eq_true rfl) ms.1 (r_mul (by omega) ms V5 (by have := G_6.2.2.1; omega) (g5.rb (g3.rb (g1.rb tz1))) xp5 (by omega)) ?_
  rintro _ _ ⟨p7, rfl, V7, rfl, g7, xp7⟩
  have G_8 := G_6.trans (g7.gs _)
  refine g_istore (l1 := [(10, aI ((p7 : Int))), (0, aO (some o)), (1, aI ((az1 : Int))), (2, aI ((az2 : Int))), (3, aI ((az3 : Int))), (4, aI ((az4 : Int))), (5, aI ((az5 : Int))), (6, aI ((az6 : Int))), (7, aI ((az7 : Int))), (8, aI ((az8 : Int))), (9, aI ((az9 : Int)))]) rfl rfl ?_
  refine g_aload_n rfl rfl ?_
  refine g_iload_n rfl rfl ?_
  refine g_aload_n rfl rfl ?_
  refine g_aload_n rfl rfl ?_
  refine g_iload rfl rfl ?_
  refine g_iload rfl rfl ?_
  refine g_callVI [aI ((az6 : Int)), aI ((az7 : Int))] [aO (some o), aI ((az2 : Int)), aO (some o)] rfl rfl rfl rfl (Nat.le_of_ble_eq_true rfl) ms.1 (r_mul (by omega) ms V7 (by have := G_8.2.2.1; omega) (g7.rb (g5.rb (g3.rb (g1.rb tz6)))) (g7.rb (g5.rb (g3.rb (g1.rb tz7)))) (by omega)) ?_
  rintro _ _ ⟨p9, rfl, V9, rfl, g9, xp9⟩
  have G_10 := G_8.trans (g9.gs _)
  refine g_aload_n rfl rfl ?_
  refine g_iload rfl rfl ?_
  refine g_iload rfl rfl ?_
  refine g_callVI [aI ((az4 : Int)), aI ((az9 : Int))] [aI ((p9 : Int)), aO (some o), aI ((az2 : Int)), aO (some o)] rfl rfl rfl rfl (Nat.le_of_ble_eq_true rfl) ms.1 (r_mul (by omega) ms V9 (by have := G_10.2.2.1; omega) (g9.rb (g7.rb (g5.rb (g3.rb (g1.rb tz4))))) (g9.rb (g7.rb (g5.rb (g3.rb (g1.rb tz9))))) (by omega)) ?_
  rintro _ _ ⟨p11, rfl, V11, rfl, g11, xp11⟩
  have G_12 := G_10.trans (g11.gs _)
  refine g_callVI [aI ((p9 : Int)), aI ((p11 : Int))] [aI ((az2 : Int)), aO (some o)] rfl rfl rfl rfl (Nat.le_of_ble_eq_true rfl) ms.1 (r_sub (by omega) ms V11 (by have := G_12.2.2.1; omega) (g11.rb xp9) xp11 (2 * k + 1) (by omega) (by omega) (by omega)) ?_
  rintro _ _ ⟨p13, rfl, V13, rfl, g13, xp13⟩
  have G_14 := G_12.trans (g13.gs _)
  refine g_callVI [aI ((az2 : Int)), aI ((p13 : Int))] [] rfl rfl rfl rfl (Nat.le_of_ble_eq_true rfl) ms.1 (r_mul (by omega) ms V13 (by have := G_14.2.2.1; omega) (g13.rb (g11.rb (g9.rb (g7.rb (g5.rb (g3.rb (g1.rb tz2))))))) xp13 (by omega)) ?_
  rintro _ _ ⟨p15, rfl, V15, rfl, g15, xp15⟩
  have G_16 := G_14.trans (g15.gs _)
  refine g_istore (l1 := [(11, aI ((p15 : Int))), (10, aI ((p7 : Int))), (0, aO (some o)), (1, aI ((az1 : Int))), (2, aI ((az2 : Int))), (3, aI ((az3 : Int))), (4, aI ((az4 : Int))), (5, aI ((az5 : Int))), (6, aI ((az6 : Int))), (7, aI ((az7 : Int))), (8, aI ((az8 : Int))), (9, aI ((az9 : Int)))]) rfl rfl ?_
  refine g_aload_n rfl rfl ?_
  refine g_iload_n rfl rfl ?_
  refine g_aload_n rfl rfl ?_
  refine g_aload_n rfl rfl ?_
  refine g_iload rfl rfl ?_
  refine g_iload rfl rfl ?_
  refine g_callVI [aI ((az4 : Int)), aI ((az8 : Int))] [aO (some o), aI ((az3 : Int)), aO (some o)] rfl rfl rfl rfl (Nat.le_of_ble_eq_true rfl) ms.1 (r_mul (by omega) ms V15 (by have := G_16.2.2.1; omega) (g15.rb (g13.rb (g11.rb (g9.rb (g7.rb (g5.rb (g3.rb (g1.rb tz4)))))))) (g15.rb (g13.rb (g11.rb (g9.rb (g7.rb (g5.rb (g3.rb (g1.rb tz8)))))))) (by omega)) ?_
  rintro _ _ ⟨p17, rfl, V17, rfl, g17, xp17⟩
  have G_18 := G_16.trans (g17.gs _)
  refine g_aload_n rfl rfl ?_
  refine g_iload rfl rfl ?_
  refine g_iload rfl rfl ?_
  refine g_callVI [aI ((az5 : Int)), aI ((az7 : Int))] [aI ((p17 : Int)), aO (some o), aI ((az3 : Int)), aO (some o)] rfl rfl rfl rfl (Nat.le_of_ble_eq_true rfl) ms.1 (r_mul (by omega) ms V17 (by have := G_18.2.2.1; omega) (g17.rb (g15.rb (g13.rb (g11.rb (g9.rb (g7.rb (g5.rb (g3.rb (g1.rb tz5))))))))) (g17.rb (g15.rb (g13.rb (g11.rb (g9.rb (g7.rb (g5.rb (g3.rb (g1.rb tz7))))))))) (by omega)) ?_
  rintro _ _ ⟨p19, rfl, V19, rfl, g19, xp19⟩
  have G_20 := G_18.trans (g19.gs _)
  refine g_callVI [aI ((p17 : Int)), aI ((p19 : Int))] [aI ((az3 : Int)), aO (some o)] rfl rfl rfl rfl (Nat.le_of_ble_eq_true rfl) ms.1 (r_sub (by omega) ms V19 (by have := G_20.2.2.1; omega) (g19.rb xp17) xp19 (2 * k + 1) (by omega) (by omega) (by omega)) ?_
  rintro _ _ ⟨p21, rfl, V21, rfl, g21, xp21⟩
  have G_22 := G_20.trans (g21.gs _)
  refine g_callVI [aI ((az3 : Int)), aI ((p21 : Int))] [] rfl rfl rfl rfl (Nat.le_of_ble_eq_true rfl) ms.1 (r_mul (by omega) ms V21 (by have := G_22.2.2.1; omega) (g21.rb (g19.rb (g17.rb (g15.rb (g13.rb (g11.rb (g9.rb (g7.rb (g5.rb (g3.rb (g1.rb tz3))))))))))) xp21 (by omega)) ?_
  rintro _ _ ⟨p23, rfl, V23, rfl, g23, xp23⟩
  have G_24 := G_22.trans (g23.gs _)
  refine g_istore (l1 := [(12, aI ((p23 : Int))), (11, aI ((p15 : Int))), (10, aI ((p7 : Int))), (0, aO (some o)), (1, aI ((az1 : Int))), (2, aI ((az2 : Int))), (3, aI ((az3 : Int))), (4, aI ((az4 : Int))), (5, aI ((az5 : Int))), (6, aI ((az6 : Int))), (7, aI ((az7 : Int))), (8, aI ((az8 : Int))), (9, aI ((az9 : Int)))]) rfl rfl ?_
  refine g_aload_n rfl rfl ?_
  refine g_aload_n rfl rfl ?_
  refine g_iload rfl rfl ?_
  refine g_iload rfl rfl ?_
  refine g_callVI [aI ((p7 : Int)), aI ((p15 : Int))] [aO (some o)] rfl rfl rfl rfl (Nat.le_of_ble_eq_true rfl) ms.1 (r_add (by omega) ms V23 (by have := G_24.2.2.1; omega) (g23.rb (g21.rb (g19.rb (g17.rb (g15.rb (g13.rb (g11.rb (g9.rb xp7)))))))) (g23.rb (g21.rb (g19.rb (g17.rb xp15)))) (3 * k + 2) (by omega) (by omega) (by omega)) ?_
  rintro _ _ ⟨p25, rfl, V25, rfl, g25, xp25⟩
  have G_26 := G_24.trans (g25.gs _)
  refine g_iload rfl rfl ?_
  refine g_callVI [aI ((p25 : Int)), aI ((p23 : Int))] [] rfl rfl rfl rfl (Nat.le_of_ble_eq_true rfl) ms.1 (r_add (by omega) ms V25 (by have := G_26.2.2.1; omega) xp25 (g25.rb xp23) (3 * k + 3) (by omega) (by omega) (by omega)) ?_
  rintro _ _ ⟨p27, rfl, V27, rfl, g27, xp27⟩
  have G_28 := G_26.trans (g27.gs _)
  refine g_iret rfl ?_
  exact ⟨p27, rfl, V27, rfl, (G_28.mono (by omega)).gm, (xp27.up (by omega))⟩
set_option maxHeartbeats 4000000 in
theorem m_isZero {w : aW} {d : Nat} (hd : 3 ≤ d) {k : Nat} {h : aH} {o : Nat} (ms : MS h o) (V : Nat → Nat → Int) {P : T4} (aP : Nat) (hP : SLa o aP) (tP : SB V o aP P (k))  : WP w d 290 [aO (some o), aO (some aP)] (hw h V) (RI (fun r h1 => h1 = hw h V ∧ r = if P.1 = 0 ∧ P.2.1 = 0 ∧ P.2.2.1 = 0 then 1 else 0)) := by
  obtain ⟨d, rfl⟩ : ∃ d1, d = d1 + 1 := ⟨d - 1, by omega⟩
  refine WP.enter (cd := cd_X12_isZero) rfl ?_
  have G0 := Gs.refl V o (fun _ => False)
  obtain ⟨Pp, Pq, Pr, Ps, sP, xPp, xPq, xPr, xPs⟩ := tP
  have hs_P := hP
  unfold SLa at hs_P
  have hls : largs 0 [aO (some o), aO (some aP)] = [(0, aO (some o)), (1, aO (some aP))] := rfl
  rw [hls]
  clear hls
  refine g_aload_n rfl rfl ?_
  refine g_aload_n rfl rfl ?_
  refine g_iconst rfl ?_
  refine g_iald (i := 0) rfl (ms.slot hP) (by omega) (by omega) ?_
  refine g_top (v2 := aI ((Pp : Int))) (congrArg aI (by exact sP.1)) ?_
  refine g_callVI [aI ((Pp : Int))] [] rfl rfl rfl rfl (Nat.le_of_ble_eq_true rfl) ms.1 (r_sign (by omega) ms V xPp) ?_
  rintro r1 _ ⟨rfl, e2⟩
  rw [e2]
  clear e2 r1
  refine g_if_ne rfl (fun c7 => ?_) (fun c7 => ?_)
  · skip
    refine g_iconst rfl ?_
    refine g_zret rfl (by omega) ?_
    refine ⟨rfl, ?_⟩
    have l1 := @lcmp_0 P.1 0
    have l2 := @lcmp_0 P.2.1 0
    have l3 := @lcmp_0 P.2.2.1 0
    first
      | rw [if_pos (by omega)]
      | rw [if_neg (by omega)]
  · skip
    refine g_aload_n rfl rfl ?_
    refine g_aload_n rfl rfl ?_
    refine g_iconst rfl ?_
    refine g_iald (i := 1) rfl (ms.slot hP) (by omega) (by omega) ?_
    refine g_top (v2 := aI ((Pq : Int))) (congrArg aI (by exact sP.2.1)) ?_
    refine g_callVI [aI ((Pq : Int))] [] rfl rfl rfl rfl (Nat.le_of_ble_eq_true rfl) ms.1 (r_sign (by omega) ms V xPq) ?_
    rintro r3 _ ⟨rfl, e4⟩
    rw [e4]
    clear e4 r3
    refine g_if_ne rfl (fun c17 => ?_) (fun c17 => ?_)
    · skip
      refine g_iconst rfl ?_
      refine g_zret rfl (by omega) ?_
      refine ⟨rfl, ?_⟩
      have l1 := @lcmp_0 P.1 0
      have l2 := @lcmp_0 P.2.1 0
      have l3 := @lcmp_0 P.2.2.1 0
      first
        | rw [if_pos (by omega)]
        | rw [if_neg (by omega)]
    · skip
      refine g_aload_n rfl rfl ?_
      refine g_aload_n rfl rfl ?_
      refine g_iconst rfl ?_
      refine g_iald (i := 2) rfl (ms.slot hP) (by omega) (by omega) ?_
      refine g_top (v2 := aI ((Pr : Int))) (congrArg aI (by exact sP.2.2.1)) ?_
      refine g_callVI [aI ((Pr : Int))] [] rfl rfl rfl rfl (Nat.le_of_ble_eq_true rfl) ms.1 (r_sign (by omega) ms V xPr) ?_
      rintro r5 _ ⟨rfl, e6⟩
      rw [e6]
      clear e6 r5
      refine g_if_ne rfl (fun c27 => ?_) (fun c27 => ?_)
      · skip
        refine g_iconst rfl ?_
        refine g_zret rfl (by omega) ?_
        refine ⟨rfl, ?_⟩
        have l1 := @lcmp_0 P.1 0
        have l2 := @lcmp_0 P.2.1 0
        have l3 := @lcmp_0 P.2.2.1 0
        first
          | rw [if_pos (by omega)]
          | rw [if_neg (by omega)]
      · skip
        refine g_iconst rfl ?_
        refine g_goto rfl ?_
        refine g_zret rfl (by omega) ?_
        refine ⟨rfl, ?_⟩
        have l1 := @lcmp_0 P.1 0
        have l2 := @lcmp_0 P.2.1 0
        have l3 := @lcmp_0 P.2.2.1 0
        first
          | rw [if_pos (by omega)]
          | rw [if_neg (by omega)]
