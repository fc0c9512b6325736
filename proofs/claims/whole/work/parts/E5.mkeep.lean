/-! the reference keeps a thing: printed by wip/whole/e5.py -/
/-- the memory after a thing is kept -/
def keepW (o n : Nat) (V : Nat → Nat → Int) (s : Int) (R : T4) : Nat → Nat → Int := vset (vset (vset (vset (vset (vset V (o + 4) n s) (o + 5) (4 * n) R.1) (o + 5) (4 * n + 1) R.2.1) (o + 5) (4 * n + 2) R.2.2.1) (o + 5) (4 * n + 3) R.2.2.2) o 7 ((n : Int) + 1)
theorem keepW_fr (o n : Nat) (V : Nat → Nat → Int) (s : Int) (R : T4) : ∀ a, a ≠ o → a ≠ o + 4 → a ≠ o + 5 → keepW o n V s R a = V a := fun a h1 h2 h3 => by
  funext j
  unfold keepW
  rw [vset_ne _ _ _ _ (by omega), vset_ne _ _ _ _ (by omega), vset_ne _ _ _ _ (by omega), vset_ne _ _ _ _ (by omega), vset_ne _ _ _ _ (by omega), vset_ne _ _ _ _ (by omega)]
theorem keepW_p (o n : Nat) (V : Nat → Nat → Int) (s : Int) (R : T4) {k : Nat} (hk : k < 4) : keepW o n V s R (o + 5) (4 * n + k) = if k = 0 then R.1 else if k = 1 then R.2.1 else if k = 2 then R.2.2.1 else R.2.2.2 := by
  unfold keepW
  rw [vset_ne _ _ _ _ (by omega)]
  have hc : k = 0 ∨ k = 1 ∨ k = 2 ∨ k = 3 := by omega
  rcases hc with rfl | rfl | rfl | rfl
  · rw [vset_ne _ _ _ _ (by omega), vset_ne _ _ _ _ (by omega), vset_ne _ _ _ _ (by omega)]
    show vset (vset V (o + 4) n s) (o + 5) (4 * n) R.1 (o + 5) (4 * n) = _
    rw [vset_eq]
    rfl
  · rw [vset_ne _ _ _ _ (by omega), vset_ne _ _ _ _ (by omega), vset_eq]; rfl
  · rw [vset_ne _ _ _ _ (by omega), vset_eq]; rfl
  · rw [vset_eq]; rfl
theorem MT.keep {V V1 : Nat → Nat → Int} {o : Nat} {S : aS} (x : MT V o S) {s : Int} {R : T4} (e : V1 = keepW o (sT S) V s R) : MT V1 o (addT S s (fun k => if k = 0 then R.1 else if k = 1 then R.2.1 else if k = 2 then R.2.2.1 else R.2.2.2)) := by
  refine ⟨by rw [e]; unfold keepW; rw [vset_eq]; show _ = ((sT S + 1 : Nat) : Int); omega, fun i hi => ?_⟩
  have hi : i < sT S + 1 := hi
  have es : sTs (addT S s (fun k => if k = 0 then R.1 else if k = 1 then R.2.1 else if k = 2 then R.2.2.1 else R.2.2.2)) i = if i = sT S then s else sTs S i := rfl
  have ep : sTp (addT S s (fun k => if k = 0 then R.1 else if k = 1 then R.2.1 else if k = 2 then R.2.2.1 else R.2.2.2)) i = if i = sT S then (fun k => if k = 0 then R.1 else if k = 1 then R.2.1 else if k = 2 then R.2.2.1 else R.2.2.2) else sTp S i := rfl
  by_cases q : i = sT S
  · refine ⟨?_, fun k hk => ?_⟩
    · rw [es, if_pos q, e, q]
      unfold keepW
      rw [vset_ne _ _ _ _ (by omega), vset_ne _ _ _ _ (by omega), vset_ne _ _ _ _ (by omega), vset_ne _ _ _ _ (by omega), vset_ne _ _ _ _ (by omega), vset_eq]
    · rw [ep, if_pos q, e, q, keepW_p _ _ _ _ _ hk]
  · refine ⟨?_, fun k hk => ?_⟩
    · rw [es, if_neg q, e]
      unfold keepW
      rw [vset_ne _ _ _ _ (by omega), vset_ne _ _ _ _ (by omega), vset_ne _ _ _ _ (by omega), vset_ne _ _ _ _ (by omega), vset_ne _ _ _ _ (by omega), vset_ne _ _ _ _ (by omega)]
      exact (x.2 i (by omega)).1
    · rw [ep, if_neg q, e]
      unfold keepW
      rw [vset_ne _ _ _ _ (by omega), vset_ne _ _ _ _ (by omega), vset_ne _ _ _ _ (by omega), vset_ne _ _ _ _ (by omega), vset_ne _ _ _ _ (by omega), vset_ne _ _ _ _ (by omega)]
      exact (x.2 i (by omega)).2 k hk
/-- what stays beside the things when one is kept -/
def KM (V V1 : Nat → Nat → Int) (o n : Nat) (T : Nat → Prop) : Prop := ∃ V2, Gs V V2 o n T ∧ (∀ a, a ≠ o → a ≠ o + 4 → a ≠ o + 5 → V1 a = V2 a) ∧ ∀ f, f ≠ 7 → V1 o f = V2 o f
theorem KM.of {V V1 : Nat → Nat → Int} {o n : Nat} {T : Nat → Prop} (g : Gs V V1 o n T) : KM V V1 o n T := ⟨V1, g, fun _ _ _ _ => rfl, fun _ _ => rfl⟩
theorem keepW_f (o n : Nat) (V : Nat → Nat → Int) (s : Int) (R : T4) {f : Nat} (hf : f ≠ 7) : keepW o n V s R o f = V o f := by
  unfold keepW
  rw [vset_ne _ _ _ _ (by omega), vset_ne _ _ _ _ (by omega), vset_ne _ _ _ _ (by omega), vset_ne _ _ _ _ (by omega), vset_ne _ _ _ _ (by omega), vset_ne _ _ _ _ (by omega)]
theorem KM.keep {V V2 : Nat → Nat → Int} {o n : Nat} {T : Nat → Prop} (g : Gs V V2 o n T) (m : Nat) (s : Int) (R : T4) : KM V (keepW o m V2 s R) o n T := ⟨V2, g, fun a h1 h2 h3 => keepW_fr o m V2 s R a h1 h2 h3, fun f hf => keepW_f o m V2 s R hf⟩
theorem KM.mono {V V1 : Nat → Nat → Int} {o n m : Nat} {T : Nat → Prop} (g : KM V V1 o n T) (h : n ≤ m) : KM V V1 o m T := by
  obtain ⟨V2, g, a, b⟩ := g
  exact ⟨V2, g.mono h, a, b⟩
theorem RB.k {V : Nat → Nat → Int} {o r a i : Nat} {v z : Int} {k : Nat} (h0 : a ≠ o) (h1 : a ≠ o + 1) (x : RB V o r z k) : RB (vset V a i v) o r z k := by
  have eo : vset V a i v o = V o := by funext j; rw [vset_ne _ _ _ _ (by omega)]
  have e1 : vset V a i v (o + 1) = V (o + 1) := by funext j; rw [vset_ne _ _ _ _ (by omega)]
  refine ⟨?_, x.2⟩
  obtain ⟨k, h1, h2, h3, h4⟩ := x.1
  exact ⟨k, h1, by rw [eo]; exact h2, by rw [eo]; exact h3, h4.congr fun j hj => by show vset _ _ _ _ _ _ = _; rw [e1]⟩
theorem SA.k {V : Nat → Nat → Int} {q p a b c e i : Nat} {v : Int} (h : p ≠ q) (f : SA V q a b c e) : SA (vset V p i v) q a b c e := by
  unfold SA
  rw [vset_ne _ _ _ _ (by omega), vset_ne _ _ _ _ (by omega), vset_ne _ _ _ _ (by omega), vset_ne _ _ _ _ (by omega)]
  exact f
set_option maxHeartbeats 4000000 in
theorem m_keepT0 {w : aW} {d : Nat} (hd : 8 ≤ d) {k : Nat} {h : aH} {o : Nat} (ms : MS h o) (V : Nat → Nat → Int) {S : aS} (ok : OkT S) (mt : MT V o S) (hF : 0 ≤ V o 1 ∧ V o 1 + 22 ≤ 700) {P : T4} (aP : Nat) (hP : SLa o aP) (tP : SB V o aP P (k)) (hk : k ≤ 381) : WP w d 289 [aO (some o), aO (some aP), aI 0] (hw h V) (RI (fun r h1 => ∃ V1, h1 = hw h V1 ∧ KM V V1 o 22 (fun q => q = aP) ∧ r = (keepT S 0 (m_low P)).1 ∧ MT V1 o (keepT S 0 (m_low P)).2)) := by
  obtain ⟨d, rfl⟩ : ∃ d1, d = d1 + 1 := ⟨d - 1, by omega⟩
  refine WP.enter (cd := cd_X12_keepThing) rfl ?_
  have G0 := Gs.refl V o (fun q => q = aP)
  obtain ⟨Pp, Pq, Pr, Ps, sP, xPp, xPq, xPr, xPs⟩ := tP
  have hs_P := hP
  unfold SLa at hs_P
  have hn := ok.1
  have hls : largs 0 [aO (some o), aO (some aP), aI 0] = [(0, aO (some o)), (1, aO (some aP)), (2, aI 0)] := rfl
  rw [hls]
  clear hls
  refine g_aload_n rfl rfl ?_
  refine g_aload_n rfl rfl ?_
  refine g_iload_n rfl rfl ?_
  refine g_callVN [aO (some aP), aI 0] [] rfl rfl rfl rfl (Nat.le_of_ble_eq_true rfl) ms.1 (m_settle0 (by omega) ms V (by have := G0.2.2.1; omega) aP hP (show SB V o aP P (k) from ⟨_, _, _, _, sP, (xPp.up (by omega)), (xPq.up (by omega)), (xPr.up (by omega)), (xPs.up (by omega))⟩) (by omega)) ?_
  rintro _ ⟨V1, rfl, g1, t1, u1, v1, y1, s1, xt1, xu1, xv1, xy1⟩
  have G_2 := G0.trans (g1.wide (fun q hq => by have hq : q = aP := hq; show q = aP; omega))
  refine g_iconst rfl ?_
  refine g_istore_n (l1 := [(3, aI 0), (0, aO (some o)), (1, aO (some aP)), (2, aI 0)]) rfl rfl ?_
  refine g_iload_n rfl rfl ?_
  refine g_iconst rfl ?_
  refine g_icmp_ge_f rfl (by omega) ?_
  refine g_aload_n rfl rfl ?_
  refine g_aload_n rfl rfl ?_
  refine g_iload_n rfl rfl ?_
  refine g_iald (i := 0) rfl (ms.slot hP) (by omega) (by omega) ?_
  refine g_top (v2 := aI ((t1 : Int))) (congrArg aI (by exact s1.1)) ?_
  refine g_ldc2 rfl ?_
  refine g_callVI [aI ((t1 : Int)), aJ 1048576] [] rfl rfl rfl rfl (Nat.le_of_ble_eq_true rfl) ms.1 (r_isWithin (by omega) ms V1 xt1.1 1048576 (by omega)) ?_
  rintro _ hx3 ⟨ehx3, rfl⟩
  rw [ehx3]
  clear ehx3 hx3
  refine g_b_ne rfl (fun c23 => ?_) (fun c23 => ?_)
  · skip
    refine g_iinc (l1 := [(3, aI 1), (0, aO (some o)), (1, aO (some aP)), (2, aI 0)]) rfl rfl (by omega) (by omega) rfl ?_
    refine g_goto rfl ?_
    refine g_iload_n rfl rfl ?_
    refine g_iconst rfl ?_
    refine g_icmp_ge_f rfl (by omega) ?_
    refine g_aload_n rfl rfl ?_
    refine g_aload_n rfl rfl ?_
    refine g_iload_n rfl rfl ?_
    refine g_iald (i := 1) rfl (ms.slot hP) (by omega) (by omega) ?_
    refine g_top (v2 := aI ((u1 : Int))) (congrArg aI (by exact s1.2.1)) ?_
    refine g_ldc2 rfl ?_
    refine g_callVI [aI ((u1 : Int)), aJ 1048576] [] rfl rfl rfl rfl (Nat.le_of_ble_eq_true rfl) ms.1 (r_isWithin (by omega) ms V1 xu1.1 1048576 (by omega)) ?_
    rintro _ hx4 ⟨ehx4, rfl⟩
    rw [ehx4]
    clear ehx4 hx4
    refine g_b_ne rfl (fun c23 => ?_) (fun c23 => ?_)
    · skip
      refine g_iinc (l1 := [(3, aI 2), (0, aO (some o)), (1, aO (some aP)), (2, aI 0)]) rfl rfl (by omega) (by omega) rfl ?_
      refine g_goto rfl ?_
      refine g_iload_n rfl rfl ?_
      refine g_iconst rfl ?_
      refine g_icmp_ge_f rfl (by omega) ?_
      refine g_aload_n rfl rfl ?_
      refine g_aload_n rfl rfl ?_
      refine g_iload_n rfl rfl ?_
      refine g_iald (i := 2) rfl (ms.slot hP) (by omega) (by omega) ?_
      refine g_top (v2 := aI ((v1 : Int))) (congrArg aI (by exact s1.2.2.1)) ?_
      refine g_ldc2 rfl ?_
      refine g_callVI [aI ((v1 : Int)), aJ 1048576] [] rfl rfl rfl rfl (Nat.le_of_ble_eq_true rfl) ms.1 (r_isWithin (by omega) ms V1 xv1.1 1048576 (by omega)) ?_
      rintro _ hx5 ⟨ehx5, rfl⟩
      rw [ehx5]
      clear ehx5 hx5
      refine g_b_ne rfl (fun c23 => ?_) (fun c23 => ?_)
      · skip
        refine g_iinc (l1 := [(3, aI 3), (0, aO (some o)), (1, aO (some aP)), (2, aI 0)]) rfl rfl (by omega) (by omega) rfl ?_
        refine g_goto rfl ?_
        refine g_iload_n rfl rfl ?_
        refine g_iconst rfl ?_
        refine g_icmp_ge_f rfl (by omega) ?_
        refine g_aload_n rfl rfl ?_
        refine g_aload_n rfl rfl ?_
        refine g_iload_n rfl rfl ?_
        refine g_iald (i := 3) rfl (ms.slot hP) (by omega) (by omega) ?_
        refine g_top (v2 := aI ((y1 : Int))) (congrArg aI (by exact s1.2.2.2)) ?_
        refine g_ldc2 rfl ?_
        refine g_callVI [aI ((y1 : Int)), aJ 1048576] [] rfl rfl rfl rfl (Nat.le_of_ble_eq_true rfl) ms.1 (r_isWithin (by omega) ms V1 xy1.1 1048576 (by omega)) ?_
        rintro _ hx6 ⟨ehx6, rfl⟩
        rw [ehx6]
        clear ehx6 hx6
        refine g_b_ne rfl (fun c23 => ?_) (fun c23 => ?_)
        · skip
          refine g_iinc (l1 := [(3, aI 4), (0, aO (some o)), (1, aO (some aP)), (2, aI 0)]) rfl rfl (by omega) (by omega) rfl ?_
          refine g_goto rfl ?_
          refine g_iload_n rfl rfl ?_
          refine g_iconst rfl ?_
          refine g_icmp_ge_t rfl (by omega) ?_
          refine g_aload_n rfl rfl ?_
          refine g_getI rfl ms.1 ?_
          refine g_top (v2 := aI ((sT S : Int))) (congrArg aI (by exact (g1.mt (show ¬((o + 4) = aP) by omega) (show ¬((o + 5) = aP) by omega) mt).1)) ?_
          refine g_bipush rfl ?_
          refine g_icmp_ne rfl (fun c41 => ?_) (fun c41 => ?_)
          · skip
            refine g_aload_n rfl rfl ?_
            refine g_getR rfl ms.1 (mr_sort ms) ?_
            refine g_aload_n rfl rfl ?_
            refine g_getI rfl ms.1 ?_
            refine g_top (v2 := aI ((sT S : Int))) (congrArg aI (by exact (g1.mt (show ¬((o + 4) = aP) by omega) (show ¬((o + 5) = aP) by omega) mt).1)) ?_
            refine g_iload_n rfl rfl ?_
            refine g_iast (i := (sT S)) rfl (mt_sort ms) (by omega) (by omega) ?_
            refine g_hp (h2 := hw h (vset V1 (o + 4) ((sT S)) 0)) rfl ?_
            refine g_iconst rfl ?_
            refine g_istore_n (l1 := [(3, aI 0), (0, aO (some o)), (1, aO (some aP)), (2, aI 0)]) rfl rfl ?_
            refine g_iload_n rfl rfl ?_
            refine g_iconst rfl ?_
            refine g_icmp_ge_f rfl (by omega) ?_
            refine g_aload_n rfl rfl ?_
            refine g_getR rfl ms.1 (mr_part ms) ?_
            refine g_iconst rfl ?_
            refine g_aload_n rfl rfl ?_
            refine g_getI rfl ms.1 ?_
            refine g_top (v2 := aI ((sT S : Int))) (congrArg aI (by show (vset V1 (o + 4) ((sT S)) 0) o 7 = (sT S : Int); rw [vset_ne _ _ _ _ (by omega)]; exact (g1.mt (show ¬((o + 4) = aP) by omega) (show ¬((o + 5) = aP) by omega) mt).1)) ?_
            refine g_imul rfl (by omega) (by omega) ?_
            refine g_iload_n rfl rfl ?_
            refine g_iadd rfl (by omega) (by omega) ?_
            refine g_aload_n rfl rfl ?_
            refine g_aload_n rfl rfl ?_
            refine g_iload_n rfl rfl ?_
            refine g_iald (i := 0) rfl (ms.slot hP) (by omega) (by omega) ?_
            refine g_top (v2 := aI ((t1 : Int))) (congrArg aI (by exact (SA.k (by omega) s1).1)) ?_
            refine g_callVJ [aI ((t1 : Int))] [aI ((4 * ((sT S : Int))) + 0), aO (some (o + 5))] rfl rfl rfl rfl (Nat.le_of_ble_eq_true rfl) ms.1 (r_value (by omega) ms (vset V1 (o + 4) ((sT S)) 0) (RB.k (by omega) (by omega) xt1).1 (by omega)) ?_
            rintro r7 hx7 ⟨ehx7, er7⟩
            rw [ehx7, er7]
            clear ehx7 hx7 er7 r7
            refine g_l2i2 rfl (by omega) (by omega) ?_
            refine g_iast (i := (4 * (sT S)) + 0) rfl (mt_part ms) (by omega) (by omega) ?_
            refine g_hp (h2 := hw h (vset (vset V1 (o + 4) ((sT S)) 0) (o + 5) ((4 * (sT S)) + 0) ((m_low P).1))) rfl ?_
            refine g_iinc (l1 := [(3, aI 1), (0, aO (some o)), (1, aO (some aP)), (2, aI 0)]) rfl rfl (by omega) (by omega) rfl ?_
            refine g_goto rfl ?_
            refine g_iload_n rfl rfl ?_
            refine g_iconst rfl ?_
            refine g_icmp_ge_f rfl (by omega) ?_
            refine g_aload_n rfl rfl ?_
            refine g_getR rfl ms.1 (mr_part ms) ?_
            refine g_iconst rfl ?_
            refine g_aload_n rfl rfl ?_
            refine g_getI rfl ms.1 ?_
            refine g_top (v2 := aI ((sT S : Int))) (congrArg aI (by show (vset (vset V1 (o + 4) ((sT S)) 0) (o + 5) ((4 * (sT S)) + 0) ((m_low P).1)) o 7 = (sT S : Int); rw [vset_ne _ _ _ _ (by omega), vset_ne _ _ _ _ (by omega)]; exact (g1.mt (show ¬((o + 4) = aP) by omega) (show ¬((o + 5) = aP) by omega) mt).1)) ?_
            refine g_imul rfl (by omega) (by omega) ?_
            refine g_iload_n rfl rfl ?_
            refine g_iadd rfl (by omega) (by omega) ?_
            refine g_aload_n rfl rfl ?_
            refine g_aload_n rfl rfl ?_
            refine g_iload_n rfl rfl ?_
            refine g_iald (i := 1) rfl (ms.slot hP) (by omega) (by omega) ?_
            refine g_top (v2 := aI ((u1 : Int))) (congrArg aI (by exact (SA.k (by omega) (SA.k (by omega) s1)).2.1)) ?_
            refine g_callVJ [aI ((u1 : Int))] [aI ((4 * ((sT S : Int))) + 1), aO (some (o + 5))] rfl rfl rfl rfl (Nat.le_of_ble_eq_true rfl) ms.1 (r_value (by omega) ms (vset (vset V1 (o + 4) ((sT S)) 0) (o + 5) ((4 * (sT S)) + 0) ((m_low P).1)) (RB.k (by omega) (by omega) (RB.k (by omega) (by omega) xu1)).1 (by omega)) ?_
            rintro r8 hx8 ⟨ehx8, er8⟩
            rw [ehx8, er8]
            clear ehx8 hx8 er8 r8
            refine g_l2i2 rfl (by omega) (by omega) ?_
            refine g_iast (i := (4 * (sT S)) + 1) rfl (mt_part ms) (by omega) (by omega) ?_
            refine g_hp (h2 := hw h (vset (vset (vset V1 (o + 4) ((sT S)) 0) (o + 5) ((4 * (sT S)) + 0) ((m_low P).1)) (o + 5) ((4 * (sT S)) + 1) ((m_low P).2.1))) rfl ?_
            refine g_iinc (l1 := [(3, aI 2), (0, aO (some o)), (1, aO (some aP)), (2, aI 0)]) rfl rfl (by omega) (by omega) rfl ?_
            refine g_goto rfl ?_
            refine g_iload_n rfl rfl ?_
            refine g_iconst rfl ?_
            refine g_icmp_ge_f rfl (by omega) ?_
            refine g_aload_n rfl rfl ?_
            refine g_getR rfl ms.1 (mr_part ms) ?_
            refine g_iconst rfl ?_
            refine g_aload_n rfl rfl ?_
            refine g_getI rfl ms.1 ?_
            refine g_top (v2 := aI ((sT S : Int))) (congrArg aI (by show (vset (vset (vset V1 (o + 4) ((sT S)) 0) (o + 5) ((4 * (sT S)) + 0) ((m_low P).1)) (o + 5) ((4 * (sT S)) + 1) ((m_low P).2.1)) o 7 = (sT S : Int); rw [vset_ne _ _ _ _ (by omega), vset_ne _ _ _ _ (by omega), vset_ne _ _ _ _ (by omega)]; exact (g1.mt (show ¬((o + 4) = aP) by omega) (show ¬((o + 5) = aP) by omega) mt).1)) ?_
            refine g_imul rfl (by omega) (by omega) ?_
            refine g_iload_n rfl rfl ?_
            refine g_iadd rfl (by omega) (by omega) ?_
            refine g_aload_n rfl rfl ?_
            refine g_aload_n rfl rfl ?_
            refine g_iload_n rfl rfl ?_
            refine g_iald (i := 2) rfl (ms.slot hP) (by omega) (by omega) ?_
            refine g_top (v2 := aI ((v1 : Int))) (congrArg aI (by exact (SA.k (by omega) (SA.k (by omega) (SA.k (by omega) s1))).2.2.1)) ?_
            refine g_callVJ [aI ((v1 : Int))] [aI ((4 * ((sT S : Int))) + 2), aO (some (o + 5))] rfl rfl rfl rfl (Nat.le_of_ble_eq_true rfl) ms.1 (r_value (by omega) ms (vset (vset (vset V1 (o + 4) ((sT S)) 0) (o + 5) ((4 * (sT S)) + 0) ((m_low P).1)) (o + 5) ((4 * (sT S)) + 1) ((m_low P).2.1)) (RB.k (by omega) (by omega) (RB.k (by omega) (by omega) (RB.k (by omega) (by omega) xv1))).1 (by omega)) ?_
            rintro r9 hx9 ⟨ehx9, er9⟩
            rw [ehx9, er9]
            clear ehx9 hx9 er9 r9
            refine g_l2i2 rfl (by omega) (by omega) ?_
            refine g_iast (i := (4 * (sT S)) + 2) rfl (mt_part ms) (by omega) (by omega) ?_
            refine g_hp (h2 := hw h (vset (vset (vset (vset V1 (o + 4) ((sT S)) 0) (o + 5) ((4 * (sT S)) + 0) ((m_low P).1)) (o + 5) ((4 * (sT S)) + 1) ((m_low P).2.1)) (o + 5) ((4 * (sT S)) + 2) ((m_low P).2.2.1))) rfl ?_
            refine g_iinc (l1 := [(3, aI 3), (0, aO (some o)), (1, aO (some aP)), (2, aI 0)]) rfl rfl (by omega) (by omega) rfl ?_
            refine g_goto rfl ?_
            refine g_iload_n rfl rfl ?_
            refine g_iconst rfl ?_
            refine g_icmp_ge_f rfl (by omega) ?_
            refine g_aload_n rfl rfl ?_
            refine g_getR rfl ms.1 (mr_part ms) ?_
            refine g_iconst rfl ?_
            refine g_aload_n rfl rfl ?_
            refine g_getI rfl ms.1 ?_
            refine g_top (v2 := aI ((sT S : Int))) (congrArg aI (by show (vset (vset (vset (vset V1 (o + 4) ((sT S)) 0) (o + 5) ((4 * (sT S)) + 0) ((m_low P).1)) (o + 5) ((4 * (sT S)) + 1) ((m_low P).2.1)) (o + 5) ((4 * (sT S)) + 2) ((m_low P).2.2.1)) o 7 = (sT S : Int); rw [vset_ne _ _ _ _ (by omega), vset_ne _ _ _ _ (by omega), vset_ne _ _ _ _ (by omega), vset_ne _ _ _ _ (by omega)]; exact (g1.mt (show ¬((o + 4) = aP) by omega) (show ¬((o + 5) = aP) by omega) mt).1)) ?_
            refine g_imul rfl (by omega) (by omega) ?_
            refine g_iload_n rfl rfl ?_
            refine g_iadd rfl (by omega) (by omega) ?_
            refine g_aload_n rfl rfl ?_
            refine g_aload_n rfl rfl ?_
            refine g_iload_n rfl rfl ?_
            refine g_iald (i := 3) rfl (ms.slot hP) (by omega) (by omega) ?_
            refine g_top (v2 := aI ((y1 : Int))) (congrArg aI (by exact (SA.k (by omega) (SA.k (by omega) (SA.k (by omega) (SA.k (by omega) s1)))).2.2.2)) ?_
            refine g_callVJ [aI ((y1 : Int))] [aI ((4 * ((sT S : Int))) + 3), aO (some (o + 5))] rfl rfl rfl rfl (Nat.le_of_ble_eq_true rfl) ms.1 (r_value (by omega) ms (vset (vset (vset (vset V1 (o + 4) ((sT S)) 0) (o + 5) ((4 * (sT S)) + 0) ((m_low P).1)) (o + 5) ((4 * (sT S)) + 1) ((m_low P).2.1)) (o + 5) ((4 * (sT S)) + 2) ((m_low P).2.2.1)) (RB.k (by omega) (by omega) (RB.k (by omega) (by omega) (RB.k (by omega) (by omega) (RB.k (by omega) (by omega) xy1)))).1 (by omega)) ?_
            rintro r10 hx10 ⟨ehx10, er10⟩
            rw [ehx10, er10]
            clear ehx10 hx10 er10 r10
            refine g_l2i2 rfl (by omega) (by omega) ?_
            refine g_iast (i := (4 * (sT S)) + 3) rfl (mt_part ms) (by omega) (by omega) ?_
            refine g_hp (h2 := hw h (vset (vset (vset (vset (vset V1 (o + 4) ((sT S)) 0) (o + 5) ((4 * (sT S)) + 0) ((m_low P).1)) (o + 5) ((4 * (sT S)) + 1) ((m_low P).2.1)) (o + 5) ((4 * (sT S)) + 2) ((m_low P).2.2.1)) (o + 5) ((4 * (sT S)) + 3) ((m_low P).2.2.2))) rfl ?_
            refine g_iinc (l1 := [(3, aI 4), (0, aO (some o)), (1, aO (some aP)), (2, aI 0)]) rfl rfl (by omega) (by omega) rfl ?_
            refine g_goto rfl ?_
            refine g_iload_n rfl rfl ?_
            refine g_iconst rfl ?_
            refine g_icmp_ge_t rfl (by omega) ?_
            refine g_aload_n rfl rfl ?_
            refine g_dup rfl rfl ?_
            refine g_getI rfl ms.1 ?_
            refine g_top (v2 := aI ((sT S : Int))) (congrArg aI (by show (vset (vset (vset (vset (vset V1 (o + 4) ((sT S)) 0) (o + 5) ((4 * (sT S)) + 0) ((m_low P).1)) (o + 5) ((4 * (sT S)) + 1) ((m_low P).2.1)) (o + 5) ((4 * (sT S)) + 2) ((m_low P).2.2.1)) (o + 5) ((4 * (sT S)) + 3) ((m_low P).2.2.2)) o 7 = (sT S : Int); rw [vset_ne _ _ _ _ (by omega), vset_ne _ _ _ _ (by omega), vset_ne _ _ _ _ (by omega), vset_ne _ _ _ _ (by omega), vset_ne _ _ _ _ (by omega)]; exact (g1.mt (show ¬((o + 4) = aP) by omega) (show ¬((o + 5) = aP) by omega) mt).1)) ?_
            refine g_iconst rfl ?_
            refine g_iadd rfl (by omega) (by omega) ?_
            refine g_putI rfl ms.1 ?_
            refine g_hp (h2 := hw h (vset (vset (vset (vset (vset (vset V1 (o + 4) ((sT S)) 0) (o + 5) ((4 * (sT S)) + 0) ((m_low P).1)) (o + 5) ((4 * (sT S)) + 1) ((m_low P).2.1)) (o + 5) ((4 * (sT S)) + 2) ((m_low P).2.2.1)) (o + 5) ((4 * (sT S)) + 3) ((m_low P).2.2.2)) o 7 (((sT S : Int)) + 1))) rfl ?_
            refine g_aload_n rfl rfl ?_
            refine g_getI rfl ms.1 ?_
            refine g_top (v2 := aI ((sT S : Int) + 1)) (congrArg aI (by exact vset_eq _ _ _ _)) ?_
            refine g_iconst rfl ?_
            refine g_isub rfl (by omega) (by omega) ?_
            refine g_iret rfl ?_
            have ek : keepT S 0 (m_low P) = ((sT S : Int), addT S 0 (fun k => if k = 0 then (m_low P).1 else if k = 1 then (m_low P).2.1 else if k = 2 then (m_low P).2.2.1 else (m_low P).2.2.2)) := by unfold keepT; rw [if_pos (by unfold sml; omega)]
            rw [ek]
            exact ⟨keepW o (sT S) V1 0 (m_low P), rfl, (KM.keep G_2 (sT S) 0 (m_low P)).mono (by omega), by omega, MT.keep (g1.mt (show ¬((o + 4) = aP) by omega) (show ¬((o + 5) = aP) by omega) mt) rfl⟩
          · skip
            refine g_bipush rfl ?_
            refine g_iret rfl ?_
            have ek : keepT S 0 (m_low P) = (-4, S) := by unfold keepT; rw [if_neg (by unfold sml; omega)]
            rw [ek]
            exact ⟨V1, rfl, KM.of (G_2.mono (by omega)), rfl, (g1.mt (show ¬((o + 4) = aP) by omega) (show ¬((o + 5) = aP) by omega) mt)⟩
        · skip
          refine g_bipush rfl ?_
          refine g_iret rfl ?_
          have ek : keepT S 0 (m_low P) = (-4, S) := by unfold keepT; rw [if_neg (by unfold sml; omega)]
          rw [ek]
          exact ⟨V1, rfl, KM.of (G_2.mono (by omega)), rfl, (g1.mt (show ¬((o + 4) = aP) by omega) (show ¬((o + 5) = aP) by omega) mt)⟩
      · skip
        refine g_bipush rfl ?_
        refine g_iret rfl ?_
        have ek : keepT S 0 (m_low P) = (-4, S) := by unfold keepT; rw [if_neg (by unfold sml; omega)]
        rw [ek]
        exact ⟨V1, rfl, KM.of (G_2.mono (by omega)), rfl, (g1.mt (show ¬((o + 4) = aP) by omega) (show ¬((o + 5) = aP) by omega) mt)⟩
    · skip
      refine g_bipush rfl ?_
      refine g_iret rfl ?_
      have ek : keepT S 0 (m_low P) = (-4, S) := by unfold keepT; rw [if_neg (by unfold sml; omega)]
      rw [ek]
      exact ⟨V1, rfl, KM.of (G_2.mono (by omega)), rfl, (g1.mt (show ¬((o + 4) = aP) by omega) (show ¬((o + 5) = aP) by omega) mt)⟩
  · skip
    refine g_bipush rfl ?_
    refine g_iret rfl ?_
    have ek : keepT S 0 (m_low P) = (-4, S) := by unfold keepT; rw [if_neg (by unfold sml; omega)]
    rw [ek]
    exact ⟨V1, rfl, KM.of (G_2.mono (by omega)), rfl, (g1.mt (show ¬((o + 4) = aP) by omega) (show ¬((o + 5) = aP) by omega) mt)⟩
set_option maxHeartbeats 4000000 in
theorem m_keepT1 {w : aW} {d : Nat} (hd : 8 ≤ d) {k : Nat} {h : aH} {o : Nat} (ms : MS h o) (V : Nat → Nat → Int) {S : aS} (ok : OkT S) (mt : MT V o S) (hF : 0 ≤ V o 1 ∧ V o 1 + 22 ≤ 700) {P : T4} (aP : Nat) (hP : SLa o aP) (tP : SB V o aP P (k)) (hk : k ≤ 381) : WP w d 289 [aO (some o), aO (some aP), aI 1] (hw h V) (RI (fun r h1 => ∃ V1, h1 = hw h V1 ∧ KM V V1 o 22 (fun q => q = aP) ∧ r = (keepT S 1 (m_low P)).1 ∧ MT V1 o (keepT S 1 (m_low P)).2)) := by
  obtain ⟨d, rfl⟩ : ∃ d1, d = d1 + 1 := ⟨d - 1, by omega⟩
  refine WP.enter (cd := cd_X12_keepThing) rfl ?_
  have G0 := Gs.refl V o (fun q => q = aP)
  obtain ⟨Pp, Pq, Pr, Ps, sP, xPp, xPq, xPr, xPs⟩ := tP
  have hs_P := hP
  unfold SLa at hs_P
  have hn := ok.1
  have hls : largs 0 [aO (some o), aO (some aP), aI 1] = [(0, aO (some o)), (1, aO (some aP)), (2, aI 1)] := rfl
  rw [hls]
  clear hls
  refine g_aload_n rfl rfl ?_
  refine g_aload_n rfl rfl ?_
  refine g_iload_n rfl rfl ?_
  refine g_callVN [aO (some aP), aI 1] [] rfl rfl rfl rfl (Nat.le_of_ble_eq_true rfl) ms.1 (m_settle1 (by omega) ms V (by have := G0.2.2.1; omega) aP hP (show SB V o aP P (k) from ⟨_, _, _, _, sP, (xPp.up (by omega)), (xPq.up (by omega)), (xPr.up (by omega)), (xPs.up (by omega))⟩) (by omega)) ?_
  rintro _ ⟨V1, rfl, g1, t1, u1, v1, y1, s1, xt1, xu1, xv1, xy1⟩
  have G_2 := G0.trans (g1.wide (fun q hq => by have hq : q = aP := hq; show q = aP; omega))
  refine g_iconst rfl ?_
  refine g_istore_n (l1 := [(3, aI 0), (0, aO (some o)), (1, aO (some aP)), (2, aI 1)]) rfl rfl ?_
  refine g_iload_n rfl rfl ?_
  refine g_iconst rfl ?_
  refine g_icmp_ge_f rfl (by omega) ?_
  refine g_aload_n rfl rfl ?_
  refine g_aload_n rfl rfl ?_
  refine g_iload_n rfl rfl ?_
  refine g_iald (i := 0) rfl (ms.slot hP) (by omega) (by omega) ?_
  refine g_top (v2 := aI ((t1 : Int))) (congrArg aI (by exact s1.1)) ?_
  refine g_ldc2 rfl ?_
  refine g_callVI [aI ((t1 : Int)), aJ 1048576] [] rfl rfl rfl rfl (Nat.le_of_ble_eq_true rfl) ms.1 (r_isWithin (by omega) ms V1 xt1.1 1048576 (by omega)) ?_
  rintro _ hx3 ⟨ehx3, rfl⟩
  rw [ehx3]
  clear ehx3 hx3
  refine g_b_ne rfl (fun c23 => ?_) (fun c23 => ?_)
  · skip
    refine g_iinc (l1 := [(3, aI 1), (0, aO (some o)), (1, aO (some aP)), (2, aI 1)]) rfl rfl (by omega) (by omega) rfl ?_
    refine g_goto rfl ?_
    refine g_iload_n rfl rfl ?_
    refine g_iconst rfl ?_
    refine g_icmp_ge_f rfl (by omega) ?_
    refine g_aload_n rfl rfl ?_
    refine g_aload_n rfl rfl ?_
    refine g_iload_n rfl rfl ?_
    refine g_iald (i := 1) rfl (ms.slot hP) (by omega) (by omega) ?_
    refine g_top (v2 := aI ((u1 : Int))) (congrArg aI (by exact s1.2.1)) ?_
    refine g_ldc2 rfl ?_
    refine g_callVI [aI ((u1 : Int)), aJ 1048576] [] rfl rfl rfl rfl (Nat.le_of_ble_eq_true rfl) ms.1 (r_isWithin (by omega) ms V1 xu1.1 1048576 (by omega)) ?_
    rintro _ hx4 ⟨ehx4, rfl⟩
    rw [ehx4]
    clear ehx4 hx4
    refine g_b_ne rfl (fun c23 => ?_) (fun c23 => ?_)
    · skip
      refine g_iinc (l1 := [(3, aI 2), (0, aO (some o)), (1, aO (some aP)), (2, aI 1)]) rfl rfl (by omega) (by omega) rfl ?_
      refine g_goto rfl ?_
      refine g_iload_n rfl rfl ?_
      refine g_iconst rfl ?_
      refine g_icmp_ge_f rfl (by omega) ?_
      refine g_aload_n rfl rfl ?_
      refine g_aload_n rfl rfl ?_
      refine g_iload_n rfl rfl ?_
      refine g_iald (i := 2) rfl (ms.slot hP) (by omega) (by omega) ?_
      refine g_top (v2 := aI ((v1 : Int))) (congrArg aI (by exact s1.2.2.1)) ?_
      refine g_ldc2 rfl ?_
      refine g_callVI [aI ((v1 : Int)), aJ 1048576] [] rfl rfl rfl rfl (Nat.le_of_ble_eq_true rfl) ms.1 (r_isWithin (by omega) ms V1 xv1.1 1048576 (by omega)) ?_
      rintro _ hx5 ⟨ehx5, rfl⟩
      rw [ehx5]
      clear ehx5 hx5
      refine g_b_ne rfl (fun c23 => ?_) (fun c23 => ?_)
      · skip
        refine g_iinc (l1 := [(3, aI 3), (0, aO (some o)), (1, aO (some aP)), (2, aI 1)]) rfl rfl (by omega) (by omega) rfl ?_
        refine g_goto rfl ?_
        refine g_iload_n rfl rfl ?_
        refine g_iconst rfl ?_
        refine g_icmp_ge_f rfl (by omega) ?_
        refine g_aload_n rfl rfl ?_
        refine g_aload_n rfl rfl ?_
        refine g_iload_n rfl rfl ?_
        refine g_iald (i := 3) rfl (ms.slot hP) (by omega) (by omega) ?_
        refine g_top (v2 := aI ((y1 : Int))) (congrArg aI (by exact s1.2.2.2)) ?_
        refine g_ldc2 rfl ?_
        refine g_callVI [aI ((y1 : Int)), aJ 1048576] [] rfl rfl rfl rfl (Nat.le_of_ble_eq_true rfl) ms.1 (r_isWithin (by omega) ms V1 xy1.1 1048576 (by omega)) ?_
        rintro _ hx6 ⟨ehx6, rfl⟩
        rw [ehx6]
        clear ehx6 hx6
        refine g_b_ne rfl (fun c23 => ?_) (fun c23 => ?_)
        · skip
          refine g_iinc (l1 := [(3, aI 4), (0, aO (some o)), (1, aO (some aP)), (2, aI 1)]) rfl rfl (by omega) (by omega) rfl ?_
          refine g_goto rfl ?_
          refine g_iload_n rfl rfl ?_
          refine g_iconst rfl ?_
          refine g_icmp_ge_t rfl (by omega) ?_
          refine g_aload_n rfl rfl ?_
          refine g_getI rfl ms.1 ?_
          refine g_top (v2 := aI ((sT S : Int))) (congrArg aI (by exact (g1.mt (show ¬((o + 4) = aP) by omega) (show ¬((o + 5) = aP) by omega) mt).1)) ?_
          refine g_bipush rfl ?_
          refine g_icmp_ne rfl (fun c41 => ?_) (fun c41 => ?_)
          · skip
            refine g_aload_n rfl rfl ?_
            refine g_getR rfl ms.1 (mr_sort ms) ?_
            refine g_aload_n rfl rfl ?_
            refine g_getI rfl ms.1 ?_
            refine g_top (v2 := aI ((sT S : Int))) (congrArg aI (by exact (g1.mt (show ¬((o + 4) = aP) by omega) (show ¬((o + 5) = aP) by omega) mt).1)) ?_
            refine g_iload_n rfl rfl ?_
            refine g_iast (i := (sT S)) rfl (mt_sort ms) (by omega) (by omega) ?_
            refine g_hp (h2 := hw h (vset V1 (o + 4) ((sT S)) 1)) rfl ?_
            refine g_iconst rfl ?_
            refine g_istore_n (l1 := [(3, aI 0), (0, aO (some o)), (1, aO (some aP)), (2, aI 1)]) rfl rfl ?_
            refine g_iload_n rfl rfl ?_
            refine g_iconst rfl ?_
            refine g_icmp_ge_f rfl (by omega) ?_
            refine g_aload_n rfl rfl ?_
            refine g_getR rfl ms.1 (mr_part ms) ?_
            refine g_iconst rfl ?_
            refine g_aload_n rfl rfl ?_
            refine g_getI rfl ms.1 ?_
            refine g_top (v2 := aI ((sT S : Int))) (congrArg aI (by show (vset V1 (o + 4) ((sT S)) 1) o 7 = (sT S : Int); rw [vset_ne _ _ _ _ (by omega)]; exact (g1.mt (show ¬((o + 4) = aP) by omega) (show ¬((o + 5) = aP) by omega) mt).1)) ?_
            refine g_imul rfl (by omega) (by omega) ?_
            refine g_iload_n rfl rfl ?_
            refine g_iadd rfl (by omega) (by omega) ?_
            refine g_aload_n rfl rfl ?_
            refine g_aload_n rfl rfl ?_
            refine g_iload_n rfl rfl ?_
            refine g_iald (i := 0) rfl (ms.slot hP) (by omega) (by omega) ?_
            refine g_top (v2 := aI ((t1 : Int))) (congrArg aI (by exact (SA.k (by omega) s1).1)) ?_
            refine g_callVJ [aI ((t1 : Int))] [aI ((4 * ((sT S : Int))) + 0), aO (some (o + 5))] rfl rfl rfl rfl (Nat.le_of_ble_eq_true rfl) ms.1 (r_value (by omega) ms (vset V1 (o + 4) ((sT S)) 1) (RB.k (by omega) (by omega) xt1).1 (by omega)) ?_
            rintro r7 hx7 ⟨ehx7, er7⟩
            rw [ehx7, er7]
            clear ehx7 hx7 er7 r7
            refine g_l2i2 rfl (by omega) (by omega) ?_
            refine g_iast (i := (4 * (sT S)) + 0) rfl (mt_part ms) (by omega) (by omega) ?_
            refine g_hp (h2 := hw h (vset (vset V1 (o + 4) ((sT S)) 1) (o + 5) ((4 * (sT S)) + 0) ((m_low P).1))) rfl ?_
            refine g_iinc (l1 := [(3, aI 1), (0, aO (some o)), (1, aO (some aP)), (2, aI 1)]) rfl rfl (by omega) (by omega) rfl ?_
            refine g_goto rfl ?_
            refine g_iload_n rfl rfl ?_
            refine g_iconst rfl ?_
            refine g_icmp_ge_f rfl (by omega) ?_
            refine g_aload_n rfl rfl ?_
            refine g_getR rfl ms.1 (mr_part ms) ?_
            refine g_iconst rfl ?_
            refine g_aload_n rfl rfl ?_
            refine g_getI rfl ms.1 ?_
            refine g_top (v2 := aI ((sT S : Int))) (congrArg aI (by show (vset (vset V1 (o + 4) ((sT S)) 1) (o + 5) ((4 * (sT S)) + 0) ((m_low P).1)) o 7 = (sT S : Int); rw [vset_ne _ _ _ _ (by omega), vset_ne _ _ _ _ (by omega)]; exact (g1.mt (show ¬((o + 4) = aP) by omega) (show ¬((o + 5) = aP) by omega) mt).1)) ?_
            refine g_imul rfl (by omega) (by omega) ?_
            refine g_iload_n rfl rfl ?_
            refine g_iadd rfl (by omega) (by omega) ?_
            refine g_aload_n rfl rfl ?_
            refine g_aload_n rfl rfl ?_
            refine g_iload_n rfl rfl ?_
            refine g_iald (i := 1) rfl (ms.slot hP) (by omega) (by omega) ?_
            refine g_top (v2 := aI ((u1 : Int))) (congrArg aI (by exact (SA.k (by omega) (SA.k (by omega) s1)).2.1)) ?_
            refine g_callVJ [aI ((u1 : Int))] [aI ((4 * ((sT S : Int))) + 1), aO (some (o + 5))] rfl rfl rfl rfl (Nat.le_of_ble_eq_true rfl) ms.1 (r_value (by omega) ms (vset (vset V1 (o + 4) ((sT S)) 1) (o + 5) ((4 * (sT S)) + 0) ((m_low P).1)) (RB.k (by omega) (by omega) (RB.k (by omega) (by omega) xu1)).1 (by omega)) ?_
            rintro r8 hx8 ⟨ehx8, er8⟩
            rw [ehx8, er8]
            clear ehx8 hx8 er8 r8
            refine g_l2i2 rfl (by omega) (by omega) ?_
            refine g_iast (i := (4 * (sT S)) + 1) rfl (mt_part ms) (by omega) (by omega) ?_
            refine g_hp (h2 := hw h (vset (vset (vset V1 (o + 4) ((sT S)) 1) (o + 5) ((4 * (sT S)) + 0) ((m_low P).1)) (o + 5) ((4 * (sT S)) + 1) ((m_low P).2.1))) rfl ?_
            refine g_iinc (l1 := [(3, aI 2), (0, aO (some o)), (1, aO (some aP)), (2, aI 1)]) rfl rfl (by omega) (by omega) rfl ?_
            refine g_goto rfl ?_
            refine g_iload_n rfl rfl ?_
            refine g_iconst rfl ?_
            refine g_icmp_ge_f rfl (by omega) ?_
            refine g_aload_n rfl rfl ?_
            refine g_getR rfl ms.1 (mr_part ms) ?_
            refine g_iconst rfl ?_
            refine g_aload_n rfl rfl ?_
            refine g_getI rfl ms.1 ?_
            refine g_top (v2 := aI ((sT S : Int))) (congrArg aI (by show (vset (vset (vset V1 (o + 4) ((sT S)) 1) (o + 5) ((4 * (sT S)) + 0) ((m_low P).1)) (o + 5) ((4 * (sT S)) + 1) ((m_low P).2.1)) o 7 = (sT S : Int); rw [vset_ne _ _ _ _ (by omega), vset_ne _ _ _ _ (by omega), vset_ne _ _ _ _ (by omega)]; exact (g1.mt (show ¬((o + 4) = aP) by omega) (show ¬((o + 5) = aP) by omega) mt).1)) ?_
            refine g_imul rfl (by omega) (by omega) ?_
            refine g_iload_n rfl rfl ?_
            refine g_iadd rfl (by omega) (by omega) ?_
            refine g_aload_n rfl rfl ?_
            refine g_aload_n rfl rfl ?_
            refine g_iload_n rfl rfl ?_
            refine g_iald (i := 2) rfl (ms.slot hP) (by omega) (by omega) ?_
            refine g_top (v2 := aI ((v1 : Int))) (congrArg aI (by exact (SA.k (by omega) (SA.k (by omega) (SA.k (by omega) s1))).2.2.1)) ?_
            refine g_callVJ [aI ((v1 : Int))] [aI ((4 * ((sT S : Int))) + 2), aO (some (o + 5))] rfl rfl rfl rfl (Nat.le_of_ble_eq_true rfl) ms.1 (r_value (by omega) ms (vset (vset (vset V1 (o + 4) ((sT S)) 1) (o + 5) ((4 * (sT S)) + 0) ((m_low P).1)) (o + 5) ((4 * (sT S)) + 1) ((m_low P).2.1)) (RB.k (by omega) (by omega) (RB.k (by omega) (by omega) (RB.k (by omega) (by omega) xv1))).1 (by omega)) ?_
            rintro r9 hx9 ⟨ehx9, er9⟩
            rw [ehx9, er9]
            clear ehx9 hx9 er9 r9
            refine g_l2i2 rfl (by omega) (by omega) ?_
            refine g_iast (i := (4 * (sT S)) + 2) rfl (mt_part ms) (by omega) (by omega) ?_
            refine g_hp (h2 := hw h (vset (vset (vset (vset V1 (o + 4) ((sT S)) 1) (o + 5) ((4 * (sT S)) + 0) ((m_low P).1)) (o + 5) ((4 * (sT S)) + 1) ((m_low P).2.1)) (o + 5) ((4 * (sT S)) + 2) ((m_low P).2.2.1))) rfl ?_
            refine g_iinc (l1 := [(3, aI 3), (0, aO (some o)), (1, aO (some aP)), (2, aI 1)]) rfl rfl (by omega) (by omega) rfl ?_
            refine g_goto rfl ?_
            refine g_iload_n rfl rfl ?_
            refine g_iconst rfl ?_
            refine g_icmp_ge_f rfl (by omega) ?_
            refine g_aload_n rfl rfl ?_
            refine g_getR rfl ms.1 (mr_part ms) ?_
            refine g_iconst rfl ?_
            refine g_aload_n rfl rfl ?_
            refine g_getI rfl ms.1 ?_
            refine g_top (v2 := aI ((sT S : Int))) (congrArg aI (by show (vset (vset (vset (vset V1 (o + 4) ((sT S)) 1) (o + 5) ((4 * (sT S)) + 0) ((m_low P).1)) (o + 5) ((4 * (sT S)) + 1) ((m_low P).2.1)) (o + 5) ((4 * (sT S)) + 2) ((m_low P).2.2.1)) o 7 = (sT S : Int); rw [vset_ne _ _ _ _ (by omega), vset_ne _ _ _ _ (by omega), vset_ne _ _ _ _ (by omega), vset_ne _ _ _ _ (by omega)]; exact (g1.mt (show ¬((o + 4) = aP) by omega) (show ¬((o + 5) = aP) by omega) mt).1)) ?_
            refine g_imul rfl (by omega) (by omega) ?_
            refine g_iload_n rfl rfl ?_
            refine g_iadd rfl (by omega) (by omega) ?_
            refine g_aload_n rfl rfl ?_
            refine g_aload_n rfl rfl ?_
            refine g_iload_n rfl rfl ?_
            refine g_iald (i := 3) rfl (ms.slot hP) (by omega) (by omega) ?_
            refine g_top (v2 := aI ((y1 : Int))) (congrArg aI (by exact (SA.k (by omega) (SA.k (by omega) (SA.k (by omega) (SA.k (by omega) s1)))).2.2.2)) ?_
            refine g_callVJ [aI ((y1 : Int))] [aI ((4 * ((sT S : Int))) + 3), aO (some (o + 5))] rfl rfl rfl rfl (Nat.le_of_ble_eq_true rfl) ms.1 (r_value (by omega) ms (vset (vset (vset (vset V1 (o + 4) ((sT S)) 1) (o + 5) ((4 * (sT S)) + 0) ((m_low P).1)) (o + 5) ((4 * (sT S)) + 1) ((m_low P).2.1)) (o + 5) ((4 * (sT S)) + 2) ((m_low P).2.2.1)) (RB.k (by omega) (by omega) (RB.k (by omega) (by omega) (RB.k (by omega) (by omega) (RB.k (by omega) (by omega) xy1)))).1 (by omega)) ?_
            rintro r10 hx10 ⟨ehx10, er10⟩
            rw [ehx10, er10]
            clear ehx10 hx10 er10 r10
            refine g_l2i2 rfl (by omega) (by omega) ?_
            refine g_iast (i := (4 * (sT S)) + 3) rfl (mt_part ms) (by omega) (by omega) ?_
            refine g_hp (h2 := hw h (vset (vset (vset (vset (vset V1 (o + 4) ((sT S)) 1) (o + 5) ((4 * (sT S)) + 0) ((m_low P).1)) (o + 5) ((4 * (sT S)) + 1) ((m_low P).2.1)) (o + 5) ((4 * (sT S)) + 2) ((m_low P).2.2.1)) (o + 5) ((4 * (sT S)) + 3) ((m_low P).2.2.2))) rfl ?_
            refine g_iinc (l1 := [(3, aI 4), (0, aO (some o)), (1, aO (some aP)), (2, aI 1)]) rfl rfl (by omega) (by omega) rfl ?_
            refine g_goto rfl ?_
            refine g_iload_n rfl rfl ?_
            refine g_iconst rfl ?_
            refine g_icmp_ge_t rfl (by omega) ?_
            refine g_aload_n rfl rfl ?_
            refine g_dup rfl rfl ?_
            refine g_getI rfl ms.1 ?_
            refine g_top (v2 := aI ((sT S : Int))) (congrArg aI (by show (vset (vset (vset (vset (vset V1 (o + 4) ((sT S)) 1) (o + 5) ((4 * (sT S)) + 0) ((m_low P).1)) (o + 5) ((4 * (sT S)) + 1) ((m_low P).2.1)) (o + 5) ((4 * (sT S)) + 2) ((m_low P).2.2.1)) (o + 5) ((4 * (sT S)) + 3) ((m_low P).2.2.2)) o 7 = (sT S : Int); rw [vset_ne _ _ _ _ (by omega), vset_ne _ _ _ _ (by omega), vset_ne _ _ _ _ (by omega), vset_ne _ _ _ _ (by omega), vset_ne _ _ _ _ (by omega)]; exact (g1.mt (show ¬((o + 4) = aP) by omega) (show ¬((o + 5) = aP) by omega) mt).1)) ?_
            refine g_iconst rfl ?_
            refine g_iadd rfl (by omega) (by omega) ?_
            refine g_putI rfl ms.1 ?_
            refine g_hp (h2 := hw h (vset (vset (vset (vset (vset (vset V1 (o + 4) ((sT S)) 1) (o + 5) ((4 * (sT S)) + 0) ((m_low P).1)) (o + 5) ((4 * (sT S)) + 1) ((m_low P).2.1)) (o + 5) ((4 * (sT S)) + 2) ((m_low P).2.2.1)) (o + 5) ((4 * (sT S)) + 3) ((m_low P).2.2.2)) o 7 (((sT S : Int)) + 1))) rfl ?_
            refine g_aload_n rfl rfl ?_
            refine g_getI rfl ms.1 ?_
            refine g_top (v2 := aI ((sT S : Int) + 1)) (congrArg aI (by exact vset_eq _ _ _ _)) ?_
            refine g_iconst rfl ?_
            refine g_isub rfl (by omega) (by omega) ?_
            refine g_iret rfl ?_
            have ek : keepT S 1 (m_low P) = ((sT S : Int), addT S 1 (fun k => if k = 0 then (m_low P).1 else if k = 1 then (m_low P).2.1 else if k = 2 then (m_low P).2.2.1 else (m_low P).2.2.2)) := by unfold keepT; rw [if_pos (by unfold sml; omega)]
            rw [ek]
            exact ⟨keepW o (sT S) V1 1 (m_low P), rfl, (KM.keep G_2 (sT S) 1 (m_low P)).mono (by omega), by omega, MT.keep (g1.mt (show ¬((o + 4) = aP) by omega) (show ¬((o + 5) = aP) by omega) mt) rfl⟩
          · skip
            refine g_bipush rfl ?_
            refine g_iret rfl ?_
            have ek : keepT S 1 (m_low P) = (-4, S) := by unfold keepT; rw [if_neg (by unfold sml; omega)]
            rw [ek]
            exact ⟨V1, rfl, KM.of (G_2.mono (by omega)), rfl, (g1.mt (show ¬((o + 4) = aP) by omega) (show ¬((o + 5) = aP) by omega) mt)⟩
        · skip
          refine g_bipush rfl ?_
          refine g_iret rfl ?_
          have ek : keepT S 1 (m_low P) = (-4, S) := by unfold keepT; rw [if_neg (by unfold sml; omega)]
          rw [ek]
          exact ⟨V1, rfl, KM.of (G_2.mono (by omega)), rfl, (g1.mt (show ¬((o + 4) = aP) by omega) (show ¬((o + 5) = aP) by omega) mt)⟩
      · skip
        refine g_bipush rfl ?_
        refine g_iret rfl ?_
        have ek : keepT S 1 (m_low P) = (-4, S) := by unfold keepT; rw [if_neg (by unfold sml; omega)]
        rw [ek]
        exact ⟨V1, rfl, KM.of (G_2.mono (by omega)), rfl, (g1.mt (show ¬((o + 4) = aP) by omega) (show ¬((o + 5) = aP) by omega) mt)⟩
    · skip
      refine g_bipush rfl ?_
      refine g_iret rfl ?_
      have ek : keepT S 1 (m_low P) = (-4, S) := by unfold keepT; rw [if_neg (by unfold sml; omega)]
      rw [ek]
      exact ⟨V1, rfl, KM.of (G_2.mono (by omega)), rfl, (g1.mt (show ¬((o + 4) = aP) by omega) (show ¬((o + 5) = aP) by omega) mt)⟩
  · skip
    refine g_bipush rfl ?_
    refine g_iret rfl ?_
    have ek : keepT S 1 (m_low P) = (-4, S) := by unfold keepT; rw [if_neg (by unfold sml; omega)]
    rw [ek]
    exact ⟨V1, rfl, KM.of (G_2.mono (by omega)), rfl, (g1.mt (show ¬((o + 4) = aP) by omega) (show ¬((o + 5) = aP) by omega) mt)⟩
set_option maxHeartbeats 4000000 in
theorem m_keepT2 {w : aW} {d : Nat} (hd : 8 ≤ d) {k : Nat} {h : aH} {o : Nat} (ms : MS h o) (V : Nat → Nat → Int) {S : aS} (ok : OkT S) (mt : MT V o S) (hF : 0 ≤ V o 1 ∧ V o 1 + 22 ≤ 700) {P : T4} (aP : Nat) (hP : SLa o aP) (tP : SB V o aP P (k)) (hk : k ≤ 381) : WP w d 289 [aO (some o), aO (some aP), aI 2] (hw h V) (RI (fun r h1 => ∃ V1, h1 = hw h V1 ∧ KM V V1 o 22 (fun q => q = aP) ∧ r = (keepT S 2 (m_lowR P)).1 ∧ MT V1 o (keepT S 2 (m_lowR P)).2)) := by
  obtain ⟨d, rfl⟩ : ∃ d1, d = d1 + 1 := ⟨d - 1, by omega⟩
  refine WP.enter (cd := cd_X12_keepThing) rfl ?_
  have G0 := Gs.refl V o (fun q => q = aP)
  obtain ⟨Pp, Pq, Pr, Ps, sP, xPp, xPq, xPr, xPs⟩ := tP
  have hs_P := hP
  unfold SLa at hs_P
  have hn := ok.1
  have hls : largs 0 [aO (some o), aO (some aP), aI 2] = [(0, aO (some o)), (1, aO (some aP)), (2, aI 2)] := rfl
  rw [hls]
  clear hls
  refine g_aload_n rfl rfl ?_
  refine g_aload_n rfl rfl ?_
  refine g_iload_n rfl rfl ?_
  refine g_callVN [aO (some aP), aI 2] [] rfl rfl rfl rfl (Nat.le_of_ble_eq_true rfl) ms.1 (m_settle2 (by omega) ms V (by have := G0.2.2.1; omega) aP hP (show SB V o aP P (k) from ⟨_, _, _, _, sP, (xPp.up (by omega)), (xPq.up (by omega)), (xPr.up (by omega)), (xPs.up (by omega))⟩) (by omega)) ?_
  rintro _ ⟨V1, rfl, g1, t1, u1, v1, y1, s1, xt1, xu1, xv1, xy1⟩
  have G_2 := G0.trans (g1.wide (fun q hq => by have hq : q = aP := hq; show q = aP; omega))
  refine g_iconst rfl ?_
  refine g_istore_n (l1 := [(3, aI 0), (0, aO (some o)), (1, aO (some aP)), (2, aI 2)]) rfl rfl ?_
  refine g_iload_n rfl rfl ?_
  refine g_iconst rfl ?_
  refine g_icmp_ge_f rfl (by omega) ?_
  refine g_aload_n rfl rfl ?_
  refine g_aload_n rfl rfl ?_
  refine g_iload_n rfl rfl ?_
  refine g_iald (i := 0) rfl (ms.slot hP) (by omega) (by omega) ?_
  refine g_top (v2 := aI ((t1 : Int))) (congrArg aI (by exact s1.1)) ?_
  refine g_ldc2 rfl ?_
  refine g_callVI [aI ((t1 : Int)), aJ 1048576] [] rfl rfl rfl rfl (Nat.le_of_ble_eq_true rfl) ms.1 (r_isWithin (by omega) ms V1 xt1.1 1048576 (by omega)) ?_
  rintro _ hx3 ⟨ehx3, rfl⟩
  rw [ehx3]
  clear ehx3 hx3
  refine g_b_ne rfl (fun c23 => ?_) (fun c23 => ?_)
  · skip
    refine g_iinc (l1 := [(3, aI 1), (0, aO (some o)), (1, aO (some aP)), (2, aI 2)]) rfl rfl (by omega) (by omega) rfl ?_
    refine g_goto rfl ?_
    refine g_iload_n rfl rfl ?_
    refine g_iconst rfl ?_
    refine g_icmp_ge_f rfl (by omega) ?_
    refine g_aload_n rfl rfl ?_
    refine g_aload_n rfl rfl ?_
    refine g_iload_n rfl rfl ?_
    refine g_iald (i := 1) rfl (ms.slot hP) (by omega) (by omega) ?_
    refine g_top (v2 := aI ((u1 : Int))) (congrArg aI (by exact s1.2.1)) ?_
    refine g_ldc2 rfl ?_
    refine g_callVI [aI ((u1 : Int)), aJ 1048576] [] rfl rfl rfl rfl (Nat.le_of_ble_eq_true rfl) ms.1 (r_isWithin (by omega) ms V1 xu1.1 1048576 (by omega)) ?_
    rintro _ hx4 ⟨ehx4, rfl⟩
    rw [ehx4]
    clear ehx4 hx4
    refine g_b_ne rfl (fun c23 => ?_) (fun c23 => ?_)
    · skip
      refine g_iinc (l1 := [(3, aI 2), (0, aO (some o)), (1, aO (some aP)), (2, aI 2)]) rfl rfl (by omega) (by omega) rfl ?_
      refine g_goto rfl ?_
      refine g_iload_n rfl rfl ?_
      refine g_iconst rfl ?_
      refine g_icmp_ge_f rfl (by omega) ?_
      refine g_aload_n rfl rfl ?_
      refine g_aload_n rfl rfl ?_
      refine g_iload_n rfl rfl ?_
      refine g_iald (i := 2) rfl (ms.slot hP) (by omega) (by omega) ?_
      refine g_top (v2 := aI ((v1 : Int))) (congrArg aI (by exact s1.2.2.1)) ?_
      refine g_ldc2 rfl ?_
      refine g_callVI [aI ((v1 : Int)), aJ 1048576] [] rfl rfl rfl rfl (Nat.le_of_ble_eq_true rfl) ms.1 (r_isWithin (by omega) ms V1 xv1.1 1048576 (by omega)) ?_
      rintro _ hx5 ⟨ehx5, rfl⟩
      rw [ehx5]
      clear ehx5 hx5
      refine g_b_ne rfl (fun c23 => ?_) (fun c23 => ?_)
      · skip
        refine g_iinc (l1 := [(3, aI 3), (0, aO (some o)), (1, aO (some aP)), (2, aI 2)]) rfl rfl (by omega) (by omega) rfl ?_
        refine g_goto rfl ?_
        refine g_iload_n rfl rfl ?_
        refine g_iconst rfl ?_
        refine g_icmp_ge_f rfl (by omega) ?_
        refine g_aload_n rfl rfl ?_
        refine g_aload_n rfl rfl ?_
        refine g_iload_n rfl rfl ?_
        refine g_iald (i := 3) rfl (ms.slot hP) (by omega) (by omega) ?_
        refine g_top (v2 := aI ((y1 : Int))) (congrArg aI (by exact s1.2.2.2)) ?_
        refine g_ldc2 rfl ?_
        refine g_callVI [aI ((y1 : Int)), aJ 1048576] [] rfl rfl rfl rfl (Nat.le_of_ble_eq_true rfl) ms.1 (r_isWithin (by omega) ms V1 xy1.1 1048576 (by omega)) ?_
        rintro _ hx6 ⟨ehx6, rfl⟩
        rw [ehx6]
        clear ehx6 hx6
        refine g_b_ne rfl (fun c23 => ?_) (fun c23 => ?_)
        · skip
          refine g_iinc (l1 := [(3, aI 4), (0, aO (some o)), (1, aO (some aP)), (2, aI 2)]) rfl rfl (by omega) (by omega) rfl ?_
          refine g_goto rfl ?_
          refine g_iload_n rfl rfl ?_
          refine g_iconst rfl ?_
          refine g_icmp_ge_t rfl (by omega) ?_
          refine g_aload_n rfl rfl ?_
          refine g_getI rfl ms.1 ?_
          refine g_top (v2 := aI ((sT S : Int))) (congrArg aI (by exact (g1.mt (show ¬((o + 4) = aP) by omega) (show ¬((o + 5) = aP) by omega) mt).1)) ?_
          refine g_bipush rfl ?_
          refine g_icmp_ne rfl (fun c41 => ?_) (fun c41 => ?_)
          · skip
            refine g_aload_n rfl rfl ?_
            refine g_getR rfl ms.1 (mr_sort ms) ?_
            refine g_aload_n rfl rfl ?_
            refine g_getI rfl ms.1 ?_
            refine g_top (v2 := aI ((sT S : Int))) (congrArg aI (by exact (g1.mt (show ¬((o + 4) = aP) by omega) (show ¬((o + 5) = aP) by omega) mt).1)) ?_
            refine g_iload_n rfl rfl ?_
            refine g_iast (i := (sT S)) rfl (mt_sort ms) (by omega) (by omega) ?_
            refine g_hp (h2 := hw h (vset V1 (o + 4) ((sT S)) 2)) rfl ?_
            refine g_iconst rfl ?_
            refine g_istore_n (l1 := [(3, aI 0), (0, aO (some o)), (1, aO (some aP)), (2, aI 2)]) rfl rfl ?_
            refine g_iload_n rfl rfl ?_
            refine g_iconst rfl ?_
            refine g_icmp_ge_f rfl (by omega) ?_
            refine g_aload_n rfl rfl ?_
            refine g_getR rfl ms.1 (mr_part ms) ?_
            refine g_iconst rfl ?_
            refine g_aload_n rfl rfl ?_
            refine g_getI rfl ms.1 ?_
            refine g_top (v2 := aI ((sT S : Int))) (congrArg aI (by show (vset V1 (o + 4) ((sT S)) 2) o 7 = (sT S : Int); rw [vset_ne _ _ _ _ (by omega)]; exact (g1.mt (show ¬((o + 4) = aP) by omega) (show ¬((o + 5) = aP) by omega) mt).1)) ?_
            refine g_imul rfl (by omega) (by omega) ?_
            refine g_iload_n rfl rfl ?_
            refine g_iadd rfl (by omega) (by omega) ?_
            refine g_aload_n rfl rfl ?_
            refine g_aload_n rfl rfl ?_
            refine g_iload_n rfl rfl ?_
            refine g_iald (i := 0) rfl (ms.slot hP) (by omega) (by omega) ?_
            refine g_top (v2 := aI ((t1 : Int))) (congrArg aI (by exact (SA.k (by omega) s1).1)) ?_
            refine g_callVJ [aI ((t1 : Int))] [aI ((4 * ((sT S : Int))) + 0), aO (some (o + 5))] rfl rfl rfl rfl (Nat.le_of_ble_eq_true rfl) ms.1 (r_value (by omega) ms (vset V1 (o + 4) ((sT S)) 2) (RB.k (by omega) (by omega) xt1).1 (by omega)) ?_
            rintro r7 hx7 ⟨ehx7, er7⟩
            rw [ehx7, er7]
            clear ehx7 hx7 er7 r7
            refine g_l2i2 rfl (by omega) (by omega) ?_
            refine g_iast (i := (4 * (sT S)) + 0) rfl (mt_part ms) (by omega) (by omega) ?_
            refine g_hp (h2 := hw h (vset (vset V1 (o + 4) ((sT S)) 2) (o + 5) ((4 * (sT S)) + 0) ((m_lowR P).1))) rfl ?_
            refine g_iinc (l1 := [(3, aI 1), (0, aO (some o)), (1, aO (some aP)), (2, aI 2)]) rfl rfl (by omega) (by omega) rfl ?_
            refine g_goto rfl ?_
            refine g_iload_n rfl rfl ?_
            refine g_iconst rfl ?_
            refine g_icmp_ge_f rfl (by omega) ?_
            refine g_aload_n rfl rfl ?_
            refine g_getR rfl ms.1 (mr_part ms) ?_
            refine g_iconst rfl ?_
            refine g_aload_n rfl rfl ?_
            refine g_getI rfl ms.1 ?_
            refine g_top (v2 := aI ((sT S : Int))) (congrArg aI (by show (vset (vset V1 (o + 4) ((sT S)) 2) (o + 5) ((4 * (sT S)) + 0) ((m_lowR P).1)) o 7 = (sT S : Int); rw [vset_ne _ _ _ _ (by omega), vset_ne _ _ _ _ (by omega)]; exact (g1.mt (show ¬((o + 4) = aP) by omega) (show ¬((o + 5) = aP) by omega) mt).1)) ?_
            refine g_imul rfl (by omega) (by omega) ?_
            refine g_iload_n rfl rfl ?_
            refine g_iadd rfl (by omega) (by omega) ?_
            refine g_aload_n rfl rfl ?_
            refine g_aload_n rfl rfl ?_
            refine g_iload_n rfl rfl ?_
            refine g_iald (i := 1) rfl (ms.slot hP) (by omega) (by omega) ?_
            refine g_top (v2 := aI ((u1 : Int))) (congrArg aI (by exact (SA.k (by omega) (SA.k (by omega) s1)).2.1)) ?_
            refine g_callVJ [aI ((u1 : Int))] [aI ((4 * ((sT S : Int))) + 1), aO (some (o + 5))] rfl rfl rfl rfl (Nat.le_of_ble_eq_true rfl) ms.1 (r_value (by omega) ms (vset (vset V1 (o + 4) ((sT S)) 2) (o + 5) ((4 * (sT S)) + 0) ((m_lowR P).1)) (RB.k (by omega) (by omega) (RB.k (by omega) (by omega) xu1)).1 (by omega)) ?_
            rintro r8 hx8 ⟨ehx8, er8⟩
            rw [ehx8, er8]
            clear ehx8 hx8 er8 r8
            refine g_l2i2 rfl (by omega) (by omega) ?_
            refine g_iast (i := (4 * (sT S)) + 1) rfl (mt_part ms) (by omega) (by omega) ?_
            refine g_hp (h2 := hw h (vset (vset (vset V1 (o + 4) ((sT S)) 2) (o + 5) ((4 * (sT S)) + 0) ((m_lowR P).1)) (o + 5) ((4 * (sT S)) + 1) ((m_lowR P).2.1))) rfl ?_
            refine g_iinc (l1 := [(3, aI 2), (0, aO (some o)), (1, aO (some aP)), (2, aI 2)]) rfl rfl (by omega) (by omega) rfl ?_
            refine g_goto rfl ?_
            refine g_iload_n rfl rfl ?_
            refine g_iconst rfl ?_
            refine g_icmp_ge_f rfl (by omega) ?_
            refine g_aload_n rfl rfl ?_
            refine g_getR rfl ms.1 (mr_part ms) ?_
            refine g_iconst rfl ?_
            refine g_aload_n rfl rfl ?_
            refine g_getI rfl ms.1 ?_
            refine g_top (v2 := aI ((sT S : Int))) (congrArg aI (by show (vset (vset (vset V1 (o + 4) ((sT S)) 2) (o + 5) ((4 * (sT S)) + 0) ((m_lowR P).1)) (o + 5) ((4 * (sT S)) + 1) ((m_lowR P).2.1)) o 7 = (sT S : Int); rw [vset_ne _ _ _ _ (by omega), vset_ne _ _ _ _ (by omega), vset_ne _ _ _ _ (by omega)]; exact (g1.mt (show ¬((o + 4) = aP) by omega) (show ¬((o + 5) = aP) by omega) mt).1)) ?_
            refine g_imul rfl (by omega) (by omega) ?_
            refine g_iload_n rfl rfl ?_
            refine g_iadd rfl (by omega) (by omega) ?_
            refine g_aload_n rfl rfl ?_
            refine g_aload_n rfl rfl ?_
            refine g_iload_n rfl rfl ?_
            refine g_iald (i := 2) rfl (ms.slot hP) (by omega) (by omega) ?_
            refine g_top (v2 := aI ((v1 : Int))) (congrArg aI (by exact (SA.k (by omega) (SA.k (by omega) (SA.k (by omega) s1))).2.2.1)) ?_
            refine g_callVJ [aI ((v1 : Int))] [aI ((4 * ((sT S : Int))) + 2), aO (some (o + 5))] rfl rfl rfl rfl (Nat.le_of_ble_eq_true rfl) ms.1 (r_value (by omega) ms (vset (vset (vset V1 (o + 4) ((sT S)) 2) (o + 5) ((4 * (sT S)) + 0) ((m_lowR P).1)) (o + 5) ((4 * (sT S)) + 1) ((m_lowR P).2.1)) (RB.k (by omega) (by omega) (RB.k (by omega) (by omega) (RB.k (by omega) (by omega) xv1))).1 (by omega)) ?_
            rintro r9 hx9 ⟨ehx9, er9⟩
            rw [ehx9, er9]
            clear ehx9 hx9 er9 r9
            refine g_l2i2 rfl (by omega) (by omega) ?_
            refine g_iast (i := (4 * (sT S)) + 2) rfl (mt_part ms) (by omega) (by omega) ?_
            refine g_hp (h2 := hw h (vset (vset (vset (vset V1 (o + 4) ((sT S)) 2) (o + 5) ((4 * (sT S)) + 0) ((m_lowR P).1)) (o + 5) ((4 * (sT S)) + 1) ((m_lowR P).2.1)) (o + 5) ((4 * (sT S)) + 2) ((m_lowR P).2.2.1))) rfl ?_
            refine g_iinc (l1 := [(3, aI 3), (0, aO (some o)), (1, aO (some aP)), (2, aI 2)]) rfl rfl (by omega) (by omega) rfl ?_
            refine g_goto rfl ?_
            refine g_iload_n rfl rfl ?_
            refine g_iconst rfl ?_
            refine g_icmp_ge_f rfl (by omega) ?_
            refine g_aload_n rfl rfl ?_
            refine g_getR rfl ms.1 (mr_part ms) ?_
            refine g_iconst rfl ?_
            refine g_aload_n rfl rfl ?_
            refine g_getI rfl ms.1 ?_
            refine g_top (v2 := aI ((sT S : Int))) (congrArg aI (by show (vset (vset (vset (vset V1 (o + 4) ((sT S)) 2) (o + 5) ((4 * (sT S)) + 0) ((m_lowR P).1)) (o + 5) ((4 * (sT S)) + 1) ((m_lowR P).2.1)) (o + 5) ((4 * (sT S)) + 2) ((m_lowR P).2.2.1)) o 7 = (sT S : Int); rw [vset_ne _ _ _ _ (by omega), vset_ne _ _ _ _ (by omega), vset_ne _ _ _ _ (by omega), vset_ne _ _ _ _ (by omega)]; exact (g1.mt (show ¬((o + 4) = aP) by omega) (show ¬((o + 5) = aP) by omega) mt).1)) ?_
            refine g_imul rfl (by omega) (by omega) ?_
            refine g_iload_n rfl rfl ?_
            refine g_iadd rfl (by omega) (by omega) ?_
            refine g_aload_n rfl rfl ?_
            refine g_aload_n rfl rfl ?_
            refine g_iload_n rfl rfl ?_
            refine g_iald (i := 3) rfl (ms.slot hP) (by omega) (by omega) ?_
            refine g_top (v2 := aI ((y1 : Int))) (congrArg aI (by exact (SA.k (by omega) (SA.k (by omega) (SA.k (by omega) (SA.k (by omega) s1)))).2.2.2)) ?_
            refine g_callVJ [aI ((y1 : Int))] [aI ((4 * ((sT S : Int))) + 3), aO (some (o + 5))] rfl rfl rfl rfl (Nat.le_of_ble_eq_true rfl) ms.1 (r_value (by omega) ms (vset (vset (vset (vset V1 (o + 4) ((sT S)) 2) (o + 5) ((4 * (sT S)) + 0) ((m_lowR P).1)) (o + 5) ((4 * (sT S)) + 1) ((m_lowR P).2.1)) (o + 5) ((4 * (sT S)) + 2) ((m_lowR P).2.2.1)) (RB.k (by omega) (by omega) (RB.k (by omega) (by omega) (RB.k (by omega) (by omega) (RB.k (by omega) (by omega) xy1)))).1 (by omega)) ?_
            rintro r10 hx10 ⟨ehx10, er10⟩
            rw [ehx10, er10]
            clear ehx10 hx10 er10 r10
            refine g_l2i2 rfl (by omega) (by omega) ?_
            refine g_iast (i := (4 * (sT S)) + 3) rfl (mt_part ms) (by omega) (by omega) ?_
            refine g_hp (h2 := hw h (vset (vset (vset (vset (vset V1 (o + 4) ((sT S)) 2) (o + 5) ((4 * (sT S)) + 0) ((m_lowR P).1)) (o + 5) ((4 * (sT S)) + 1) ((m_lowR P).2.1)) (o + 5) ((4 * (sT S)) + 2) ((m_lowR P).2.2.1)) (o + 5) ((4 * (sT S)) + 3) ((m_lowR P).2.2.2))) rfl ?_
            refine g_iinc (l1 := [(3, aI 4), (0, aO (some o)), (1, aO (some aP)), (2, aI 2)]) rfl rfl (by omega) (by omega) rfl ?_
            refine g_goto rfl ?_
            refine g_iload_n rfl rfl ?_
            refine g_iconst rfl ?_
            refine g_icmp_ge_t rfl (by omega) ?_
            refine g_aload_n rfl rfl ?_
            refine g_dup rfl rfl ?_
            refine g_getI rfl ms.1 ?_
            refine g_top (v2 := aI ((sT S : Int))) (congrArg aI (by show (vset (vset (vset (vset (vset V1 (o + 4) ((sT S)) 2) (o + 5) ((4 * (sT S)) + 0) ((m_lowR P).1)) (o + 5) ((4 * (sT S)) + 1) ((m_lowR P).2.1)) (o + 5) ((4 * (sT S)) + 2) ((m_lowR P).2.2.1)) (o + 5) ((4 * (sT S)) + 3) ((m_lowR P).2.2.2)) o 7 = (sT S : Int); rw [vset_ne _ _ _ _ (by omega), vset_ne _ _ _ _ (by omega), vset_ne _ _ _ _ (by omega), vset_ne _ _ _ _ (by omega), vset_ne _ _ _ _ (by omega)]; exact (g1.mt (show ¬((o + 4) = aP) by omega) (show ¬((o + 5) = aP) by omega) mt).1)) ?_
            refine g_iconst rfl ?_
            refine g_iadd rfl (by omega) (by omega) ?_
            refine g_putI rfl ms.1 ?_
            refine g_hp (h2 := hw h (vset (vset (vset (vset (vset (vset V1 (o + 4) ((sT S)) 2) (o + 5) ((4 * (sT S)) + 0) ((m_lowR P).1)) (o + 5) ((4 * (sT S)) + 1) ((m_lowR P).2.1)) (o + 5) ((4 * (sT S)) + 2) ((m_lowR P).2.2.1)) (o + 5) ((4 * (sT S)) + 3) ((m_lowR P).2.2.2)) o 7 (((sT S : Int)) + 1))) rfl ?_
            refine g_aload_n rfl rfl ?_
            refine g_getI rfl ms.1 ?_
            refine g_top (v2 := aI ((sT S : Int) + 1)) (congrArg aI (by exact vset_eq _ _ _ _)) ?_
            refine g_iconst rfl ?_
            refine g_isub rfl (by omega) (by omega) ?_
            refine g_iret rfl ?_
            have ek : keepT S 2 (m_lowR P) = ((sT S : Int), addT S 2 (fun k => if k = 0 then (m_lowR P).1 else if k = 1 then (m_lowR P).2.1 else if k = 2 then (m_lowR P).2.2.1 else (m_lowR P).2.2.2)) := by unfold keepT; rw [if_pos (by unfold sml; omega)]
            rw [ek]
            exact ⟨keepW o (sT S) V1 2 (m_lowR P), rfl, (KM.keep G_2 (sT S) 2 (m_lowR P)).mono (by omega), by omega, MT.keep (g1.mt (show ¬((o + 4) = aP) by omega) (show ¬((o + 5) = aP) by omega) mt) rfl⟩
          · skip
            refine g_bipush rfl ?_
            refine g_iret rfl ?_
            have ek : keepT S 2 (m_lowR P) = (-4, S) := by unfold keepT; rw [if_neg (by unfold sml; omega)]
            rw [ek]
            exact ⟨V1, rfl, KM.of (G_2.mono (by omega)), rfl, (g1.mt (show ¬((o + 4) = aP) by omega) (show ¬((o + 5) = aP) by omega) mt)⟩
        · skip
          refine g_bipush rfl ?_
          refine g_iret rfl ?_
          have ek : keepT S 2 (m_lowR P) = (-4, S) := by unfold keepT; rw [if_neg (by unfold sml; omega)]
          rw [ek]
          exact ⟨V1, rfl, KM.of (G_2.mono (by omega)), rfl, (g1.mt (show ¬((o + 4) = aP) by omega) (show ¬((o + 5) = aP) by omega) mt)⟩
      · skip
        refine g_bipush rfl ?_
        refine g_iret rfl ?_
        have ek : keepT S 2 (m_lowR P) = (-4, S) := by unfold keepT; rw [if_neg (by unfold sml; omega)]
        rw [ek]
        exact ⟨V1, rfl, KM.of (G_2.mono (by omega)), rfl, (g1.mt (show ¬((o + 4) = aP) by omega) (show ¬((o + 5) = aP) by omega) mt)⟩
    · skip
      refine g_bipush rfl ?_
      refine g_iret rfl ?_
      have ek : keepT S 2 (m_lowR P) = (-4, S) := by unfold keepT; rw [if_neg (by unfold sml; omega)]
      rw [ek]
      exact ⟨V1, rfl, KM.of (G_2.mono (by omega)), rfl, (g1.mt (show ¬((o + 4) = aP) by omega) (show ¬((o + 5) = aP) by omega) mt)⟩
  · skip
    refine g_bipush rfl ?_
    refine g_iret rfl ?_
    have ek : keepT S 2 (m_lowR P) = (-4, S) := by unfold keepT; rw [if_neg (by unfold sml; omega)]
    rw [ek]
    exact ⟨V1, rfl, KM.of (G_2.mono (by omega)), rfl, (g1.mt (show ¬((o + 4) = aP) by omega) (show ¬((o + 5) = aP) by omega) mt)⟩
