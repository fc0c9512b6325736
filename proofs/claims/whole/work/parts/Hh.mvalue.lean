/-! value, the reference: printed by wip/whole/hw_.py -/
def FE (V V1 : Nat → Nat → Int) (o : Nat) : Prop := ∀ b j, ¬(b = o ∧ (j = 5 ∨ j = 6)) → V1 b j = V b j
theorem FE.trans {V V1 V2 : Nat → Nat → Int} {o : Nat} (f : FE V V1 o) (g : FE V1 V2 o) : FE V V2 o := fun b j h => by rw [g b j h, f b j h]
theorem FE.set (V : Nat → Nat → Int) (o : Nat) (p q : Int) : FE V (vset (vset V o 5 p) o 6 q) o := fun b j h => by rw [vset_ne _ _ _ _ (by omega), vset_ne _ _ _ _ (by omega)]
theorem FE.mn {V V1 : Nat → Nat → Int} {o : Nat} {S : aS} (f : FE V V1 o) (x : MN V o S) : MN V1 o S := by
  refine ⟨by rw [f _ _ (by omega)]; exact x.1, fun i hi => ?_⟩
  rw [f _ _ (by omega), f _ _ (by omega)]
  exact x.2 i hi
theorem MN.r31 {V : Nat → Nat → Int} {o : Nat} {S : aS} (x : MN V o S) (v : Int) : MN (vset V o 31 v) o S := by
  refine ⟨by rw [vset_ne _ _ _ _ (by omega)]; exact x.1, fun i hi => ?_⟩
  rw [vset_ne _ _ _ _ (by omega), vset_ne _ _ _ _ (by omega)]
  exact x.2 i hi
theorem big_sm {f : Nat → Int} (h : smX f) {t : Nat} (ht : t < 1331) : -67108864 ≤ big f t ∧ big f t ≤ 67108864 := (BigR.sm (F := big f) (f := f) (fun x hx => rfl)).mpr h t ht
set_option maxRecDepth 100000 in
theorem m_pgrow {w : aW} {d : Nat} (hd : 4 ≤ d) {h : aH} {o : Nat} (ms : MS h o) (V : Nat → Nat → Int) {S : aS} (mn : MN V o S) (okn : OkN S) (a : Nat) (ha : a < sN S) (k : Nat) (hk : k ≤ 10) (p0 : Int × Int) (hb0 : BQ p0) (h50 : V o 5 = p0.1) (h60 : V o 6 = p0.2) : WP w d 364 [aO (some o), aI ((a : Int)), aI ((k : Int))] (hw h V) (RI (fun r h1 => ∃ V1, h1 = hw h V1 ∧ FE V V1 o ∧ ((mulO (sNu S a) k (some p0) = none ∧ r = 0) ∨ ∃ p, mulO (sNu S a) k (some p0) = some p ∧ BQ p ∧ V1 o 5 = p.1 ∧ V1 o 6 = p.2 ∧ r = 1))) := by
  obtain ⟨d, rfl⟩ : ∃ d1, d = d1 + 1 := ⟨d - 1, by omega⟩
  refine WP.enter (cd := cd_X12_grow) rfl ?_
  have hx := (okn.2 a ha).bq
  have hok := okn.1
  have hls : largs 0 [aO (some o), aI ((a : Int)), aI ((k : Int))] = [(0, aO (some o)), (1, aI ((a : Int))), (2, aI ((k : Int)))] := rfl
  rw [hls]
  clear hls
  have l5 : ∀ (fuel : Nat) (i : Nat) (V1 : Nat → Nat → Int) (s : Int), (i ≤ k) → (FE V V1 o) → ((s = 1 ∧ ∃ p, mulO (sNu S a) i (some p0) = some p ∧ BQ p ∧ V1 o 5 = p.1 ∧ V1 o 6 = p.2) ∨ (s = 0 ∧ mulO (sNu S a) i (some p0) = none)) → k - i < fuel → Wk w d cd_X12_grow 5 [(4, aI ((i : Int))), (3, aI s), (0, aO (some o)), (1, aI ((a : Int))), (2, aI ((k : Int)))] [] (hw h V1) (RI (fun r h1 => ∃ V1, h1 = hw h V1 ∧ FE V V1 o ∧ ((mulO (sNu S a) k (some p0) = none ∧ r = 0) ∨ ∃ p, mulO (sNu S a) k (some p0) = some p ∧ BQ p ∧ V1 o 5 = p.1 ∧ V1 o 6 = p.2 ∧ r = 1))) := by
    intro fuel
    induction fuel with
    | zero => intros; omega
    | succ fuel ih5 =>
      intro i V1 s hi hf hs hfuel
      refine g_iload rfl rfl ?_
      refine g_iload_n rfl rfl ?_
      refine g_icmp_ge rfl (fun cq8 => ?_) (fun cq8 => ?_)
      · skip
        refine g_iload_n rfl rfl ?_
        refine g_zret rfl (by omega) ?_
        refine ⟨V1, rfl, hf, ?_⟩
        rcases hs with ⟨e, p, h1, h2, h3, h4⟩ | ⟨e, h1⟩
        · have hik : k = i := by omega
          rw [hik]
          exact Or.inr ⟨p, h1, h2, h3, h4, e⟩
        · have := mulO_none h1 (k - i)
          rw [show i + (k - i) = k by omega] at this
          exact Or.inl ⟨this, e⟩
      · skip
        refine g_iload_n rfl rfl ?_
        refine g_if_eq rfl (fun cq12 => ?_) (fun cq12 => ?_)
        · skip
          refine g_iload_n rfl rfl ?_
          refine g_zret rfl (by omega) ?_
          refine ⟨V1, rfl, hf, ?_⟩
          rcases hs with ⟨e, p, h1, h2, h3, h4⟩ | ⟨e, h1⟩
          · have hik : k = i := by omega
            rw [hik]
            exact Or.inr ⟨p, h1, h2, h3, h4, e⟩
          · have := mulO_none h1 (k - i)
            rw [show i + (k - i) = k by omega] at this
            exact Or.inl ⟨this, e⟩
        · skip
          obtain ⟨p, hp, hb, h5, h6⟩ := (hs.resolve_right (fun w => by have := w.1; omega)).2
          have mn1 := hf.mn mn
          have hbm := bq_mul hb hx
          refine g_aload_n rfl rfl ?_
          refine g_aload_n rfl rfl ?_
          refine g_getJ rfl ms.1 ?_
          refine g_top (v2 := aJ p.1) (congrArg aJ (by exact h5)) ?_
          refine g_aload_n rfl rfl ?_
          refine g_getR rfl ms.1 (mr_upper ms) ?_
          refine g_iload_n rfl rfl ?_
          refine g_lald (i := a) rfl (mt_upper ms) (by omega) (by omega) ?_
          refine g_top (v2 := aJ ((sNu S a).1)) (congrArg aJ (by exact (mn1.2 a ha).1)) ?_
          refine g_lmul rfl (by omega) (by omega) ?_
          refine g_aload_n rfl rfl ?_
          refine g_getJ rfl ms.1 ?_
          refine g_top (v2 := aJ p.2) (congrArg aJ (by exact h6)) ?_
          refine g_aload_n rfl rfl ?_
          refine g_getR rfl ms.1 (mr_lower ms) ?_
          refine g_iload_n rfl rfl ?_
          refine g_lald (i := a) rfl (mt_lower ms) (by omega) (by omega) ?_
          refine g_top (v2 := aJ ((sNu S a).2)) (congrArg aJ (by exact (mn1.2 a ha).2)) ?_
          refine g_lmul rfl (by omega) (by omega) ?_
          refine g_callVI [aJ (p.1 * ((sNu S a).1)), aJ (p.2 * ((sNu S a).2))] [] rfl rfl rfl rfl (Nat.le_of_ble_eq_true rfl) ms.1 (m_reduce (by omega) ms V1 (p.1 * (sNu S a).1) (p.2 * (sNu S a).2) (by omega) (by omega) (by omega)) ?_
          rintro r9 h9 ⟨e9, er9⟩
          rw [e9, er9]
          clear e9 er9
          refine g_istore_n (l1 := [(3, aI (if smallF (lowF (p.1 * (sNu S a).1) (p.2 * (sNu S a).2)) = true then 1 else 0)), (4, aI ((i : Int))), (0, aO (some o)), (1, aI ((a : Int))), (2, aI ((k : Int)))]) rfl rfl ?_
          refine g_iinc (l1 := [(4, aI ((i : Int) + 1)), (3, aI (if smallF (lowF (p.1 * (sNu S a).1) (p.2 * (sNu S a).2)) = true then 1 else 0)), (0, aO (some o)), (1, aI ((a : Int))), (2, aI ((k : Int)))]) rfl rfl (by omega) (by omega) rfl ?_
          refine g_goto rfl ?_
          exact ih5 (i + 1) _ _ (by omega) (by exact hf.trans (FE.set _ _ _ _)) (by 
                                                                                                                                                                                                                                                                                                                                                                                                                by_cases w : smallF (lowF (p.1 * (sNu S a).1) (p.2 * (sNu S a).2)) = true
                                                                                                                                                                                                                                                                                                                                                                                                                · rw [if_pos w]
                                                                                                                                                                                                                                                                                                                                                                                                                  refine Or.inl ⟨rfl, _, ?_, (lowF_ok (by omega) w).bq, by rw [vset_ne _ _ _ _ (by omega), vset_eq], by rw [vset_eq]⟩
                                                                                                                                                                                                                                                                                                                                                                                                                  show (mulO (sNu S a) i (some p0)).bind _ = _
                                                                                                                                                                                                                                                                                                                                                                                                                  rw [hp]
                                                                                                                                                                                                                                                                                                                                                                                                                  exact stO_1 w
                                                                                                                                                                                                                                                                                                                                                                                                                · rw [if_neg w]
                                                                                                                                                                                                                                                                                                                                                                                                                  refine Or.inr ⟨rfl, ?_⟩
                                                                                                                                                                                                                                                                                                                                                                                                                  show (mulO (sNu S a) i (some p0)).bind _ = _
                                                                                                                                                                                                                                                                                                                                                                                                                  rw [hp]
                                                                                                                                                                                                                                                                                                                                                                                                                  exact stO_0 w) (by omega)
  refine g_iconst rfl ?_
  refine g_istore_n (l1 := [(3, aI 1), (0, aO (some o)), (1, aI ((a : Int))), (2, aI ((k : Int)))]) rfl rfl ?_
  refine g_iconst rfl ?_
  refine g_istore (l1 := [(4, aI 0), (3, aI 1), (0, aO (some o)), (1, aI ((a : Int))), (2, aI ((k : Int)))]) rfl rfl ?_
  exact l5 _ 0 V 1 (by omega) (by exact fun _ _ _ => rfl) (by exact Or.inl ⟨rfl, p0, rfl, hb0, h50, h60⟩) (Nat.lt_succ_self _)
def FWv (V V1 : Nat → Nat → Int) (o : Nat) : Prop := ∀ b j, ¬(b = o ∧ (j = 5 ∨ j = 6 ∨ j = 31)) → V1 b j = V b j
theorem fw_mn {V V1 : Nat → Nat → Int} {o : Nat} {S : aS} (f : FWv V V1 o) (x : MN V o S) : MN V1 o S := by
  refine ⟨by rw [f _ _ (by omega)]; exact x.1, fun i hi => ?_⟩
  rw [f _ _ (by omega), f _ _ (by omega)]
  exact x.2 i hi
theorem fw_tr {V V1 V2 : Nat → Nat → Int} {o : Nat} (f : FWv V V1 o) (g : FE V1 V2 o) : FWv V V2 o := fun b j h => by rw [g b j (by omega), f b j h]
theorem fw_fm {V V1 : Nat → Nat → Int} {o : Nat} (f : FWv V V1 o) : FM V V1 o := fun a i h1 _ _ => f a i (by omega)
set_option maxRecDepth 100000 in
theorem m_value1 {w : aW} {d : Nat} (hd : 24 ≤ d) {h : aH} {o : Nat} (ms : MS h o) (V : Nat → Nat → Int) {S : aS} (mp : MP V o S) (ok : OkP S) (mn : MN V o S) (okn : OkN S) (a : Nat) (ha : a < sPn S) (x : Nat) (hx : x < sN S) (y : Nat) (hy : y < sN S) (z : Nat) (hz : z < sN S) : WP w d 363 [aO (some o), aI ((a : Int)), aI ((x : Int)), aI ((y : Int)), aI ((z : Int))] (hw h V) (RI (fun r h1 => ∃ V1, h1 = hw h V1 ∧ MN V1 o (valueP S a x y z).2 ∧ FM V V1 o ∧ r = (valueP S a x y z).1)) := by
  obtain ⟨d, rfl⟩ : ∃ d1, d = d1 + 1 := ⟨d - 1, by omega⟩
  refine WP.enter (cd := cd_X12_value_) rfl ?_
  have hok := ok.1
  have hokn := okn.1
  have hls : largs 0 [aO (some o), aI ((a : Int)), aI ((x : Int)), aI ((y : Int)), aI ((z : Int))] = [(0, aO (some o)), (1, aI ((a : Int))), (2, aI ((x : Int))), (3, aI ((y : Int))), (4, aI ((z : Int)))] := rfl
  rw [hls]
  clear hls
  have l49 : ∀ (fuel : Nat) (t : Nat) (V1 : Nat → Nat → Int) (p : Int × Int), (t ≤ 1331) → (FWv V V1 o) → (valY (big (sPc S a)) (sNu S x) (sNu S y) (sNu S z) t = some p) → (NuOk p) → 1331 - t < fuel → Wk w d cd_X12_value_ 49 [(9, aI ((t : Int))), (7, aJ p.2), (5, aJ p.1), (0, aO (some o)), (1, aI ((a : Int))), (2, aI ((x : Int))), (3, aI ((y : Int))), (4, aI ((z : Int)))] [] (hw h V1) (RI (fun r h1 => ∃ V1, h1 = hw h V1 ∧ MN V1 o (valueP S a x y z).2 ∧ FM V V1 o ∧ r = (valueP S a x y z).1)) := by
    intro fuel
    induction fuel with
    | zero => intros; omega
    | succ fuel ih49 =>
      intro t V1 p ht hf hv nu hfuel
      have bp := nu.bq
      have bp2 := bp
      unfold BQ at bp2
      refine g_iload rfl rfl ?_
      refine g_sipush rfl ?_
      refine g_icmp_ge rfl (fun cq54 => ?_) (fun cq54 => ?_)
      · skip
        refine g_aload_n rfl rfl ?_
        refine g_lload rfl rfl ?_
        refine g_putJ rfl ms.1 ?_
        refine g_hp (h2 := hw h (vset V1 o 5 p.1)) rfl ?_
        refine g_aload_n rfl rfl ?_
        refine g_lload rfl rfl ?_
        refine g_putJ rfl ms.1 ?_
        obtain ⟨V6, eV6⟩ : ∃ W, W = vset (vset V1 o 5 p.1) o 6 p.2 := ⟨_, rfl⟩
        refine g_hp (h2 := hw h V6) (by rw [eV6]; rfl) ?_
        have hf6 : FWv V V6 o := by rw [eV6]; exact fw_tr hf (FE.set _ _ _ _)
        have mn6 := fw_mn hf6 mn
        have h56 : V6 o 5 = p.1 := by rw [eV6, vset_ne _ _ _ _ (by omega), vset_eq]
        have h66 : V6 o 6 = p.2 := by rw [eV6, vset_eq]
        refine g_aload_n rfl rfl ?_
        refine g_iconst rfl ?_
        refine g_callVI [aI 1] [] rfl rfl rfl rfl (Nat.le_of_ble_eq_true rfl) ms.1 (m_keepN (by omega) ms V6 mn6 okn p h56 h66 1 (by rw [if_pos nu.small])) ?_
        rintro _ _ ⟨V7, rfl, mn7, f7, rfl⟩
        refine g_iret rfl ?_
        have hv2 : valX (sPc S a) (sNu S x) (sNu S y) (sNu S z) 286 = some p := by rw [← val_same (F := big (sPc S a)) (fun x1 h1 => rfl), ← hv, show t = 1331 by omega]
        rw [valueP_1 hv2]
        exact ⟨V7, rfl, mn7, (fw_fm hf6).trans f7, rfl⟩
      · skip
        refine g_aload_n rfl rfl ?_
        refine g_getR rfl ms.1 (mr_coefs ms) ?_
        refine g_sipush rfl ?_
        refine g_iload_n rfl rfl ?_
        refine g_imul rfl (by omega) (by omega) ?_
        refine g_iload rfl rfl ?_
        refine g_iadd rfl (by omega) (by omega) ?_
        refine g_lald (i := 1331 * a + t) rfl (mt_coefs ms) (by omega) (by omega) ?_
        refine g_top (v2 := aJ ((big (sPc S a) t))) (congrArg aJ (by show V1 (o + 12) (1331 * a + t) = _; rw [hf _ _ (by omega)]; exact mp.2 a ha t (by omega))) ?_
        refine g_lstore (l1 := [(10, aJ ((big (sPc S a) t))), (9, aI ((t : Int))), (7, aJ p.2), (5, aJ p.1), (0, aO (some o)), (1, aI ((a : Int))), (2, aI ((x : Int))), (3, aI ((y : Int))), (4, aI ((z : Int)))]) rfl rfl ?_
        refine g_lload rfl rfl ?_
        refine g_lconst0 rfl ?_
        refine g_lc_eq rfl rfl (fun cq75 => ?_) (fun cq75 => ?_)
        · skip
          first
            | (have hdone := hvN)
            | (have hv0 : valY (big (sPc S a)) (sNu S x) (sNu S y) (sNu S z) (t + 1) = some p := by
                 show valT (sNu S x) (sNu S y) (sNu S z) (big (sPc S a) t) _ _ _ (valY (big (sPc S a)) (sNu S x) (sNu S y) (sNu S z) t) = _
                 rw [hv]
                 exact if_pos cq75)
          refine g_iinc (l1 := [(9, aI ((t : Int) + 1)), (10, aJ ((big (sPc S a) t))), (7, aJ p.2), (5, aJ p.1), (0, aO (some o)), (1, aI ((a : Int))), (2, aI ((x : Int))), (3, aI ((y : Int))), (4, aI ((z : Int)))]) rfl rfl (by omega) (by omega) rfl ?_
          refine g_goto rfl ?_
          refine g_ls [0, 2, 3, 4, 5, 6, 7, 8] rfl rfl ?_
          exact ih49 (t + 1) _ _ (by omega) (by first | exact hf | exact hfN) (by first | exact hv0 | exact hvN) (by first | exact nu | exact nuN) (by first | (clear q3 q4 q5; omega) | omega)
        · skip
          have hcf := big_sm (ok.2 a ha) (t := t) (by omega)
          refine g_aload_n rfl rfl ?_
          refine g_lload rfl rfl ?_
          refine g_putJ rfl ms.1 ?_
          refine g_hp (h2 := hw h (vset V1 o 5 ((big (sPc S a) t)))) rfl ?_
          refine g_aload_n rfl rfl ?_
          refine g_lconst1 rfl ?_
          refine g_putJ rfl ms.1 ?_
          obtain ⟨V2, eV2⟩ : ∃ W, W = vset (vset V1 o 5 ((big (sPc S a) t))) o 6 1 := ⟨_, rfl⟩
          refine g_hp (h2 := hw h V2) (by rw [eV2]; rfl) ?_
          have hf2 : FWv V V2 o := by rw [eV2]; exact fw_tr hf (FE.set _ _ _ _)
          have h52 : V2 o 5 = ((big (sPc S a) t), (1 : Int)).1 := by rw [eV2, vset_ne _ _ _ _ (by omega), vset_eq]
          have h62 : V2 o 6 = ((big (sPc S a) t), (1 : Int)).2 := by rw [eV2, vset_eq]
          refine g_aload_n rfl rfl ?_
          refine g_iload_n rfl rfl ?_
          refine g_iload rfl rfl ?_
          refine g_bipush rfl ?_
          refine g_idivN (m := 121) (n := t) rfl (by omega) (by omega) ?_
          refine g_callVI [aI ((x : Int)), aI (((t / 121 : Nat) : Int))] [] rfl rfl rfl rfl (Nat.le_of_ble_eq_true rfl) ms.1 (m_pgrow (by omega) ms V2 (fw_mn hf2 mn) okn x hx (t / 121) (by omega) ((big (sPc S a) t), 1) (bq_1 hcf) h52 h62) ?_
          rintro r3 _ ⟨V3, rfl, g3, q3⟩
          have hf3 := fw_tr hf2 g3
          have hmn : r3 = 0 → valM (sNu S x) (sNu S y) (sNu S z) (big (sPc S a) t) (t / 121) (t / 11 % 11) (t % 11) = none := fun e => by
            rcases q3 with ⟨w1, w2⟩ | ⟨p1, w1, w2, w3, w4, w5⟩
            · unfold valM
              rw [w1, mulO_u, mulO_u]
            · omega
          refine g_if_eq rfl (fun cq100 => ?_) (fun cq100 => ?_)
          · skip
            refine g_iconst rfl ?_
            refine g_istore (l1 := [(12, aI 0), (10, aJ ((big (sPc S a) t))), (9, aI ((t : Int))), (7, aJ p.2), (5, aJ p.1), (0, aO (some o)), (1, aI ((a : Int))), (2, aI ((x : Int))), (3, aI ((y : Int))), (4, aI ((z : Int)))]) rfl rfl ?_
            refine g_iload rfl rfl ?_
            refine g_if_eq_t rfl (by omega) ?_
            refine g_bipush rfl ?_
            refine g_iret rfl ?_
            first
              | have hmn := hmn (by omega)
              | skip
            have hn : valY (big (sPc S a)) (sNu S x) (sNu S y) (sNu S z) 1331 = none := by
              have h0 : valY (big (sPc S a)) (sNu S x) (sNu S y) (sNu S z) (t + 1) = none := by
                show valT (sNu S x) (sNu S y) (sNu S z) (big (sPc S a) t) _ _ _ (valY (big (sPc S a)) (sNu S x) (sNu S y) (sNu S z) t) = none
                rw [hv]
                unfold valT
                rw [if_neg cq75]
                show (valM (sNu S x) (sNu S y) (sNu S z) (big (sPc S a) t) (t / 121) (t / 11 % 11) (t % 11)).bind _ = none
                first
                  | (rw [hmn]; rfl)
                  | (rw [hmy]; exact stO_0 cq171)
              have := valY_none h0 (1331 - (t + 1))
              rw [show t + 1 + (1331 - (t + 1)) = 1331 by omega] at this
              exact this
            rw [val_same (fun x1 h1 => rfl)] at hn
            rw [valueP_0 hn]
            exact ⟨_, rfl, by first | exact fw_mn hf3 mn | exact fw_mn hf4 mn | exact fw_mn hf5 mn | exact fw_mn (fw_tr hf5 (FE.set _ _ _ _)) mn, by first | exact fw_fm hf3 | exact fw_fm hf4 | exact fw_fm hf5 | exact fw_fm (fw_tr hf5 (FE.set _ _ _ _)), rfl⟩
          · skip
            obtain ⟨p1, e1, b1, h31, h41, -⟩ := q3.resolve_left (fun w => by have := w.2; omega)
            clear hmn
            refine g_aload_n rfl rfl ?_
            refine g_iload_n rfl rfl ?_
            refine g_iload rfl rfl ?_
            refine g_bipush rfl ?_
            refine g_idivN (m := 11) (n := t) rfl (by omega) (by omega) ?_
            refine g_bipush rfl ?_
            refine g_iremN (m := 11) (n := (t / 11)) rfl (by omega) ?_
            refine g_callVI [aI ((y : Int)), aI ((((t / 11) % 11 : Nat) : Int))] [] rfl rfl rfl rfl (Nat.le_of_ble_eq_true rfl) ms.1 (m_pgrow (by omega) ms V3 (fw_mn hf3 mn) okn y hy ((t / 11) % 11) (by omega) p1 b1 h31 h41) ?_
            rintro r4 _ ⟨V4, rfl, g4, q4⟩
            have hf4 := fw_tr hf3 g4
            have hmn : r4 = 0 → valM (sNu S x) (sNu S y) (sNu S z) (big (sPc S a) t) (t / 121) (t / 11 % 11) (t % 11) = none := fun e => by
              rcases q4 with ⟨w1, w2⟩ | ⟨p2, w1, w2, w3, w4, w5⟩
              · unfold valM
                rw [e1, w1, mulO_u]
              · omega
            refine g_if_eq rfl (fun cq116 => ?_) (fun cq116 => ?_)
            · skip
              refine g_iconst rfl ?_
              refine g_istore (l1 := [(12, aI 0), (10, aJ ((big (sPc S a) t))), (9, aI ((t : Int))), (7, aJ p.2), (5, aJ p.1), (0, aO (some o)), (1, aI ((a : Int))), (2, aI ((x : Int))), (3, aI ((y : Int))), (4, aI ((z : Int)))]) rfl rfl ?_
              refine g_iload rfl rfl ?_
              refine g_if_eq_t rfl (by omega) ?_
              refine g_bipush rfl ?_
              refine g_iret rfl ?_
              first
                | have hmn := hmn (by omega)
                | skip
              have hn : valY (big (sPc S a)) (sNu S x) (sNu S y) (sNu S z) 1331 = none := by
                have h0 : valY (big (sPc S a)) (sNu S x) (sNu S y) (sNu S z) (t + 1) = none := by
                  show valT (sNu S x) (sNu S y) (sNu S z) (big (sPc S a) t) _ _ _ (valY (big (sPc S a)) (sNu S x) (sNu S y) (sNu S z) t) = none
                  rw [hv]
                  unfold valT
                  rw [if_neg cq75]
                  show (valM (sNu S x) (sNu S y) (sNu S z) (big (sPc S a) t) (t / 121) (t / 11 % 11) (t % 11)).bind _ = none
                  first
                    | (rw [hmn]; rfl)
                    | (rw [hmy]; exact stO_0 cq171)
                have := valY_none h0 (1331 - (t + 1))
                rw [show t + 1 + (1331 - (t + 1)) = 1331 by omega] at this
                exact this
              rw [val_same (fun x1 h1 => rfl)] at hn
              rw [valueP_0 hn]
              exact ⟨_, rfl, by first | exact fw_mn hf3 mn | exact fw_mn hf4 mn | exact fw_mn hf5 mn | exact fw_mn (fw_tr hf5 (FE.set _ _ _ _)) mn, by first | exact fw_fm hf3 | exact fw_fm hf4 | exact fw_fm hf5 | exact fw_fm (fw_tr hf5 (FE.set _ _ _ _)), rfl⟩
            · skip
              obtain ⟨p2, e2, b2, h32, h42, -⟩ := q4.resolve_left (fun w => by have := w.2; omega)
              clear hmn
              refine g_aload_n rfl rfl ?_
              refine g_iload rfl rfl ?_
              refine g_iload rfl rfl ?_
              refine g_bipush rfl ?_
              refine g_iremN (m := 11) (n := t) rfl (by omega) ?_
              refine g_callVI [aI ((z : Int)), aI (((t % 11 : Nat) : Int))] [] rfl rfl rfl rfl (Nat.le_of_ble_eq_true rfl) ms.1 (m_pgrow (by omega) ms V4 (fw_mn hf4 mn) okn z hz (t % 11) (by omega) p2 b2 h32 h42) ?_
              rintro r5 _ ⟨V5, rfl, g5, q5⟩
              have hf5 := fw_tr hf4 g5
              have hmn : r5 = 0 → valM (sNu S x) (sNu S y) (sNu S z) (big (sPc S a) t) (t / 121) (t / 11 % 11) (t % 11) = none := fun e => by
                rcases q5 with ⟨w1, w2⟩ | ⟨p3, w1, w2, w3, w4, w5⟩
                · unfold valM
                  rw [e1, e2, w1]
                · omega
              refine g_if_eq rfl (fun cq130 => ?_) (fun cq130 => ?_)
              · skip
                refine g_iconst rfl ?_
                refine g_istore (l1 := [(12, aI 0), (10, aJ ((big (sPc S a) t))), (9, aI ((t : Int))), (7, aJ p.2), (5, aJ p.1), (0, aO (some o)), (1, aI ((a : Int))), (2, aI ((x : Int))), (3, aI ((y : Int))), (4, aI ((z : Int)))]) rfl rfl ?_
                refine g_iload rfl rfl ?_
                refine g_if_eq_t rfl (by omega) ?_
                refine g_bipush rfl ?_
                refine g_iret rfl ?_
                first
                  | have hmn := hmn (by omega)
                  | skip
                have hn : valY (big (sPc S a)) (sNu S x) (sNu S y) (sNu S z) 1331 = none := by
                  have h0 : valY (big (sPc S a)) (sNu S x) (sNu S y) (sNu S z) (t + 1) = none := by
                    show valT (sNu S x) (sNu S y) (sNu S z) (big (sPc S a) t) _ _ _ (valY (big (sPc S a)) (sNu S x) (sNu S y) (sNu S z) t) = none
                    rw [hv]
                    unfold valT
                    rw [if_neg cq75]
                    show (valM (sNu S x) (sNu S y) (sNu S z) (big (sPc S a) t) (t / 121) (t / 11 % 11) (t % 11)).bind _ = none
                    first
                      | (rw [hmn]; rfl)
                      | (rw [hmy]; exact stO_0 cq171)
                  have := valY_none h0 (1331 - (t + 1))
                  rw [show t + 1 + (1331 - (t + 1)) = 1331 by omega] at this
                  exact this
                rw [val_same (fun x1 h1 => rfl)] at hn
                rw [valueP_0 hn]
                exact ⟨_, rfl, by first | exact fw_mn hf3 mn | exact fw_mn hf4 mn | exact fw_mn hf5 mn | exact fw_mn (fw_tr hf5 (FE.set _ _ _ _)) mn, by first | exact fw_fm hf3 | exact fw_fm hf4 | exact fw_fm hf5 | exact fw_fm (fw_tr hf5 (FE.set _ _ _ _)), rfl⟩
              · skip
                obtain ⟨p3, e3, b3, h35, h45, -⟩ := q5.resolve_left (fun w => by have := w.2; omega)
                clear hmn
                have hmy : valM (sNu S x) (sNu S y) (sNu S z) (big (sPc S a) t) (t / 121) (t / 11 % 11) (t % 11) = some p3 := by
                  unfold valM
                  rw [e1, e2, e3]
                have hadd := bq_add bp b3
                refine g_iconst rfl ?_
                refine g_goto rfl ?_
                refine g_istore (l1 := [(12, aI 1), (10, aJ ((big (sPc S a) t))), (9, aI ((t : Int))), (7, aJ p.2), (5, aJ p.1), (0, aO (some o)), (1, aI ((a : Int))), (2, aI ((x : Int))), (3, aI ((y : Int))), (4, aI ((z : Int)))]) rfl rfl ?_
                refine g_iload rfl rfl ?_
                refine g_if_eq_f rfl (by omega) ?_
                refine g_aload_n rfl rfl ?_
                refine g_lload rfl rfl ?_
                refine g_aload_n rfl rfl ?_
                refine g_getJ rfl ms.1 ?_
                refine g_top (v2 := aJ p3.2) (congrArg aJ (by exact h45)) ?_
                refine g_lmul rfl (by omega) (by omega) ?_
                refine g_aload_n rfl rfl ?_
                refine g_getJ rfl ms.1 ?_
                refine g_top (v2 := aJ p3.1) (congrArg aJ (by exact h35)) ?_
                refine g_lload rfl rfl ?_
                refine g_lmul rfl (by omega) (by omega) ?_
                refine g_ladd rfl (by omega) (by omega) ?_
                refine g_lload rfl rfl ?_
                refine g_aload_n rfl rfl ?_
                refine g_getJ rfl ms.1 ?_
                refine g_top (v2 := aJ p3.2) (congrArg aJ (by exact h45)) ?_
                refine g_lmul rfl (by omega) (by omega) ?_
                refine g_callVI [aJ ((p.1 * p3.2) + (p3.1 * p.2)), aJ (p.2 * p3.2)] [] rfl rfl rfl rfl (Nat.le_of_ble_eq_true rfl) ms.1 (m_reduce (by omega) ms V5 (p.1 * p3.2 + p3.1 * p.2) (p.2 * p3.2) (by omega) (by omega) (by omega)) ?_
                rintro r9 h9 ⟨e9, er9⟩
                rw [e9, er9]
                clear e9 er9
                refine g_b_ne rfl (fun cq171 => ?_) (fun cq171 => ?_)
                · skip
                  have hfN := fw_tr hf5 (FE.set V5 o (lowF (p.1 * p3.2 + p3.1 * p.2) (p.2 * p3.2)).1 (lowF (p.1 * p3.2 + p3.1 * p.2) (p.2 * p3.2)).2)
                  have nuN : NuOk (lowF (p.1 * p3.2 + p3.1 * p.2) (p.2 * p3.2)) := lowF_ok (by omega) cq171
                  have hvN : valY (big (sPc S a)) (sNu S x) (sNu S y) (sNu S z) (t + 1) = some (lowF (p.1 * p3.2 + p3.1 * p.2) (p.2 * p3.2)) := by
                    show valT (sNu S x) (sNu S y) (sNu S z) (big (sPc S a) t) _ _ _ (valY (big (sPc S a)) (sNu S x) (sNu S y) (sNu S z) t) = _
                    rw [hv]
                    unfold valT
                    rw [if_neg cq75]
                    show (valM (sNu S x) (sNu S y) (sNu S z) (big (sPc S a) t) (t / 121) (t / 11 % 11) (t % 11)).bind _ = _
                    rw [hmy]
                    exact stO_1 cq171
                  refine g_aload_n rfl rfl ?_
                  refine g_getJ rfl ms.1 ?_
                  refine g_top (v2 := aJ ((lowF (p.1 * p3.2 + p3.1 * p.2) (p.2 * p3.2)).1)) (congrArg aJ (by show (vset (vset V5 o 5 (lowF (p.1 * p3.2 + p3.1 * p.2) (p.2 * p3.2)).1) o 6 (lowF (p.1 * p3.2 + p3.1 * p.2) (p.2 * p3.2)).2) o 5 = ((lowF (p.1 * p3.2 + p3.1 * p.2) (p.2 * p3.2)).1); rw [vset_ne _ _ _ _ (by omega), vset_eq])) ?_
                  refine g_lstore (l1 := [(5, aJ ((lowF (p.1 * p3.2 + p3.1 * p.2) (p.2 * p3.2)).1)), (12, aI 1), (10, aJ ((big (sPc S a) t))), (9, aI ((t : Int))), (7, aJ p.2), (0, aO (some o)), (1, aI ((a : Int))), (2, aI ((x : Int))), (3, aI ((y : Int))), (4, aI ((z : Int)))]) rfl rfl ?_
                  refine g_aload_n rfl rfl ?_
                  refine g_getJ rfl ms.1 ?_
                  refine g_top (v2 := aJ ((lowF (p.1 * p3.2 + p3.1 * p.2) (p.2 * p3.2)).2)) (congrArg aJ (by show (vset (vset V5 o 5 (lowF (p.1 * p3.2 + p3.1 * p.2) (p.2 * p3.2)).1) o 6 (lowF (p.1 * p3.2 + p3.1 * p.2) (p.2 * p3.2)).2) o 6 = ((lowF (p.1 * p3.2 + p3.1 * p.2) (p.2 * p3.2)).2); rw [vset_eq])) ?_
                  refine g_lstore (l1 := [(7, aJ ((lowF (p.1 * p3.2 + p3.1 * p.2) (p.2 * p3.2)).2)), (5, aJ ((lowF (p.1 * p3.2 + p3.1 * p.2) (p.2 * p3.2)).1)), (12, aI 1), (10, aJ ((big (sPc S a) t))), (9, aI ((t : Int))), (0, aO (some o)), (1, aI ((a : Int))), (2, aI ((x : Int))), (3, aI ((y : Int))), (4, aI ((z : Int)))]) rfl rfl ?_
                  first
                    | (have hdone := hvN)
                    | (have hv0 : valY (big (sPc S a)) (sNu S x) (sNu S y) (sNu S z) (t + 1) = some p := by
                         show valT (sNu S x) (sNu S y) (sNu S z) (big (sPc S a) t) _ _ _ (valY (big (sPc S a)) (sNu S x) (sNu S y) (sNu S z) t) = _
                         rw [hv]
                         exact if_pos cq75)
                  refine g_iinc (l1 := [(9, aI ((t : Int) + 1)), (7, aJ ((lowF (p.1 * p3.2 + p3.1 * p.2) (p.2 * p3.2)).2)), (5, aJ ((lowF (p.1 * p3.2 + p3.1 * p.2) (p.2 * p3.2)).1)), (12, aI 1), (10, aJ ((big (sPc S a) t))), (0, aO (some o)), (1, aI ((a : Int))), (2, aI ((x : Int))), (3, aI ((y : Int))), (4, aI ((z : Int)))]) rfl rfl (by omega) (by omega) rfl ?_
                  refine g_goto rfl ?_
                  refine g_ls [0, 1, 2, 5, 6, 7, 8, 9] rfl rfl ?_
                  exact ih49 (t + 1) _ _ (by omega) (by first | exact hf | exact hfN) (by first | exact hv0 | exact hvN) (by first | exact nu | exact nuN) (by first | (clear q3 q4 q5; omega) | omega)
                · skip
                  refine g_bipush rfl ?_
                  refine g_iret rfl ?_
                  first
                    | have hmn := hmn (by omega)
                    | skip
                  have hn : valY (big (sPc S a)) (sNu S x) (sNu S y) (sNu S z) 1331 = none := by
                    have h0 : valY (big (sPc S a)) (sNu S x) (sNu S y) (sNu S z) (t + 1) = none := by
                      show valT (sNu S x) (sNu S y) (sNu S z) (big (sPc S a) t) _ _ _ (valY (big (sPc S a)) (sNu S x) (sNu S y) (sNu S z) t) = none
                      rw [hv]
                      unfold valT
                      rw [if_neg cq75]
                      show (valM (sNu S x) (sNu S y) (sNu S z) (big (sPc S a) t) (t / 121) (t / 11 % 11) (t % 11)).bind _ = none
                      first
                        | (rw [hmn]; rfl)
                        | (rw [hmy]; exact stO_0 cq171)
                    have := valY_none h0 (1331 - (t + 1))
                    rw [show t + 1 + (1331 - (t + 1)) = 1331 by omega] at this
                    exact this
                  rw [val_same (fun x1 h1 => rfl)] at hn
                  rw [valueP_0 hn]
                  exact ⟨_, rfl, by first | exact fw_mn hf3 mn | exact fw_mn hf4 mn | exact fw_mn hf5 mn | exact fw_mn (fw_tr hf5 (FE.set _ _ _ _)) mn, by first | exact fw_fm hf3 | exact fw_fm hf4 | exact fw_fm hf5 | exact fw_fm (fw_tr hf5 (FE.set _ _ _ _)), rfl⟩
  refine g_aload_n rfl rfl ?_
  refine g_iconst rfl ?_
  refine g_putI rfl ms.1 ?_
  refine g_hp (h2 := hw h (vset V o 31 0)) rfl ?_
  refine g_aload_n rfl rfl ?_
  refine g_iload_n rfl rfl ?_
  refine g_callVI [aI ((a : Int))] [] rfl rfl rfl rfl (Nat.le_of_ble_eq_true rfl) ms.1 (m_pIsP (by omega) ms (vset V o 31 0) (mp.own 0) ok (a : Int)) ?_
  rintro r hx_ ⟨ehx, rfl⟩
  rw [ehx, if_pos (by omega)]
  clear ehx hx_
  refine g_if_eq_f rfl (by omega) ?_
  refine g_aload_n rfl rfl ?_
  refine g_iload_n rfl rfl ?_
  refine g_callVI [aI ((x : Int))] [] rfl rfl rfl rfl (Nat.le_of_ble_eq_true rfl) ms.1 (m_isNumber (by omega) ms (vset V o 31 0) (sN S) (mn.r31 0).1 (by omega) ((x : Int))) ?_
  rintro r hx_ ⟨ehx, rfl⟩
  rw [ehx, if_pos (by omega)]
  clear ehx hx_
  refine g_if_eq_f rfl (by omega) ?_
  refine g_aload_n rfl rfl ?_
  refine g_iload_n rfl rfl ?_
  refine g_callVI [aI ((y : Int))] [] rfl rfl rfl rfl (Nat.le_of_ble_eq_true rfl) ms.1 (m_isNumber (by omega) ms (vset V o 31 0) (sN S) (mn.r31 0).1 (by omega) ((y : Int))) ?_
  rintro r hx_ ⟨ehx, rfl⟩
  rw [ehx, if_pos (by omega)]
  clear ehx hx_
  refine g_if_eq_f rfl (by omega) ?_
  refine g_aload_n rfl rfl ?_
  refine g_iload rfl rfl ?_
  refine g_callVI [aI ((z : Int))] [] rfl rfl rfl rfl (Nat.le_of_ble_eq_true rfl) ms.1 (m_isNumber (by omega) ms (vset V o 31 0) (sN S) (mn.r31 0).1 (by omega) ((z : Int))) ?_
  rintro r hx_ ⟨ehx, rfl⟩
  rw [ehx, if_pos (by omega)]
  clear ehx hx_
  refine g_if_ne_t rfl (by omega) ?_
  refine g_lconst0 rfl ?_
  refine g_lstore (l1 := [(5, aJ 0), (0, aO (some o)), (1, aI ((a : Int))), (2, aI ((x : Int))), (3, aI ((y : Int))), (4, aI ((z : Int)))]) rfl rfl ?_
  refine g_lconst1 rfl ?_
  refine g_lstore (l1 := [(7, aJ 1), (5, aJ 0), (0, aO (some o)), (1, aI ((a : Int))), (2, aI ((x : Int))), (3, aI ((y : Int))), (4, aI ((z : Int)))]) rfl rfl ?_
  refine g_iconst rfl ?_
  refine g_istore (l1 := [(9, aI 0), (7, aJ 1), (5, aJ 0), (0, aO (some o)), (1, aI ((a : Int))), (2, aI ((x : Int))), (3, aI ((y : Int))), (4, aI ((z : Int)))]) rfl rfl ?_
  exact l49 _ 0 _ (0, 1) (by omega) (by exact fun b j w => vset_ne _ _ _ _ (by omega)) (by rfl) (by exact nu01) (Nat.lt_succ_self _)
set_option maxRecDepth 100000 in
theorem m_value0 {w : aW} {d : Nat} (hd : 24 ≤ d) {h : aH} {o : Nat} (ms : MS h o) (V : Nat → Nat → Int) {S : aS} (mp : MP V o S) (ok : OkP S) (mn : MN V o S) (okn : OkN S) (a x y z : Int) (hn : ¬((0 ≤ a ∧ a < sPn S) ∧ (0 ≤ x ∧ x < sN S) ∧ (0 ≤ y ∧ y < sN S) ∧ 0 ≤ z ∧ z < sN S)) : WP w d 363 [aO (some o), aI a, aI x, aI y, aI z] (hw h V) (RI (fun r h1 => h1 = hw h (vset V o 31 0) ∧ r = -1)) := by
  obtain ⟨d, rfl⟩ : ∃ d1, d = d1 + 1 := ⟨d - 1, by omega⟩
  refine WP.enter (cd := cd_X12_value_) rfl ?_
  have hok := ok.1
  have hokn := okn.1
  have hls : largs 0 [aO (some o), aI a, aI x, aI y, aI z] = [(0, aO (some o)), (1, aI a), (2, aI x), (3, aI y), (4, aI z)] := rfl
  rw [hls]
  clear hls
  refine g_aload_n rfl rfl ?_
  refine g_iconst rfl ?_
  refine g_putI rfl ms.1 ?_
  refine g_hp (h2 := hw h (vset V o 31 0)) rfl ?_
  refine g_aload_n rfl rfl ?_
  refine g_iload_n rfl rfl ?_
  refine g_callVI [aI a] [] rfl rfl rfl rfl (Nat.le_of_ble_eq_true rfl) ms.1 (m_pIsP (by omega) ms (vset V o 31 0) (mp.own 0) ok a) ?_
  rintro r hx_ ⟨ehx, rfl⟩
  rw [ehx]
  clear ehx hx_
  refine g_b_eq rfl (fun cq10 => ?_) (fun cq10 => ?_)
  · skip
    refine g_iconst rfl ?_
    refine g_iret rfl ?_
    exact ⟨rfl, rfl⟩
  · skip
    refine g_aload_n rfl rfl ?_
    refine g_iload_n rfl rfl ?_
    refine g_callVI [aI x] [] rfl rfl rfl rfl (Nat.le_of_ble_eq_true rfl) ms.1 (m_isNumber (by omega) ms (vset V o 31 0) (sN S) (mn.r31 0).1 (by omega) x) ?_
    rintro r hx_ ⟨ehx, rfl⟩
    rw [ehx]
    clear ehx hx_
    refine g_b_eq rfl (fun cq18 => ?_) (fun cq18 => ?_)
    · skip
      refine g_iconst rfl ?_
      refine g_iret rfl ?_
      exact ⟨rfl, rfl⟩
    · skip
      refine g_aload_n rfl rfl ?_
      refine g_iload_n rfl rfl ?_
      refine g_callVI [aI y] [] rfl rfl rfl rfl (Nat.le_of_ble_eq_true rfl) ms.1 (m_isNumber (by omega) ms (vset V o 31 0) (sN S) (mn.r31 0).1 (by omega) y) ?_
      rintro r hx_ ⟨ehx, rfl⟩
      rw [ehx]
      clear ehx hx_
      refine g_b_eq rfl (fun cq26 => ?_) (fun cq26 => ?_)
      · skip
        refine g_iconst rfl ?_
        refine g_iret rfl ?_
        exact ⟨rfl, rfl⟩
      · skip
        refine g_aload_n rfl rfl ?_
        refine g_iload rfl rfl ?_
        refine g_callVI [aI z] [] rfl rfl rfl rfl (Nat.le_of_ble_eq_true rfl) ms.1 (m_isNumber (by omega) ms (vset V o 31 0) (sN S) (mn.r31 0).1 (by omega) z) ?_
        rintro r hx_ ⟨ehx, rfl⟩
        rw [ehx]
        clear ehx hx_
        refine g_if_ne_f rfl (by exact if_neg (fun w => hn ⟨cq10, cq18, cq26, w⟩)) ?_
        refine g_iconst rfl ?_
        refine g_iret rfl ?_
        exact ⟨rfl, rfl⟩
theorem m_value {w : aW} {d : Nat} (hd : 24 ≤ d) {h : aH} {o : Nat} (ms : MS h o) (V : Nat → Nat → Int) {S : aS} (mp : MP V o S) (ok : OkP S) (mn : MN V o S) (okn : OkN S) (a x y z : Int) : WP w d 363 [aO (some o), aI a, aI x, aI y, aI z] (hw h V) (RI (fun r h1 => ∃ V1, h1 = hw h V1 ∧ MN V1 o (valueF S a x y z).2 ∧ FM V V1 o ∧ r = (valueF S a x y z).1)) := by
  by_cases q : (0 ≤ a ∧ a < sPn S) ∧ (0 ≤ x ∧ x < sN S) ∧ (0 ≤ y ∧ y < sN S) ∧ 0 ≤ z ∧ z < sN S
  · obtain ⟨a1, rfl⟩ : ∃ k : Nat, a = (k : Int) := ⟨a.toNat, by omega⟩
    obtain ⟨x1, rfl⟩ : ∃ k : Nat, x = (k : Int) := ⟨x.toNat, by omega⟩
    obtain ⟨y1, rfl⟩ : ∃ k : Nat, y = (k : Int) := ⟨y.toNat, by omega⟩
    obtain ⟨z1, rfl⟩ : ∃ k : Nat, z = (k : Int) := ⟨z.toNat, by omega⟩
    have eF : valueF S a1 x1 y1 z1 = valueP S a1 x1 y1 z1 := if_neg (fun w => w q)
    rw [eF]
    exact m_value1 hd ms V mp ok mn okn a1 (by omega) x1 (by omega) y1 (by omega) z1 (by omega)
  · have eF : valueF S a x y z = (-1, S) := if_pos q
    rw [eF]
    refine (m_value0 hd ms V mp ok mn okn a x y z q).imp ?_
    rintro _ _ ⟨r, rfl, rfl, rfl⟩
    exact ⟨_, rfl, _, rfl, mn.r31 0, FM.own V o (Or.inr (Or.inr rfl)) 0, rfl⟩
