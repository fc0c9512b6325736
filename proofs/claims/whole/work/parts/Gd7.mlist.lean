/-! the reference's figures: lists, first ones, holes: printed by wip/whole/ig_.py -/
def FgM (V : Nat → Nat → Int) (o : Nat) (F : List Nat) : Prop := V o 27 = (F.length : Int) ∧ ∀ i < F.length, V (o + 19) i = (F.getD i 0 : Nat)
theorem FgM.fr {V V1 : Nat → Nat → Int} {o : Nat} {F : List Nat} (g : FgM V o F) (h0 : V1 o 27 = V o 27) (h : V1 (o + 19) = V (o + 19)) : FgM V1 o F := by
  unfold FgM
  rw [h0, h]
  exact g
/-- what a list of figures leaves -/
def FF (V V1 : Nat → Nat → Int) (o : Nat) : Prop := ∀ a i, ¬(a = o ∧ i = 27) → a ≠ o + 19 → a ≠ o + 20 → a ≠ o + 21 → a ≠ o + 22 → V1 a i = V a i
def GD (F : List Nat) (g x : Nat) : Prop := ∃ g2, g2 < g ∧ g2 < F.length ∧ x ∈ gro (F.getD g2 0)
theorem GD_s {F : List Nat} {g x : Nat} (hg : g < F.length) : GD F (g + 1) x ↔ GD F g x ∨ x ∈ gro (F.getD g 0) := by
  constructor
  · rintro ⟨g2, h1, h2, h3⟩
    by_cases e : g2 = g
    · rw [e] at h3; exact Or.inr h3
    · exact Or.inl ⟨g2, by omega, h2, h3⟩
  · rintro (⟨g2, h1, h2, h3⟩ | h)
    · exact ⟨g2, by omega, h2, h3⟩
    · exact ⟨g, by omega, hg, h⟩
theorem GD_all {F : List Nat} {x : Nat} : GD F F.length x ↔ ∃ f ∈ F, x ∈ gro f := by
  constructor
  · rintro ⟨g2, h1, h2, h3⟩
    exact ⟨_, getD_inN h2, h3⟩
  · rintro ⟨f, hf, hx⟩
    obtain ⟨i, hi, e⟩ := in_getD hf
    exact ⟨i, hi, hi, by rw [e]; exact hx⟩
theorem GD_in {F : List Nat} {g x : Nat} (h : GD F g x) : ∃ f ∈ F, x ∈ gro f := by
  obtain ⟨g2, h1, h2, h3⟩ := h
  exact ⟨_, getD_inN h2, h3⟩
theorem figN_mem1 {n f : Nat} (h1 : 1 ≤ n) (h8 : n ≤ 8) (hf : f ∈ figN n) : Bx f ∧ (cel f).length = n := by
  rcases Nat.lt_or_ge n 8 with q | q
  · have := (figN_step h1 (by omega)).1 f hf
    exact ⟨bx7_Bx this.1, this.2⟩
  · have e : n = 8 := by omega
    subst e
    rw [figN_v.2.2.2.2.2.2.2] at hf
    obtain ⟨⟨M, hM, hq⟩, hl⟩ := ck8_eq _ ck8_8 f hf
    exact ⟨⟨M, List.mem_cons_of_mem _ hM, hq⟩, hl⟩
theorem fig_1 : figN 1 = [1] := figN_v.1.trans rfl
set_option maxRecDepth 100000 in
theorem m_figsOf {w : aW} {d : Nat} (hd : 5 ≤ d) {h : aH} {o : Nat} (ms : MS h o) (V : Nat → Nat → Int) (n : Nat) (hn1 : 1 ≤ n) (hn8 : n ≤ 8) : WP w d 376 [aO (some o), aI ((n : Int))] (hw h V) (RN (fun h1 => ∃ V1, h1 = hw h V1 ∧ FF V V1 o ∧ FgM V1 o (figN n))) := by
  obtain ⟨d, rfl⟩ : ∃ d1, d = d1 + 1 := ⟨d - 1, by omega⟩
  refine WP.enter (cd := cd_X12_figuresOf) rfl ?_
  have hls : largs 0 [aO (some o), aI ((n : Int))] = [(0, aO (some o)), (1, aI ((n : Int)))] := rfl
  rw [hls]
  clear hls
  have l14 : ∀ (fuel : Nat) (s : Nat) (V1 : Nat → Nat → Int), (1 ≤ s) → (s ≤ n) → (FF V V1 o) → (FgM V1 o (figN s)) → n - s < fuel → Wk w d cd_X12_figuresOf 14 [(2, aI ((s : Int))), (0, aO (some o)), (1, aI ((n : Int)))] [] (hw h V1) (RN (fun h1 => ∃ V1, h1 = hw h V1 ∧ FF V V1 o ∧ FgM V1 o (figN n))) := by
    intro fuel
    induction fuel with
    | zero => intros; omega
    | succ fuel ih14 =>
      intro s V1 hs1 hsn ff1 fm1 hfuel
      have l61 : ∀ (fuel : Nat) (k : Nat) (V3 : Nat → Nat → Int), (s < n) → (k ≤ (figN (s + 1)).length) → (FF V V3 o) → (V3 o 27 = ((figN (s + 1)).length : Int)) → (∀ i < (figN (s + 1)).length, V3 (o + 20) i = ((figN (s + 1)).getD i 0 : Nat)) → (∀ i < k, V3 (o + 19) i = ((figN (s + 1)).getD i 0 : Nat)) → (figN (s + 1)).length - k < fuel → Wk w d cd_X12_figuresOf 61 [(4, aI ((k : Int))), (3, aI ((((figN (s + 1)).length : Nat) : Int))), (2, aI ((s : Int))), (0, aO (some o)), (1, aI ((n : Int)))] [] (hw h V3) (RN (fun h1 => ∃ V1, h1 = hw h V1 ∧ FF V V1 o ∧ FgM V1 o (figN n))) := by
        intro fuel
        induction fuel with
        | zero => intros; omega
        | succ fuel ih61 =>
          intro k V3 hsn2 hk ff3 hm3 hg3 h43 hfuel
          have hl3 := (figN_srt (n := s + 1) (by omega) (by omega)).2.1
          refine g_iload rfl rfl ?_
          refine g_iload_n rfl rfl ?_
          refine g_icmp_ge rfl (fun cq64 => ?_) (fun cq64 => ?_)
          · skip
            refine g_iinc (l1 := [(2, aI ((s : Int) + 1)), (4, aI ((k : Int))), (3, aI ((((figN (s + 1)).length : Nat) : Int))), (0, aO (some o)), (1, aI ((n : Int)))]) rfl rfl (by omega) (by omega) rfl ?_
            refine g_goto rfl ?_
            refine g_ls [0, 3, 4] rfl rfl ?_
            exact ih14 (s + 1) _ (by omega) (by omega) (by exact ff3) (by exact ⟨hm3, fun i hi => h43 i (by omega)⟩) (by omega)
          · skip
            refine g_aload_n rfl rfl ?_
            refine g_getR rfl ms.1 (mr_figs ms) ?_
            refine g_iload rfl rfl ?_
            refine g_aload_n rfl rfl ?_
            refine g_getR rfl ms.1 (mr_grown ms) ?_
            refine g_iload rfl rfl ?_
            refine g_lald (i := k) rfl (mt_grown ms) (by omega) (by omega) ?_
            refine g_top (v2 := aJ ((((figN (s + 1)).getD k 0 : Nat) : Int))) (congrArg aJ (by exact hg3 k (by omega))) ?_
            refine g_last (i := k) rfl (mt_figs ms) (by omega) (by omega) ?_
            refine g_hp (h2 := hw h (vset V3 (o + 19) k ((((figN (s + 1)).getD k 0 : Nat) : Int)))) rfl ?_
            refine g_iinc (l1 := [(4, aI ((k : Int) + 1)), (3, aI ((((figN (s + 1)).length : Nat) : Int))), (2, aI ((s : Int))), (0, aO (some o)), (1, aI ((n : Int)))]) rfl rfl (by omega) (by omega) rfl ?_
            refine g_goto rfl ?_
            exact ih61 (k + 1) _ (by omega) (by omega) (by exact fun a i h1 h2 h3 h4 h5 => by rw [vset_ne _ _ _ _ (by omega)]; exact ff3 a i h1 h2 h3 h4 h5) (by rw [vset_ne _ _ _ _ (by omega)]; exact hm3) (by exact fun i hi => by rw [vset_ne _ _ _ _ (by omega)]; exact hg3 i hi) (by exact fun i hi => if e : i = k then (by subst e; rw [vset_eq]) else (by rw [vset_ne _ _ _ _ (by omega)]; exact h43 i (by omega))) (by omega)
      have l24 : ∀ (fuel : Nat) (g : Nat) (V2 : Nat → Nat → Int) (G : List Nat), (s < n) → (g ≤ (figN s).length) → (FF V V2 o) → (FgM V2 o (figN s)) → (GM V2 o G) → (∀ x, x ∈ G ↔ GD (figN s) g x) → (figN s).length - g < fuel → Wk w d cd_X12_figuresOf 24 [(4, aI ((g : Int))), (3, aI ((G.length : Int))), (2, aI ((s : Int))), (0, aO (some o)), (1, aI ((n : Int)))] [] (hw h V2) (RN (fun h1 => ∃ V1, h1 = hw h V1 ∧ FF V V1 o ∧ FgM V1 o (figN n))) := by
        intro fuel
        induction fuel with
        | zero => intros; omega
        | succ fuel ih24 =>
          intro g V2 G hsn2 hg ff2 fm2 gm2 hm2 hfuel
          have hst := figN_step (n := s) hs1 (by omega)
          have hsr := figN_srt (n := s + 1) (by omega) (by omega)
          have hsl := (figN_srt (n := s) hs1 (by omega)).2.1
          refine g_iload rfl rfl ?_
          refine g_aload_n rfl rfl ?_
          refine g_getI rfl ms.1 ?_
          refine g_top (v2 := aI ((((figN s).length : Nat) : Int))) (congrArg aI (by exact fm2.1)) ?_
          refine g_icmp_ge rfl (fun cq30 => ?_) (fun cq30 => ?_)
          · skip
            have eG : G = figN (s + 1) := srt_eq gm2.1 hsr.1 (fun x => by rw [hm2, hst.2, show g = (figN s).length by omega, GD_all])
            subst eG
            refine g_aload_n rfl rfl ?_
            refine g_iload_n rfl rfl ?_
            refine g_putI rfl ms.1 ?_
            refine g_hp (h2 := hw h (vset V2 o 27 ((((figN (s + 1)).length : Nat) : Int)))) rfl ?_
            refine g_iconst rfl ?_
            refine g_istore (l1 := [(4, aI 0), (3, aI ((((figN (s + 1)).length : Nat) : Int))), (2, aI ((s : Int))), (0, aO (some o)), (1, aI ((n : Int)))]) rfl rfl ?_
            exact l61 _ 0 _ (by omega) (by omega) (by exact fun a i h1 h2 h3 h4 h5 => by rw [vset_ne _ _ _ _ (by omega)]; exact ff2 a i h1 h2 h3 h4 h5) (by exact vset_eq _ _ _ _) (by exact fun i hi => by rw [vset_ne _ _ _ _ (by omega)]; exact gm2.2 i hi) (by exact fun i hi => by omega) (Nat.lt_succ_self _)
          · skip
            refine g_aload_n rfl rfl ?_
            refine g_aload_n rfl rfl ?_
            refine g_getR rfl ms.1 (mr_figs ms) ?_
            refine g_iload rfl rfl ?_
            refine g_lald (i := g) rfl (mt_figs ms) (by omega) (by omega) ?_
            refine g_top (v2 := aJ ((((figN s).getD g 0 : Nat) : Int))) (congrArg aJ (by exact fm2.2 g (by omega))) ?_
            refine g_iload_n rfl rfl ?_
            refine g_iload_n rfl rfl ?_
            refine g_callVI [aJ ((((figN s).getD g 0 : Nat) : Int)), aI ((s : Int)), aI ((G.length : Int))] [] rfl rfl rfl rfl (Nat.le_of_ble_eq_true rfl) ms.1 (m_growFig (by omega) ms V2 ((figN s).getD g 0) s (hst.1 _ (getD_inN (by omega))).1 (hst.1 _ (getD_inN (by omega))).2 (by omega) G gm2 (figN (s + 1)) hsr.2.1 (fun x hx => (hst.2 x).mpr (GD_in ((hm2 x).mp hx))) (fun x hx => (hst.2 x).mpr ⟨_, getD_inN (by omega), hx⟩)) ?_
            rintro _ _ ⟨V4, R, rfl, hf4, gm4, hm4, rfl⟩
            refine g_istore_n (l1 := [(3, aI ((R.length : Int))), (4, aI ((g : Int))), (2, aI ((s : Int))), (0, aO (some o)), (1, aI ((n : Int)))]) rfl rfl ?_
            refine g_iinc (l1 := [(4, aI ((g : Int) + 1)), (3, aI ((R.length : Int))), (2, aI ((s : Int))), (0, aO (some o)), (1, aI ((n : Int)))]) rfl rfl (by omega) (by omega) rfl ?_
            refine g_goto rfl ?_
            exact ih24 (g + 1) _ _ (by omega) (by omega) (by exact fun a i h1 h2 h3 h4 h5 => by rw [hf4 a h3 h4 h5]; exact ff2 a i h1 h2 h3 h4 h5) (by exact fm2.fr (by rw [hf4 _ (by omega) (by omega) (by omega)]) (by rw [hf4 _ (by omega) (by omega) (by omega)])) (by exact gm4) (by exact fun x => by rw [GD_s (by omega), hm4, hm2]) (by omega)
      refine g_iload_n rfl rfl ?_
      refine g_iload_n rfl rfl ?_
      refine g_icmp_ge rfl (fun cq16 => ?_) (fun cq16 => ?_)
      · skip
        refine g_vret rfl ?_
        exact ⟨V1, rfl, ff1, by rw [show n = s by omega]; exact fm1⟩
      · skip
        refine g_iconst rfl ?_
        refine g_top (v2 := aI (((([] : List Nat).length : Nat) : Int))) (congrArg aI (by rfl)) ?_
        refine g_istore_n (l1 := [(3, aI (((([] : List Nat).length : Nat) : Int))), (2, aI ((s : Int))), (0, aO (some o)), (1, aI ((n : Int)))]) rfl rfl ?_
        refine g_iconst rfl ?_
        refine g_istore (l1 := [(4, aI 0), (3, aI (((([] : List Nat).length : Nat) : Int))), (2, aI ((s : Int))), (0, aO (some o)), (1, aI ((n : Int)))]) rfl rfl ?_
        exact l24 _ 0 V1 [] (by omega) (by omega) (by exact ff1) (by exact fm1) (by exact ⟨List.Pairwise.nil, fun i hi => by cases hi⟩) (by exact fun x => ⟨fun q => (by cases q), fun q => (by obtain ⟨g2, q1, -⟩ := q; omega)⟩) (Nat.lt_succ_self _)
  refine g_aload_n rfl rfl ?_
  refine g_getR rfl ms.1 (mr_figs ms) ?_
  refine g_iconst rfl ?_
  refine g_lconst1 rfl ?_
  refine g_last (i := 0) rfl (mt_figs ms) (by omega) (by omega) ?_
  refine g_hp (h2 := hw h (vset V (o + 19) 0 1)) rfl ?_
  refine g_aload_n rfl rfl ?_
  refine g_iconst rfl ?_
  refine g_putI rfl ms.1 ?_
  refine g_hp (h2 := hw h (vset (vset V (o + 19) 0 1) o 27 1)) rfl ?_
  refine g_iconst rfl ?_
  have fm_in : FgM (vset (vset V (o + 19) 0 1) o 27 1) o (figN 1) := by
    rw [fig_1]
    refine ⟨vset_eq _ _ _ _, fun i hi => ?_⟩
    have e : i = 0 := by
      simp at hi
      omega
    subst e
    rw [vset_ne _ _ _ _ (by omega), vset_eq]
    rfl
  refine g_istore_n (l1 := [(2, aI 1), (0, aO (some o)), (1, aI ((n : Int)))]) rfl rfl ?_
  exact l14 _ 1 _ (by omega) (by omega) (by exact fun a i h1 h2 h3 h4 h5 => by rw [vset_ne _ _ _ _ (by omega), vset_ne _ _ _ _ (by omega)]) (by exact fm_in) (Nat.lt_succ_self _)
def isFT (f : Nat) (mr : Bool) (t : Nat) : Bool := (List.range t).all (fun t => decide (f ≤ shp (celP f) t false) && (!mr || decide (f ≤ shp (celP f) t true)))
theorem isFT_s (f : Nat) (mr : Bool) (t : Nat) : isFT f mr (t + 1) = (isFT f mr t && (decide (f ≤ shp (celP f) t false) && (!mr || decide (f ≤ shp (celP f) t true)))) := by
  unfold isFT
  rw [List.range_succ, List.all_append]
  simp
theorem isFT_1 {f t : Nat} {mr : Bool} (h : isFT f mr t = true) (h1 : f ≤ shp (celP f) t false) (h2 : mr = true → f ≤ shp (celP f) t true) : isFT f mr (t + 1) = true := by
  rw [isFT_s, h, decide_eq_true h1]
  cases mr with
  | false => rfl
  | true => rw [decide_eq_true (h2 rfl)]; rfl
theorem isFT_a {f t : Nat} {mr : Bool} (h : ¬ isFT f mr t = true) : ¬ isFT f mr (t + 1) = true := by
  rw [isFT_s, Bool.and_eq_true]
  exact fun q => h q.1
theorem isFT_b {f t : Nat} {mr : Bool} (h : shp (celP f) t false < f) : ¬ isFT f mr (t + 1) = true := by
  rw [isFT_s, Bool.and_eq_true, Bool.and_eq_true, decide_eq_true_eq]
  exact fun q => by omega
theorem isFT_c {f t : Nat} {mr : Bool} (hm : mr = true) (h : shp (celP f) t true < f) : ¬ isFT f mr (t + 1) = true := by
  rw [isFT_s, Bool.and_eq_true, Bool.and_eq_true, hm, Bool.not_true, Bool.false_or, decide_eq_true_eq, decide_eq_true_eq]
  exact fun q => by omega
set_option maxRecDepth 100000 in
theorem m_isFirst {w : aW} {d : Nat} (hd : 4 ≤ d) {h : aH} {o : Nat} (ms : MS h o) (V : Nat → Nat → Int) (f n : Nat) (hb : Bx f) (hn : (cel f).length = n) (hn8 : n ≤ 8) (mr : Bool) : WP w d 378 [aO (some o), aJ ((f : Int)), aI ((n : Int)), aI (if mr = true then 1 else 0)] (hw h V) (RI (fun r h1 => ∃ V1, h1 = hw h V1 ∧ (∀ a, a ≠ o + 21 → a ≠ o + 22 → V1 a = V a) ∧ r = if isF f mr = true then 1 else 0)) := by
  obtain ⟨d, rfl⟩ : ∃ d1, d = d1 + 1 := ⟨d - 1, by omega⟩
  refine WP.enter (cd := cd_X12_isFirst) rfl ?_
  have hls : largs 0 [aO (some o), aJ ((f : Int)), aI ((n : Int)), aI (if mr = true then 1 else 0)] = [(0, aO (some o)), (1, aJ ((f : Int))), (3, aI ((n : Int))), (4, aI (if mr = true then 1 else 0))] := rfl
  rw [hls]
  clear hls
  have l11 : ∀ (V1 : Nat → Nat → Int), (CL V1 o (celP f)) → (∀ a, a ≠ o + 21 → a ≠ o + 22 → V1 a = V a) → ∀ (fuel : Nat) (t : Nat), (t ≤ 4) → 4 - t < fuel → Wk w d cd_X12_isFirst 11 [(6, aI ((t : Int))), (5, aI (if isFT f mr t = true then 1 else 0)), (0, aO (some o)), (1, aJ ((f : Int))), (3, aI ((n : Int))), (4, aI (if mr = true then 1 else 0))] [] (hw h V1) (RI (fun r h1 => ∃ V1, h1 = hw h V1 ∧ (∀ a, a ≠ o + 21 → a ≠ o + 22 → V1 a = V a) ∧ r = if isF f mr = true then 1 else 0)) := by
    intro V1 cl1 hf1 fuel
    induction fuel with
    | zero => intros; omega
    | succ fuel ih11 =>
      intro t ht hfuel
      have j58 : (t < 4) → Wk w d cd_X12_isFirst 58 [(6, aI ((t : Int))), (5, aI (if isFT f mr t = true then 1 else 0)), (0, aO (some o)), (1, aJ ((f : Int))), (3, aI ((n : Int))), (4, aI (if mr = true then 1 else 0))] [aI (if isFT f mr (t + 1) = true then 1 else 0)] (hw h V1) (RI (fun r h1 => ∃ V1, h1 = hw h V1 ∧ (∀ a, a ≠ o + 21 → a ≠ o + 22 → V1 a = V a) ∧ r = if isF f mr = true then 1 else 0)) := by
        intro ht4
        refine g_istore (l1 := [(5, aI (if isFT f mr (t + 1) = true then 1 else 0)), (6, aI ((t : Int))), (0, aO (some o)), (1, aJ ((f : Int))), (3, aI ((n : Int))), (4, aI (if mr = true then 1 else 0))]) rfl rfl ?_
        refine g_iinc (l1 := [(6, aI ((t : Int) + 1)), (5, aI (if isFT f mr (t + 1) = true then 1 else 0)), (0, aO (some o)), (1, aJ ((f : Int))), (3, aI ((n : Int))), (4, aI (if mr = true then 1 else 0))]) rfl rfl (by omega) (by omega) rfl ?_
        refine g_goto rfl ?_
        exact ih11 (t + 1) (by omega) (by omega)
      refine g_iload rfl rfl ?_
      refine g_iconst rfl ?_
      refine g_icmp_ge rfl (fun cq14 => ?_) (fun cq14 => ?_)
      · skip
        refine g_iload rfl rfl ?_
        refine g_zret rfl (by exact bi_01 _) ?_
        refine ⟨V1, rfl, hf1, ?_⟩
        rw [show isF f mr = isFT f mr t by rw [show t = 4 by omega]; rfl]
      · skip
        refine g_iload rfl rfl ?_
        refine g_b_eq rfl (fun cq19 => ?_) (fun cq19 => ?_)
        · skip
          refine g_iconst rfl ?_
          refine g_top (v2 := aI (if isFT f mr (t + 1) = true then 1 else 0)) (congrArg aI (bi_f (by first | exact isFT_a cq19 | exact isFT_b (by omega) | exact isFT_c cq37 (by omega) | exact isFT_1 cq19 (by omega) (fun q => absurd q cq37) | exact isFT_1 cq19 (by omega) (fun _ => by omega)))) ?_
          exact j58 (by omega)
        · skip
          refine g_aload_n rfl rfl ?_
          refine g_iload_n rfl rfl ?_
          refine g_iload rfl rfl ?_
          refine g_iconst rfl ?_
          refine g_callVJ [aI ((n : Int)), aI ((t : Int)), aI 0] [] rfl rfl rfl rfl (Nat.le_of_ble_eq_true rfl) ms.1 (m_shape (by omega) ms V1 (celP f) cl1 n (by rw [celP_len]; exact hn) (celP_box hb) t false) ?_
          rintro _ _ ⟨rfl, rfl⟩
          refine g_lload_n rfl rfl ?_
          refine g_lc_lt rfl rfl (fun cq31 => ?_) (fun cq31 => ?_)
          · skip
            refine g_iconst rfl ?_
            refine g_top (v2 := aI (if isFT f mr (t + 1) = true then 1 else 0)) (congrArg aI (bi_f (by first | exact isFT_a cq19 | exact isFT_b (by omega) | exact isFT_c cq37 (by omega) | exact isFT_1 cq19 (by omega) (fun q => absurd q cq37) | exact isFT_1 cq19 (by omega) (fun _ => by omega)))) ?_
            exact j58 (by omega)
          · skip
            refine g_iload rfl rfl ?_
            refine g_b_eq rfl (fun cq37 => ?_) (fun cq37 => ?_)
            · skip
              refine g_iconst rfl ?_
              refine g_goto rfl ?_
              refine g_top (v2 := aI (if isFT f mr (t + 1) = true then 1 else 0)) (congrArg aI (bi_t (by first | exact isFT_a cq19 | exact isFT_b (by omega) | exact isFT_c cq37 (by omega) | exact isFT_1 cq19 (by omega) (fun q => absurd q cq37) | exact isFT_1 cq19 (by omega) (fun _ => by omega)))) ?_
              exact j58 (by omega)
            · skip
              refine g_aload_n rfl rfl ?_
              refine g_iload_n rfl rfl ?_
              refine g_iload rfl rfl ?_
              refine g_iconst rfl ?_
              refine g_callVJ [aI ((n : Int)), aI ((t : Int)), aI 1] [] rfl rfl rfl rfl (Nat.le_of_ble_eq_true rfl) ms.1 (m_shape (by omega) ms V1 (celP f) cl1 n (by rw [celP_len]; exact hn) (celP_box hb) t true) ?_
              rintro _ _ ⟨rfl, rfl⟩
              refine g_lload_n rfl rfl ?_
              refine g_lc_lt rfl rfl (fun cq49 => ?_) (fun cq49 => ?_)
              · skip
                refine g_iconst rfl ?_
                refine g_top (v2 := aI (if isFT f mr (t + 1) = true then 1 else 0)) (congrArg aI (bi_f (by first | exact isFT_a cq19 | exact isFT_b (by omega) | exact isFT_c cq37 (by omega) | exact isFT_1 cq19 (by omega) (fun q => absurd q cq37) | exact isFT_1 cq19 (by omega) (fun _ => by omega)))) ?_
                exact j58 (by omega)
              · skip
                refine g_iconst rfl ?_
                refine g_goto rfl ?_
                refine g_top (v2 := aI (if isFT f mr (t + 1) = true then 1 else 0)) (congrArg aI (bi_t (by first | exact isFT_a cq19 | exact isFT_b (by omega) | exact isFT_c cq37 (by omega) | exact isFT_1 cq19 (by omega) (fun q => absurd q cq37) | exact isFT_1 cq19 (by omega) (fun _ => by omega)))) ?_
                exact j58 (by omega)
  refine g_aload_n rfl rfl ?_
  refine g_lload_n rfl rfl ?_
  refine g_callVN [aJ ((f : Int))] [] rfl rfl rfl rfl (Nat.le_of_ble_eq_true rfl) ms.1 (m_cellsOf (by omega) ms V f (by omega)) ?_
  rintro _ ⟨V1, rfl, hf1, cl1⟩
  refine g_iconst rfl ?_
  refine g_top (v2 := aI (if isFT f mr 0 = true then 1 else 0)) (congrArg aI (by exact bi_t (by rfl))) ?_
  refine g_istore (l1 := [(5, aI (if isFT f mr 0 = true then 1 else 0)), (0, aO (some o)), (1, aJ ((f : Int))), (3, aI ((n : Int))), (4, aI (if mr = true then 1 else 0))]) rfl rfl ?_
  refine g_iconst rfl ?_
  refine g_istore (l1 := [(6, aI 0), (5, aI (if isFT f mr 0 = true then 1 else 0)), (0, aO (some o)), (1, aJ ((f : Int))), (3, aI ((n : Int))), (4, aI (if mr = true then 1 else 0))]) rfl rfl ?_
  exact l11 V1 (by exact cl1) (by exact hf1) _ 0 (by omega) (Nat.lt_succ_self _)
theorem brd_or (k : Nat) : brd k ∨ ¬ brd k := by
  unfold brd
  omega
/-- how many are not yet outside -/
def zcN (g : Nat → Int) (k : Nat) : Nat := smN k (fun j => if g j = 0 then 1 else 0)
theorem zcN_set {g g2 : Nat → Int} {t : Nat} (h1 : g t = 0) (h2 : g2 t = 1) (h3 : ∀ j, j ≠ t → g2 j = g j) : ∀ k, zcN g2 k + (if t < k then 1 else 0) = zcN g k := by
  intro k
  induction k with
  | zero => rfl
  | succ k ih =>
    have e1 : zcN g2 (k + 1) = zcN g2 k + (if g2 k = 0 then 1 else 0) := rfl
    have e2 : zcN g (k + 1) = zcN g k + (if g k = 0 then 1 else 0) := rfl
    rw [e1, e2, ← ih]
    by_cases e : k = t
    · subst e
      rw [h2, h1, if_pos rfl, if_neg (by decide), if_pos (by omega), if_neg (by omega)]
    · rw [h3 k e]
      by_cases q : t < k
      · rw [if_pos q, if_pos (show t < k + 1 by omega)]; omega
      · rw [if_neg q, if_neg (show ¬ t < k + 1 by omega)]; omega
theorem zcN_co {g g2 : Nat → Int} {k : Nat} (h : ∀ j < k, g2 j = g j) : zcN g2 k = zcN g k := smN_congr (fun j hj => by rw [h j hj])
/-- what of the frame is outside so far -/
def OU (V : Nat → Nat → Int) (o f : Nat) : Prop := (∀ k < 100, V (o + 23) k = 0 ∨ V (o + 23) k = 1) ∧ (∀ k < 100, brd k → V (o + 23) k = 1) ∧ ∀ k < 100, V (o + 23) k = 1 → Rch f k
def ClM (V : Nat → Nat → Int) (o f m : Nat) : Prop := ∀ k, 11 ≤ k → k < m → 0 < k % 10 → k % 10 < 9 → f.testBit (8 * (k / 10 - 1) + k % 10 - 1) = false → (V (o + 23) (k - 1) = 1 ∨ V (o + 23) (k + 1) = 1 ∨ V (o + 23) (k - 10) = 1 ∨ V (o + 23) (k + 10) = 1) → V (o + 23) k = 1
theorem OU.rch {V : Nat → Nat → Int} {o f : Nat} (u : OU V o f) (c : ClM V o f 89) {k : Nat} (hk : k < 100) : V (o + 23) k = 1 ↔ Rch f k := by
  refine ⟨u.2.2 k hk, fun h => ?_⟩
  exact h (fun j => V (o + 23) j = 1) (fun j hj hb => u.2.1 j hj hb) (fun j h1 h2 h3 h4 hb hn => c j h1 h2 h3 h4 hb hn)
theorem OU.set {V : Nat → Nat → Int} {o f k : Nat} (u : OU V o f) (h1 : 11 ≤ k) (h2 : k < 89) (h3 : 0 < k % 10) (h4 : k % 10 < 9) (hb : f.testBit (8 * (k / 10 - 1) + k % 10 - 1) = false) (hn : V (o + 23) (k - 1) = 1 ∨ V (o + 23) (k + 1) = 1 ∨ V (o + 23) (k - 10) = 1 ∨ V (o + 23) (k + 10) = 1) : OU (vset V (o + 23) k 1) o f := by
  have hr : Rch f k := by
    intro C hC hcl
    refine hcl k h1 h2 h3 h4 hb ?_
    rcases hn with q | q | q | q
    · exact Or.inl (u.2.2 _ (by omega) q C hC hcl)
    · exact Or.inr (Or.inl (u.2.2 _ (by omega) q C hC hcl))
    · exact Or.inr (Or.inr (Or.inl (u.2.2 _ (by omega) q C hC hcl)))
    · exact Or.inr (Or.inr (Or.inr (u.2.2 _ (by omega) q C hC hcl)))
  refine ⟨fun j hj => ?_, fun j hj hb2 => ?_, fun j hj hv => ?_⟩
  · by_cases e : j = k
    · subst e; rw [vset_eq]; exact Or.inr rfl
    · rw [vset_ne _ _ _ _ (by omega)]; exact u.1 j hj
  · by_cases e : j = k
    · subst e; exact vset_eq _ _ _ _
    · rw [vset_ne _ _ _ _ (by omega)]; exact u.2.1 j hj hb2
  · by_cases e : j = k
    · subst e; exact hr
    · rw [vset_ne _ _ _ _ (by omega)] at hv; exact u.2.2 j hj hv
theorem bit_z {f k : Nat} (h : (if f.testBit k = true then (1 : Int) else 0) = 0) : f.testBit k = false := by
  cases e : f.testBit k with
  | false => rfl
  | true => rw [if_pos e] at h; cases h
theorem bit_n {f k : Nat} (h : (if f.testBit k = true then (1 : Int) else 0) ≠ 0) : ¬ f.testBit k = false := by
  intro q
  rw [if_neg (by rw [q]; decide)] at h
  exact h rfl
theorem rcN_s (f k : Nat) : rcN f (k + 1) = rcN f k + (if bt (Rch f k) = true then 1 else 0) := by
  unfold rcN
  rw [List.range_succ, List.filter_append, List.length_append]
  congr 1
  by_cases q : bt (Rch f k) = true
  · rw [if_pos q]; simp [q]
  · rw [if_neg q]; simp [q]
theorem rcN_le (f k : Nat) : rcN f k ≤ k := by
  unfold rcN
  have := List.length_filter_le (fun k => bt (Rch f k)) (List.range k)
  rw [List.length_range] at this
  exact this
theorem hol_bit (f : Nat) {k : Nat} (h1 : 11 ≤ k) (h2 : k < 89) (h3 : 0 < k % 10) : land (lshr (f : Int) (8 * (((k / 10 : Nat) : Int) - 1) + ((k % 10 : Nat) : Int) - 1)) 1 = if f.testBit (8 * (k / 10 - 1) + k % 10 - 1) = true then 1 else 0 := by
  rw [show (8 * (((k / 10 : Nat) : Int) - 1) + ((k % 10 : Nat) : Int) - 1) = ((8 * (k / 10 - 1) + k % 10 - 1 : Nat) : Int) by omega]
  rcases Nat.lt_or_ge (8 * (k / 10 - 1) + k % 10 - 1) 64 with q | q
  · exact cel_bit f q
  · exact absurd q (by omega)
set_option maxRecDepth 100000 in
theorem m_hasHole {w : aW} {d : Nat} (hd : 3 ≤ d) {h : aH} {o : Nat} (ms : MS h o) (V : Nat → Nat → Int) (f n : Nat) (h8 : (cel f).length ≤ 8) (hn8 : n ≤ 8) : WP w d 379 [aO (some o), aJ ((f : Int)), aI ((n : Int))] (hw h V) (RI (fun r h1 => ∃ V1, h1 = hw h V1 ∧ (∀ a, a ≠ o + 21 → a ≠ o + 22 → a ≠ o + 23 → V1 a = V a) ∧ r = if hoR f n = true then 1 else 0)) := by
  obtain ⟨d, rfl⟩ : ∃ d1, d = d1 + 1 := ⟨d - 1, by omega⟩
  refine WP.enter (cd := cd_X12_hasHole) rfl ?_
  have hls : largs 0 [aO (some o), aJ ((f : Int)), aI ((n : Int))] = [(0, aO (some o)), (1, aJ ((f : Int))), (3, aI ((n : Int)))] := rfl
  rw [hls]
  clear hls
  have l230 : ∀ (V1 : Nat → Nat → Int), (∀ a, a ≠ o + 21 → a ≠ o + 22 → a ≠ o + 23 → V1 a = V a) → (OU V1 o f) → (ClM V1 o f 89) → ∀ (fuel : Nat) (k n2 : Nat), (k ≤ 100) → (n2 + rcN f k = k) → 100 - k < fuel → Wk w d cd_X12_hasHole 230 [(6, aI ((k : Int))), (5, aI ((n2 : Int))), (0, aO (some o)), (1, aJ ((f : Int))), (3, aI ((n : Int)))] [] (hw h V1) (RI (fun r h1 => ∃ V1, h1 = hw h V1 ∧ (∀ a, a ≠ o + 21 → a ≠ o + 22 → a ≠ o + 23 → V1 a = V a) ∧ r = if hoR f n = true then 1 else 0)) := by
    intro V1 hf1 ou1 cl1 fuel
    induction fuel with
    | zero => intros; omega
    | succ fuel ih230 =>
      intro k n2 hk hn2 hfuel
      refine g_iload rfl rfl ?_
      refine g_bipush rfl ?_
      refine g_icmp_ge rfl (fun cq234 => ?_) (fun cq234 => ?_)
      · skip
        refine g_iload rfl rfl ?_
        refine g_iload_n rfl rfl ?_
        refine g_icmp_le rfl (fun cq267 => ?_) (fun cq267 => ?_)
        · skip
          refine g_iconst rfl ?_
          refine g_zret rfl (by first | exact Or.inl rfl | exact Or.inr rfl) ?_
          refine ⟨V1, rfl, hf1, ?_⟩
          have hr := rcN_le f 100
          unfold hoR
          have e100 : k = 100 := by omega
          subst e100
          first
            | (rw [if_pos (decide_eq_true (by omega))]; done)
            | (rw [if_neg (by rw [decide_eq_true_eq]; omega)]; done)
        · skip
          refine g_iconst rfl ?_
          refine g_goto rfl ?_
          refine g_zret rfl (by first | exact Or.inl rfl | exact Or.inr rfl) ?_
          refine ⟨V1, rfl, hf1, ?_⟩
          have hr := rcN_le f 100
          unfold hoR
          have e100 : k = 100 := by omega
          subst e100
          first
            | (rw [if_pos (decide_eq_true (by omega))]; done)
            | (rw [if_neg (by rw [decide_eq_true_eq]; omega)]; done)
      · skip
        refine g_aload_n rfl rfl ?_
        refine g_getR rfl ms.1 (mr_outs ms) ?_
        refine g_iload rfl rfl ?_
        refine g_bald (i := k) rfl (mt_outs ms) (by omega) (by omega) ?_
        refine g_top (v2 := aI (V1 (o + 23) k)) (congrArg aI (by rfl)) ?_
        refine g_if_eq rfl (fun cq244 => ?_) (fun cq244 => ?_)
        · skip
          refine g_iload rfl rfl ?_
          refine g_iconst rfl ?_
          refine g_iadd rfl (by omega) (by omega) ?_
          refine g_istore (l1 := [(5, aI (((n2 : Int)) + 1)), (6, aI ((k : Int))), (0, aO (some o)), (1, aJ ((f : Int))), (3, aI ((n : Int)))]) rfl rfl ?_
          refine g_iinc (l1 := [(6, aI ((k : Int) + 1)), (5, aI (((n2 : Int)) + 1)), (0, aO (some o)), (1, aJ ((f : Int))), (3, aI ((n : Int)))]) rfl rfl (by omega) (by omega) rfl ?_
          refine g_goto rfl ?_
          exact ih230 (k + 1) (n2 + 1) (by omega) (by 
                                                                                                                                                                                                                                                                                                                                                                                                                rw [rcN_s]
                                                                                                                                                                                                                                                                                                                                                                                                                first
                                                                                                                                                                                                                                                                                                                                                                                                                  | (rw [if_pos (bt_iff.mpr ((ou1.rch cl1 (by omega)).mp (by have := ou1.1 k (by omega); omega)))]; omega)
                                                                                                                                                                                                                                                                                                                                                                                                                  | (rw [if_neg (fun q => by have := (ou1.rch cl1 (by omega)).mpr (bt_iff.mp q); omega)]; omega)) (by omega)
        · skip
          refine g_iload rfl rfl ?_
          refine g_goto rfl ?_
          refine g_istore (l1 := [(5, aI ((n2 : Int))), (6, aI ((k : Int))), (0, aO (some o)), (1, aJ ((f : Int))), (3, aI ((n : Int)))]) rfl rfl ?_
          refine g_iinc (l1 := [(6, aI ((k : Int) + 1)), (5, aI ((n2 : Int))), (0, aO (some o)), (1, aJ ((f : Int))), (3, aI ((n : Int)))]) rfl rfl (by omega) (by omega) rfl ?_
          refine g_goto rfl ?_
          exact ih230 (k + 1) n2 (by omega) (by 
                                                                                                                                                                                                                                                                                                                                                                                                                rw [rcN_s]
                                                                                                                                                                                                                                                                                                                                                                                                                first
                                                                                                                                                                                                                                                                                                                                                                                                                  | (rw [if_pos (bt_iff.mpr ((ou1.rch cl1 (by omega)).mp (by have := ou1.1 k (by omega); omega)))]; omega)
                                                                                                                                                                                                                                                                                                                                                                                                                  | (rw [if_neg (fun q => by have := (ou1.rch cl1 (by omega)).mpr (bt_iff.mp q); omega)]; omega)) (by omega)
  have l68 : ∀ (fuel : Nat) (m : Int) (V1 : Nat → Nat → Int), (m = 0 ∨ m = 1) → (∀ a, a ≠ o + 21 → a ≠ o + 22 → a ≠ o + 23 → V1 a = V a) → (OU V1 o f) → (m = 0 → ClM V1 o f 89) → 2 * zcN (V1 (o + 23)) 100 + m.toNat < fuel → Wk w d cd_X12_hasHole 68 [(4, aI m), (0, aO (some o)), (1, aJ ((f : Int))), (3, aI ((n : Int)))] [] (hw h V1) (RI (fun r h1 => ∃ V1, h1 = hw h V1 ∧ (∀ a, a ≠ o + 21 → a ≠ o + 22 → a ≠ o + 23 → V1 a = V a) ∧ r = if hoR f n = true then 1 else 0)) := by
    intro fuel
    induction fuel with
    | zero => intros; omega
    | succ fuel ih68 =>
      intro m V1 hm hf1 ou1 cm1 hfuel
      have l80 : ∀ (fuel : Nat) (k : Nat) (m2 : Int) (V2 : Nat → Nat → Int), (m = 1) → (11 ≤ k) → (k ≤ 89) → (m2 = 0 ∨ m2 = 1) → (∀ a, a ≠ o + 21 → a ≠ o + 22 → a ≠ o + 23 → V2 a = V a) → (OU V2 o f) → ((m2 = 0 → V2 (o + 23) = V1 (o + 23) ∧ ClM V2 o f k) ∧ (m2 = 1 → zcN (V2 (o + 23)) 100 + 1 ≤ zcN (V1 (o + 23)) 100)) → 89 - k < fuel → Wk w d cd_X12_hasHole 80 [(5, aI ((k : Int))), (4, aI m2), (0, aO (some o)), (1, aJ ((f : Int))), (3, aI ((n : Int)))] [] (hw h V2) (RI (fun r h1 => ∃ V1, h1 = hw h V1 ∧ (∀ a, a ≠ o + 21 → a ≠ o + 22 → a ≠ o + 23 → V1 a = V a) ∧ r = if hoR f n = true then 1 else 0)) := by
        intro fuel
        induction fuel with
        | zero => intros; omega
        | succ fuel ih80 =>
          intro k m2 V2 hmm1 hk11 hk89 hm2 hf2 ou2 hd2 hfuel
          have hvk := fun j (hj : j < 100) => ou2.1 j hj
          have j137 : (k < 89) → Wk w d cd_X12_hasHole 137 [(5, aI ((k : Int))), (4, aI m2), (0, aO (some o)), (1, aJ ((f : Int))), (3, aI ((n : Int)))] [aI (if 0 < k % 10 ∧ k % 10 < 9 ∧ f.testBit (8 * (k / 10 - 1) + k % 10 - 1) = false then 1 else 0)] (hw h V2) (RI (fun r h1 => ∃ V1, h1 = hw h V1 ∧ (∀ a, a ≠ o + 21 → a ≠ o + 22 → a ≠ o + 23 → V1 a = V a) ∧ r = if hoR f n = true then 1 else 0)) := by
            intro hk2
            refine g_istore (l1 := [(6, aI (if 0 < k % 10 ∧ k % 10 < 9 ∧ f.testBit (8 * (k / 10 - 1) + k % 10 - 1) = false then 1 else 0)), (5, aI ((k : Int))), (4, aI m2), (0, aO (some o)), (1, aJ ((f : Int))), (3, aI ((n : Int)))]) rfl rfl ?_
            refine g_iload rfl rfl ?_
            refine g_b_eq rfl (fun cq141 => ?_) (fun cq141 => ?_)
            · skip
              first
                | (have hdT := hdN)
                | (
                   have hdO : (m2 = 0 → V2 (o + 23) = V1 (o + 23) ∧ ClM V2 o f (k + 1)) ∧ (m2 = 1 → zcN (V2 (o + 23)) 100 + 1 ≤ zcN (V1 (o + 23)) 100) := by
                     refine ⟨fun q => ⟨(hd2.1 q).1, fun j h1 h2 h3 h4 h5 h6 => ?_⟩, hd2.2⟩
                     by_cases e : j = k
                     · subst e
                       first
                         | (exact absurd ⟨h3, h4, h5⟩ cq141)
                         | (have := hvk j (by omega); omega)
                         | (exfalso; omega)
                     · exact (hd2.1 q).2 j h1 (by omega) h3 h4 h5 h6)
              refine g_iinc (l1 := [(5, aI ((k : Int) + 1)), (6, aI (if 0 < k % 10 ∧ k % 10 < 9 ∧ f.testBit (8 * (k / 10 - 1) + k % 10 - 1) = false then 1 else 0)), (4, aI m2), (0, aO (some o)), (1, aJ ((f : Int))), (3, aI ((n : Int)))]) rfl rfl (by omega) (by omega) rfl ?_
              refine g_goto rfl ?_
              refine g_ls [0, 2, 3, 4, 5] rfl rfl ?_
              exact ih80 (k + 1) _ _ (by omega) (by omega) (by omega) (by first | exact hm2 | exact Or.inr rfl) (by first | exact hf2 | exact (fun a h1 h2 h3 => by funext z; rw [vset_ne _ _ _ _ (by omega), hf2 a h1 h2 h3])) (by first | exact ou2 | exact ou3) (by first | exact hdN | exact hdO) (by omega)
            · skip
              refine g_aload_n rfl rfl ?_
              refine g_getR rfl ms.1 (mr_outs ms) ?_
              refine g_iload rfl rfl ?_
              refine g_bald (i := k) rfl (mt_outs ms) (by omega) (by omega) ?_
              refine g_top (v2 := aI (V2 (o + 23) k)) (congrArg aI (by rfl)) ?_
              refine g_if_ne rfl (fun cq151 => ?_) (fun cq151 => ?_)
              · skip
                first
                  | (have hdT := hdN)
                  | (
                     have hdO : (m2 = 0 → V2 (o + 23) = V1 (o + 23) ∧ ClM V2 o f (k + 1)) ∧ (m2 = 1 → zcN (V2 (o + 23)) 100 + 1 ≤ zcN (V1 (o + 23)) 100) := by
                       refine ⟨fun q => ⟨(hd2.1 q).1, fun j h1 h2 h3 h4 h5 h6 => ?_⟩, hd2.2⟩
                       by_cases e : j = k
                       · subst e
                         first
                           | (exact absurd ⟨h3, h4, h5⟩ cq141)
                           | (have := hvk j (by omega); omega)
                           | (exfalso; omega)
                       · exact (hd2.1 q).2 j h1 (by omega) h3 h4 h5 h6)
                refine g_iinc (l1 := [(5, aI ((k : Int) + 1)), (6, aI (if 0 < k % 10 ∧ k % 10 < 9 ∧ f.testBit (8 * (k / 10 - 1) + k % 10 - 1) = false then 1 else 0)), (4, aI m2), (0, aO (some o)), (1, aJ ((f : Int))), (3, aI ((n : Int)))]) rfl rfl (by omega) (by omega) rfl ?_
                refine g_goto rfl ?_
                refine g_ls [0, 2, 3, 4, 5] rfl rfl ?_
                exact ih80 (k + 1) _ _ (by omega) (by omega) (by omega) (by first | exact hm2 | exact Or.inr rfl) (by first | exact hf2 | exact (fun a h1 h2 h3 => by funext z; rw [vset_ne _ _ _ _ (by omega), hf2 a h1 h2 h3])) (by first | exact ou2 | exact ou3) (by first | exact hdN | exact hdO) (by omega)
              · skip
                refine g_aload_n rfl rfl ?_
                refine g_getR rfl ms.1 (mr_outs ms) ?_
                refine g_iload rfl rfl ?_
                refine g_iconst rfl ?_
                refine g_isub rfl (by omega) (by omega) ?_
                refine g_bald (i := k - 1) rfl (mt_outs ms) (by omega) (by omega) ?_
                refine g_top (v2 := aI (V2 (o + 23) (k - 1))) (congrArg aI (by rfl)) ?_
                refine g_if_ne rfl (fun cq163 => ?_) (fun cq163 => ?_)
                · skip
                  have hnb : V2 (o + 23) (k - 1) = 1 ∨ V2 (o + 23) (k + 1) = 1 ∨ V2 (o + 23) (k - 10) = 1 ∨ V2 (o + 23) (k + 10) = 1 := by
                    have v1 := hvk (k - 1) (by omega)
                    have v2 := hvk (k + 1) (by omega)
                    have v3 := hvk (k - 10) (by omega)
                    have v4 := hvk (k + 10) (by omega)
                    omega
                  have ou3 := ou2.set hk11 hk2 cq141.1 cq141.2.1 cq141.2.2 hnb
                  have hv0 : V2 (o + 23) k = 0 := by
                    have := hvk k (by omega)
                    omega
                  have hz := zcN_set (g := V2 (o + 23)) (g2 := vset V2 (o + 23) k 1 (o + 23)) (t := k) hv0 (vset_eq _ _ _ _) (fun j hj => vset_ne _ _ _ _ (by omega)) 100
                  rw [if_pos (show k < 100 by omega)] at hz
                  have hdN : ((1 : Int) = 0 → vset V2 (o + 23) k 1 (o + 23) = V1 (o + 23) ∧ ClM (vset V2 (o + 23) k 1) o f (k + 1)) ∧ ((1 : Int) = 1 → zcN (vset V2 (o + 23) k 1 (o + 23)) 100 + 1 ≤ zcN (V1 (o + 23)) 100) := by
                    refine ⟨fun q => absurd q (by decide), fun _ => ?_⟩
                    rcases hm2 with q | q
                    · have e := (hd2.1 q).1
                      rw [e] at hz
                      omega
                    · have := hd2.2 q
                      omega
                  refine g_aload_n rfl rfl ?_
                  refine g_getR rfl ms.1 (mr_outs ms) ?_
                  refine g_iload rfl rfl ?_
                  refine g_iconst rfl ?_
                  refine g_bast (i := k) rfl (mt_outs ms) (by omega) (by omega) (by exact Or.inr rfl) ?_
                  refine g_hp (h2 := hw h (vset V2 (o + 23) k 1)) rfl ?_
                  refine g_iconst rfl ?_
                  refine g_istore (l1 := [(4, aI 1), (6, aI (if 0 < k % 10 ∧ k % 10 < 9 ∧ f.testBit (8 * (k / 10 - 1) + k % 10 - 1) = false then 1 else 0)), (5, aI ((k : Int))), (0, aO (some o)), (1, aJ ((f : Int))), (3, aI ((n : Int)))]) rfl rfl ?_
                  first
                    | (have hdT := hdN)
                    | (
                       have hdO : (m2 = 0 → V2 (o + 23) = V1 (o + 23) ∧ ClM V2 o f (k + 1)) ∧ (m2 = 1 → zcN (V2 (o + 23)) 100 + 1 ≤ zcN (V1 (o + 23)) 100) := by
                         refine ⟨fun q => ⟨(hd2.1 q).1, fun j h1 h2 h3 h4 h5 h6 => ?_⟩, hd2.2⟩
                         by_cases e : j = k
                         · subst e
                           first
                             | (exact absurd ⟨h3, h4, h5⟩ cq141)
                             | (have := hvk j (by omega); omega)
                             | (exfalso; omega)
                         · exact (hd2.1 q).2 j h1 (by omega) h3 h4 h5 h6)
                  refine g_iinc (l1 := [(5, aI ((k : Int) + 1)), (4, aI 1), (6, aI (if 0 < k % 10 ∧ k % 10 < 9 ∧ f.testBit (8 * (k / 10 - 1) + k % 10 - 1) = false then 1 else 0)), (0, aO (some o)), (1, aJ ((f : Int))), (3, aI ((n : Int)))]) rfl rfl (by omega) (by omega) rfl ?_
                  refine g_goto rfl ?_
                  refine g_ls [0, 1, 3, 4, 5] rfl rfl ?_
                  exact ih80 (k + 1) _ _ (by omega) (by omega) (by omega) (by first | exact hm2 | exact Or.inr rfl) (by first | exact hf2 | exact (fun a h1 h2 h3 => by funext z; rw [vset_ne _ _ _ _ (by omega), hf2 a h1 h2 h3])) (by first | exact ou2 | exact ou3) (by first | exact hdN | exact hdO) (by omega)
                · skip
                  refine g_aload_n rfl rfl ?_
                  refine g_getR rfl ms.1 (mr_outs ms) ?_
                  refine g_iload rfl rfl ?_
                  refine g_iconst rfl ?_
                  refine g_iadd rfl (by omega) (by omega) ?_
                  refine g_bald (i := k + 1) rfl (mt_outs ms) (by omega) (by omega) ?_
                  refine g_top (v2 := aI (V2 (o + 23) (k + 1))) (congrArg aI (by rfl)) ?_
                  refine g_if_ne rfl (fun cq175 => ?_) (fun cq175 => ?_)
                  · skip
                    have hnb : V2 (o + 23) (k - 1) = 1 ∨ V2 (o + 23) (k + 1) = 1 ∨ V2 (o + 23) (k - 10) = 1 ∨ V2 (o + 23) (k + 10) = 1 := by
                      have v1 := hvk (k - 1) (by omega)
                      have v2 := hvk (k + 1) (by omega)
                      have v3 := hvk (k - 10) (by omega)
                      have v4 := hvk (k + 10) (by omega)
                      omega
                    have ou3 := ou2.set hk11 hk2 cq141.1 cq141.2.1 cq141.2.2 hnb
                    have hv0 : V2 (o + 23) k = 0 := by
                      have := hvk k (by omega)
                      omega
                    have hz := zcN_set (g := V2 (o + 23)) (g2 := vset V2 (o + 23) k 1 (o + 23)) (t := k) hv0 (vset_eq _ _ _ _) (fun j hj => vset_ne _ _ _ _ (by omega)) 100
                    rw [if_pos (show k < 100 by omega)] at hz
                    have hdN : ((1 : Int) = 0 → vset V2 (o + 23) k 1 (o + 23) = V1 (o + 23) ∧ ClM (vset V2 (o + 23) k 1) o f (k + 1)) ∧ ((1 : Int) = 1 → zcN (vset V2 (o + 23) k 1 (o + 23)) 100 + 1 ≤ zcN (V1 (o + 23)) 100) := by
                      refine ⟨fun q => absurd q (by decide), fun _ => ?_⟩
                      rcases hm2 with q | q
                      · have e := (hd2.1 q).1
                        rw [e] at hz
                        omega
                      · have := hd2.2 q
                        omega
                    refine g_aload_n rfl rfl ?_
                    refine g_getR rfl ms.1 (mr_outs ms) ?_
                    refine g_iload rfl rfl ?_
                    refine g_iconst rfl ?_
                    refine g_bast (i := k) rfl (mt_outs ms) (by omega) (by omega) (by exact Or.inr rfl) ?_
                    refine g_hp (h2 := hw h (vset V2 (o + 23) k 1)) rfl ?_
                    refine g_iconst rfl ?_
                    refine g_istore (l1 := [(4, aI 1), (6, aI (if 0 < k % 10 ∧ k % 10 < 9 ∧ f.testBit (8 * (k / 10 - 1) + k % 10 - 1) = false then 1 else 0)), (5, aI ((k : Int))), (0, aO (some o)), (1, aJ ((f : Int))), (3, aI ((n : Int)))]) rfl rfl ?_
                    first
                      | (have hdT := hdN)
                      | (
                         have hdO : (m2 = 0 → V2 (o + 23) = V1 (o + 23) ∧ ClM V2 o f (k + 1)) ∧ (m2 = 1 → zcN (V2 (o + 23)) 100 + 1 ≤ zcN (V1 (o + 23)) 100) := by
                           refine ⟨fun q => ⟨(hd2.1 q).1, fun j h1 h2 h3 h4 h5 h6 => ?_⟩, hd2.2⟩
                           by_cases e : j = k
                           · subst e
                             first
                               | (exact absurd ⟨h3, h4, h5⟩ cq141)
                               | (have := hvk j (by omega); omega)
                               | (exfalso; omega)
                           · exact (hd2.1 q).2 j h1 (by omega) h3 h4 h5 h6)
                    refine g_iinc (l1 := [(5, aI ((k : Int) + 1)), (4, aI 1), (6, aI (if 0 < k % 10 ∧ k % 10 < 9 ∧ f.testBit (8 * (k / 10 - 1) + k % 10 - 1) = false then 1 else 0)), (0, aO (some o)), (1, aJ ((f : Int))), (3, aI ((n : Int)))]) rfl rfl (by omega) (by omega) rfl ?_
                    refine g_goto rfl ?_
                    refine g_ls [0, 1, 3, 4, 5] rfl rfl ?_
                    exact ih80 (k + 1) _ _ (by omega) (by omega) (by omega) (by first | exact hm2 | exact Or.inr rfl) (by first | exact hf2 | exact (fun a h1 h2 h3 => by funext z; rw [vset_ne _ _ _ _ (by omega), hf2 a h1 h2 h3])) (by first | exact ou2 | exact ou3) (by first | exact hdN | exact hdO) (by omega)
                  · skip
                    refine g_aload_n rfl rfl ?_
                    refine g_getR rfl ms.1 (mr_outs ms) ?_
                    refine g_iload rfl rfl ?_
                    refine g_bipush rfl ?_
                    refine g_isub rfl (by omega) (by omega) ?_
                    refine g_bald (i := k - 10) rfl (mt_outs ms) (by omega) (by omega) ?_
                    refine g_top (v2 := aI (V2 (o + 23) (k - 10))) (congrArg aI (by rfl)) ?_
                    refine g_if_ne rfl (fun cq188 => ?_) (fun cq188 => ?_)
                    · skip
                      have hnb : V2 (o + 23) (k - 1) = 1 ∨ V2 (o + 23) (k + 1) = 1 ∨ V2 (o + 23) (k - 10) = 1 ∨ V2 (o + 23) (k + 10) = 1 := by
                        have v1 := hvk (k - 1) (by omega)
                        have v2 := hvk (k + 1) (by omega)
                        have v3 := hvk (k - 10) (by omega)
                        have v4 := hvk (k + 10) (by omega)
                        omega
                      have ou3 := ou2.set hk11 hk2 cq141.1 cq141.2.1 cq141.2.2 hnb
                      have hv0 : V2 (o + 23) k = 0 := by
                        have := hvk k (by omega)
                        omega
                      have hz := zcN_set (g := V2 (o + 23)) (g2 := vset V2 (o + 23) k 1 (o + 23)) (t := k) hv0 (vset_eq _ _ _ _) (fun j hj => vset_ne _ _ _ _ (by omega)) 100
                      rw [if_pos (show k < 100 by omega)] at hz
                      have hdN : ((1 : Int) = 0 → vset V2 (o + 23) k 1 (o + 23) = V1 (o + 23) ∧ ClM (vset V2 (o + 23) k 1) o f (k + 1)) ∧ ((1 : Int) = 1 → zcN (vset V2 (o + 23) k 1 (o + 23)) 100 + 1 ≤ zcN (V1 (o + 23)) 100) := by
                        refine ⟨fun q => absurd q (by decide), fun _ => ?_⟩
                        rcases hm2 with q | q
                        · have e := (hd2.1 q).1
                          rw [e] at hz
                          omega
                        · have := hd2.2 q
                          omega
                      refine g_aload_n rfl rfl ?_
                      refine g_getR rfl ms.1 (mr_outs ms) ?_
                      refine g_iload rfl rfl ?_
                      refine g_iconst rfl ?_
                      refine g_bast (i := k) rfl (mt_outs ms) (by omega) (by omega) (by exact Or.inr rfl) ?_
                      refine g_hp (h2 := hw h (vset V2 (o + 23) k 1)) rfl ?_
                      refine g_iconst rfl ?_
                      refine g_istore (l1 := [(4, aI 1), (6, aI (if 0 < k % 10 ∧ k % 10 < 9 ∧ f.testBit (8 * (k / 10 - 1) + k % 10 - 1) = false then 1 else 0)), (5, aI ((k : Int))), (0, aO (some o)), (1, aJ ((f : Int))), (3, aI ((n : Int)))]) rfl rfl ?_
                      first
                        | (have hdT := hdN)
                        | (
                           have hdO : (m2 = 0 → V2 (o + 23) = V1 (o + 23) ∧ ClM V2 o f (k + 1)) ∧ (m2 = 1 → zcN (V2 (o + 23)) 100 + 1 ≤ zcN (V1 (o + 23)) 100) := by
                             refine ⟨fun q => ⟨(hd2.1 q).1, fun j h1 h2 h3 h4 h5 h6 => ?_⟩, hd2.2⟩
                             by_cases e : j = k
                             · subst e
                               first
                                 | (exact absurd ⟨h3, h4, h5⟩ cq141)
                                 | (have := hvk j (by omega); omega)
                                 | (exfalso; omega)
                             · exact (hd2.1 q).2 j h1 (by omega) h3 h4 h5 h6)
                      refine g_iinc (l1 := [(5, aI ((k : Int) + 1)), (4, aI 1), (6, aI (if 0 < k % 10 ∧ k % 10 < 9 ∧ f.testBit (8 * (k / 10 - 1) + k % 10 - 1) = false then 1 else 0)), (0, aO (some o)), (1, aJ ((f : Int))), (3, aI ((n : Int)))]) rfl rfl (by omega) (by omega) rfl ?_
                      refine g_goto rfl ?_
                      refine g_ls [0, 1, 3, 4, 5] rfl rfl ?_
                      exact ih80 (k + 1) _ _ (by omega) (by omega) (by omega) (by first | exact hm2 | exact Or.inr rfl) (by first | exact hf2 | exact (fun a h1 h2 h3 => by funext z; rw [vset_ne _ _ _ _ (by omega), hf2 a h1 h2 h3])) (by first | exact ou2 | exact ou3) (by first | exact hdN | exact hdO) (by omega)
                    · skip
                      refine g_aload_n rfl rfl ?_
                      refine g_getR rfl ms.1 (mr_outs ms) ?_
                      refine g_iload rfl rfl ?_
                      refine g_bipush rfl ?_
                      refine g_iadd rfl (by omega) (by omega) ?_
                      refine g_bald (i := k + 10) rfl (mt_outs ms) (by omega) (by omega) ?_
                      refine g_top (v2 := aI (V2 (o + 23) (k + 10))) (congrArg aI (by rfl)) ?_
                      refine g_if_eq rfl (fun cq201 => ?_) (fun cq201 => ?_)
                      · skip
                        first
                          | (have hdT := hdN)
                          | (
                             have hdO : (m2 = 0 → V2 (o + 23) = V1 (o + 23) ∧ ClM V2 o f (k + 1)) ∧ (m2 = 1 → zcN (V2 (o + 23)) 100 + 1 ≤ zcN (V1 (o + 23)) 100) := by
                               refine ⟨fun q => ⟨(hd2.1 q).1, fun j h1 h2 h3 h4 h5 h6 => ?_⟩, hd2.2⟩
                               by_cases e : j = k
                               · subst e
                                 first
                                   | (exact absurd ⟨h3, h4, h5⟩ cq141)
                                   | (have := hvk j (by omega); omega)
                                   | (exfalso; omega)
                               · exact (hd2.1 q).2 j h1 (by omega) h3 h4 h5 h6)
                        refine g_iinc (l1 := [(5, aI ((k : Int) + 1)), (6, aI (if 0 < k % 10 ∧ k % 10 < 9 ∧ f.testBit (8 * (k / 10 - 1) + k % 10 - 1) = false then 1 else 0)), (4, aI m2), (0, aO (some o)), (1, aJ ((f : Int))), (3, aI ((n : Int)))]) rfl rfl (by omega) (by omega) rfl ?_
                        refine g_goto rfl ?_
                        refine g_ls [0, 2, 3, 4, 5] rfl rfl ?_
                        exact ih80 (k + 1) _ _ (by omega) (by omega) (by omega) (by first | exact hm2 | exact Or.inr rfl) (by first | exact hf2 | exact (fun a h1 h2 h3 => by funext z; rw [vset_ne _ _ _ _ (by omega), hf2 a h1 h2 h3])) (by first | exact ou2 | exact ou3) (by first | exact hdN | exact hdO) (by omega)
                      · skip
                        have hnb : V2 (o + 23) (k - 1) = 1 ∨ V2 (o + 23) (k + 1) = 1 ∨ V2 (o + 23) (k - 10) = 1 ∨ V2 (o + 23) (k + 10) = 1 := by
                          have v1 := hvk (k - 1) (by omega)
                          have v2 := hvk (k + 1) (by omega)
                          have v3 := hvk (k - 10) (by omega)
                          have v4 := hvk (k + 10) (by omega)
                          omega
                        have ou3 := ou2.set hk11 hk2 cq141.1 cq141.2.1 cq141.2.2 hnb
                        have hv0 : V2 (o + 23) k = 0 := by
                          have := hvk k (by omega)
                          omega
                        have hz := zcN_set (g := V2 (o + 23)) (g2 := vset V2 (o + 23) k 1 (o + 23)) (t := k) hv0 (vset_eq _ _ _ _) (fun j hj => vset_ne _ _ _ _ (by omega)) 100
                        rw [if_pos (show k < 100 by omega)] at hz
                        have hdN : ((1 : Int) = 0 → vset V2 (o + 23) k 1 (o + 23) = V1 (o + 23) ∧ ClM (vset V2 (o + 23) k 1) o f (k + 1)) ∧ ((1 : Int) = 1 → zcN (vset V2 (o + 23) k 1 (o + 23)) 100 + 1 ≤ zcN (V1 (o + 23)) 100) := by
                          refine ⟨fun q => absurd q (by decide), fun _ => ?_⟩
                          rcases hm2 with q | q
                          · have e := (hd2.1 q).1
                            rw [e] at hz
                            omega
                          · have := hd2.2 q
                            omega
                        refine g_aload_n rfl rfl ?_
                        refine g_getR rfl ms.1 (mr_outs ms) ?_
                        refine g_iload rfl rfl ?_
                        refine g_iconst rfl ?_
                        refine g_bast (i := k) rfl (mt_outs ms) (by omega) (by omega) (by exact Or.inr rfl) ?_
                        refine g_hp (h2 := hw h (vset V2 (o + 23) k 1)) rfl ?_
                        refine g_iconst rfl ?_
                        refine g_istore (l1 := [(4, aI 1), (6, aI (if 0 < k % 10 ∧ k % 10 < 9 ∧ f.testBit (8 * (k / 10 - 1) + k % 10 - 1) = false then 1 else 0)), (5, aI ((k : Int))), (0, aO (some o)), (1, aJ ((f : Int))), (3, aI ((n : Int)))]) rfl rfl ?_
                        first
                          | (have hdT := hdN)
                          | (
                             have hdO : (m2 = 0 → V2 (o + 23) = V1 (o + 23) ∧ ClM V2 o f (k + 1)) ∧ (m2 = 1 → zcN (V2 (o + 23)) 100 + 1 ≤ zcN (V1 (o + 23)) 100) := by
                               refine ⟨fun q => ⟨(hd2.1 q).1, fun j h1 h2 h3 h4 h5 h6 => ?_⟩, hd2.2⟩
                               by_cases e : j = k
                               · subst e
                                 first
                                   | (exact absurd ⟨h3, h4, h5⟩ cq141)
                                   | (have := hvk j (by omega); omega)
                                   | (exfalso; omega)
                               · exact (hd2.1 q).2 j h1 (by omega) h3 h4 h5 h6)
                        refine g_iinc (l1 := [(5, aI ((k : Int) + 1)), (4, aI 1), (6, aI (if 0 < k % 10 ∧ k % 10 < 9 ∧ f.testBit (8 * (k / 10 - 1) + k % 10 - 1) = false then 1 else 0)), (0, aO (some o)), (1, aJ ((f : Int))), (3, aI ((n : Int)))]) rfl rfl (by omega) (by omega) rfl ?_
                        refine g_goto rfl ?_
                        refine g_ls [0, 1, 3, 4, 5] rfl rfl ?_
                        exact ih80 (k + 1) _ _ (by omega) (by omega) (by omega) (by first | exact hm2 | exact Or.inr rfl) (by first | exact hf2 | exact (fun a h1 h2 h3 => by funext z; rw [vset_ne _ _ _ _ (by omega), hf2 a h1 h2 h3])) (by first | exact ou2 | exact ou3) (by first | exact hdN | exact hdO) (by omega)
          refine g_iload rfl rfl ?_
          refine g_bipush rfl ?_
          refine g_icmp_ge rfl (fun cq84 => ?_) (fun cq84 => ?_)
          · skip
            refine g_goto rfl ?_
            refine g_ls [1, 2, 3, 4] rfl rfl ?_
            exact ih68 _ _ (by exact hm2) (by exact hf2) (by exact ou2) (by 
                                                                                                                                                                                                                                                                                                                                                                                                                intro q
                                                                                                                                                                                                                                                                                                                                                                                                                have e2 := (hd2.1 q).1
                                                                                                                                                                                                                                                                                                                                                                                                                have e89 : k = 89 := by omega
                                                                                                                                                                                                                                                                                                                                                                                                                subst e89
                                                                                                                                                                                                                                                                                                                                                                                                                exact (hd2.1 q).2) (by 
                                                                                                                                                                                                                                                                                                                                                                                                                rcases hm2 with q | q
                                                                                                                                                                                                                                                                                                                                                                                                                · have e2 := (hd2.1 q).1
                                                                                                                                                                                                                                                                                                                                                                                                                  have hz : zcN (V2 (o + 23)) 100 = zcN (V1 (o + 23)) 100 := zcN_co (fun j hj => by rw [e2])
                                                                                                                                                                                                                                                                                                                                                                                                                  rw [hz, q]
                                                                                                                                                                                                                                                                                                                                                                                                                  omega
                                                                                                                                                                                                                                                                                                                                                                                                                · have hz := hd2.2 q
                                                                                                                                                                                                                                                                                                                                                                                                                  rw [q]
                                                                                                                                                                                                                                                                                                                                                                                                                  omega)
          · skip
            refine g_iload rfl rfl ?_
            refine g_bipush rfl ?_
            refine g_iremN (m := 10) (n := k) rfl (by omega) ?_
            refine g_if_le rfl (fun cq92 => ?_) (fun cq92 => ?_)
            · skip
              refine g_iconst rfl ?_
              refine g_top (v2 := aI (if 0 < k % 10 ∧ k % 10 < 9 ∧ f.testBit (8 * (k / 10 - 1) + k % 10 - 1) = false then 1 else 0)) (congrArg aI (bi_f (by first | exact ⟨by omega, by omega, bit_z cq128⟩ | (intro q; omega) | (intro q; exact bit_n cq128 q.2.2)))) ?_
              exact j137 (by omega)
            · skip
              refine g_iload rfl rfl ?_
              refine g_bipush rfl ?_
              refine g_iremN (m := 10) (n := k) rfl (by omega) ?_
              refine g_bipush rfl ?_
              refine g_icmp_ge rfl (fun cq102 => ?_) (fun cq102 => ?_)
              · skip
                refine g_iconst rfl ?_
                refine g_top (v2 := aI (if 0 < k % 10 ∧ k % 10 < 9 ∧ f.testBit (8 * (k / 10 - 1) + k % 10 - 1) = false then 1 else 0)) (congrArg aI (bi_f (by first | exact ⟨by omega, by omega, bit_z cq128⟩ | (intro q; omega) | (intro q; exact bit_n cq128 q.2.2)))) ?_
                exact j137 (by omega)
              · skip
                refine g_lload_n rfl rfl ?_
                refine g_bipush rfl ?_
                refine g_iload rfl rfl ?_
                refine g_bipush rfl ?_
                refine g_idivN (m := 10) (n := k) rfl (by omega) (by omega) ?_
                refine g_iconst rfl ?_
                refine g_isub rfl (by omega) (by omega) ?_
                refine g_imul rfl (by omega) (by omega) ?_
                refine g_iload rfl rfl ?_
                refine g_bipush rfl ?_
                refine g_iremN (m := 10) (n := k) rfl (by omega) ?_
                refine g_iadd rfl (by omega) (by omega) ?_
                refine g_iconst rfl ?_
                refine g_isub rfl (by omega) (by omega) ?_
                refine g_lshr rfl ?_
                refine g_lconst1 rfl ?_
                refine g_land rfl ?_
                refine g_top (v2 := aJ ((if f.testBit (8 * (k / 10 - 1) + k % 10 - 1) = true then 1 else 0))) (congrArg aJ (by exact hol_bit f hk11 (by omega) (by omega))) ?_
                refine g_lconst0 rfl ?_
                refine g_lc_ne rfl rfl (fun cq128 => ?_) (fun cq128 => ?_)
                · skip
                  refine g_iconst rfl ?_
                  refine g_top (v2 := aI (if 0 < k % 10 ∧ k % 10 < 9 ∧ f.testBit (8 * (k / 10 - 1) + k % 10 - 1) = false then 1 else 0)) (congrArg aI (bi_f (by first | exact ⟨by omega, by omega, bit_z cq128⟩ | (intro q; omega) | (intro q; exact bit_n cq128 q.2.2)))) ?_
                  exact j137 (by omega)
                · skip
                  refine g_iconst rfl ?_
                  refine g_goto rfl ?_
                  refine g_top (v2 := aI (if 0 < k % 10 ∧ k % 10 < 9 ∧ f.testBit (8 * (k / 10 - 1) + k % 10 - 1) = false then 1 else 0)) (congrArg aI (bi_t (by first | exact ⟨by omega, by omega, bit_z cq128⟩ | (intro q; omega) | (intro q; exact bit_n cq128 q.2.2)))) ?_
                  exact j137 (by omega)
      refine g_iload rfl rfl ?_
      refine g_if_eq rfl (fun cq70 => ?_) (fun cq70 => ?_)
      · skip
        refine g_iconst rfl ?_
        refine g_istore (l1 := [(5, aI 0), (4, aI m), (0, aO (some o)), (1, aJ ((f : Int))), (3, aI ((n : Int)))]) rfl rfl ?_
        refine g_iconst rfl ?_
        refine g_istore (l1 := [(6, aI 0), (5, aI 0), (4, aI m), (0, aO (some o)), (1, aJ ((f : Int))), (3, aI ((n : Int)))]) rfl rfl ?_
        refine g_ls [0, 1, 3, 4, 5] rfl rfl ?_
        exact l230 V1 (by exact hf1) (by exact ou1) (by exact cm1 (by omega)) _ 0 0 (by omega) (by rfl) (Nat.lt_succ_self _)
      · skip
        refine g_iconst rfl ?_
        refine g_istore (l1 := [(4, aI 0), (0, aO (some o)), (1, aJ ((f : Int))), (3, aI ((n : Int)))]) rfl rfl ?_
        refine g_bipush rfl ?_
        refine g_istore (l1 := [(5, aI 11), (4, aI 0), (0, aO (some o)), (1, aJ ((f : Int))), (3, aI ((n : Int)))]) rfl rfl ?_
        exact l80 _ 11 _ _ (by omega) (by omega) (by omega) (by exact Or.inl rfl) (by exact hf1) (by exact ou1) (by exact ⟨fun _ => ⟨rfl, fun k h1 h2 => by omega⟩, fun q => absurd q (by decide)⟩) (Nat.lt_succ_self _)
  have l8 : ∀ (fuel : Nat) (k : Nat) (V1 : Nat → Nat → Int), (k ≤ 100) → (∀ a, a ≠ o + 21 → a ≠ o + 22 → a ≠ o + 23 → V1 a = V a) → (∀ j < k, (brd j ∧ V1 (o + 23) j = 1) ∨ (¬ brd j ∧ V1 (o + 23) j = 0)) → 100 - k < fuel → Wk w d cd_X12_hasHole 8 [(4, aI ((k : Int))), (0, aO (some o)), (1, aJ ((f : Int))), (3, aI ((n : Int)))] [] (hw h V1) (RI (fun r h1 => ∃ V1, h1 = hw h V1 ∧ (∀ a, a ≠ o + 21 → a ≠ o + 22 → a ≠ o + 23 → V1 a = V a) ∧ r = if hoR f n = true then 1 else 0)) := by
    intro fuel
    induction fuel with
    | zero => intros; omega
    | succ fuel ih8 =>
      intro k V1 hk hf1 hv1 hfuel
      refine g_iload rfl rfl ?_
      refine g_bipush rfl ?_
      refine g_icmp_ge rfl (fun cq12 => ?_) (fun cq12 => ?_)
      · skip
        have hou : OU V1 o f := by
          refine ⟨fun j hj => ?_, fun j hj hb => ?_, fun j hj hv => ?_⟩
          · rcases hv1 j (by omega) with q | q
            · exact Or.inr q.2
            · exact Or.inl q.2
          · rcases hv1 j (by omega) with q | q
            · exact q.2
            · exact absurd hb q.1
          · rcases hv1 j (by omega) with q | q
            · exact fun C hC _ => hC j hj q.1
            · omega
        refine g_iconst rfl ?_
        refine g_istore (l1 := [(4, aI 1), (0, aO (some o)), (1, aJ ((f : Int))), (3, aI ((n : Int)))]) rfl rfl ?_
        exact l68 _ 1 _ (by exact Or.inr rfl) (by exact hf1) (by exact hou) (by intro q; omega) (Nat.lt_succ_self _)
      · skip
        refine g_aload_n rfl rfl ?_
        refine g_getR rfl ms.1 (mr_outs ms) ?_
        refine g_iload rfl rfl ?_
        refine g_iload rfl rfl ?_
        refine g_bipush rfl ?_
        refine g_icmp_lt rfl (fun cq25 => ?_) (fun cq25 => ?_)
        · skip
          refine g_iconst rfl ?_
          refine g_goto rfl ?_
          refine g_bast (i := k) rfl (mt_outs ms) (by omega) (by omega) (by first | exact Or.inl rfl | exact Or.inr rfl) ?_
          refine g_hp (h2 := hw h (vset V1 (o + 23) k 1)) rfl ?_
          refine g_iinc (l1 := [(4, aI ((k : Int) + 1)), (0, aO (some o)), (1, aJ ((f : Int))), (3, aI ((n : Int)))]) rfl rfl (by omega) (by omega) rfl ?_
          refine g_goto rfl ?_
          exact ih8 (k + 1) _ (by omega) (by exact fun a h1 h2 h3 => by funext z; rw [vset_ne _ _ _ _ (by omega), hf1 a h1 h2 h3]) (by exact fun j hj => if e : j = k then (by subst e; rw [vset_eq]; first | exact Or.inl ⟨by unfold brd; omega, rfl⟩ | exact Or.inr ⟨by unfold brd; omega, rfl⟩) else (by rw [vset_ne _ _ _ _ (by omega)]; exact hv1 j (by omega))) (by omega)
        · skip
          refine g_iload rfl rfl ?_
          refine g_bipush rfl ?_
          refine g_icmp_ge rfl (fun cq32 => ?_) (fun cq32 => ?_)
          · skip
            refine g_iconst rfl ?_
            refine g_goto rfl ?_
            refine g_bast (i := k) rfl (mt_outs ms) (by omega) (by omega) (by first | exact Or.inl rfl | exact Or.inr rfl) ?_
            refine g_hp (h2 := hw h (vset V1 (o + 23) k 1)) rfl ?_
            refine g_iinc (l1 := [(4, aI ((k : Int) + 1)), (0, aO (some o)), (1, aJ ((f : Int))), (3, aI ((n : Int)))]) rfl rfl (by omega) (by omega) rfl ?_
            refine g_goto rfl ?_
            exact ih8 (k + 1) _ (by omega) (by exact fun a h1 h2 h3 => by funext z; rw [vset_ne _ _ _ _ (by omega), hf1 a h1 h2 h3]) (by exact fun j hj => if e : j = k then (by subst e; rw [vset_eq]; first | exact Or.inl ⟨by unfold brd; omega, rfl⟩ | exact Or.inr ⟨by unfold brd; omega, rfl⟩) else (by rw [vset_ne _ _ _ _ (by omega)]; exact hv1 j (by omega))) (by omega)
          · skip
            refine g_iload rfl rfl ?_
            refine g_bipush rfl ?_
            refine g_iremN (m := 10) (n := k) rfl (by omega) ?_
            refine g_if_eq rfl (fun cq40 => ?_) (fun cq40 => ?_)
            · skip
              refine g_iconst rfl ?_
              refine g_goto rfl ?_
              refine g_bast (i := k) rfl (mt_outs ms) (by omega) (by omega) (by first | exact Or.inl rfl | exact Or.inr rfl) ?_
              refine g_hp (h2 := hw h (vset V1 (o + 23) k 1)) rfl ?_
              refine g_iinc (l1 := [(4, aI ((k : Int) + 1)), (0, aO (some o)), (1, aJ ((f : Int))), (3, aI ((n : Int)))]) rfl rfl (by omega) (by omega) rfl ?_
              refine g_goto rfl ?_
              exact ih8 (k + 1) _ (by omega) (by exact fun a h1 h2 h3 => by funext z; rw [vset_ne _ _ _ _ (by omega), hf1 a h1 h2 h3]) (by exact fun j hj => if e : j = k then (by subst e; rw [vset_eq]; first | exact Or.inl ⟨by unfold brd; omega, rfl⟩ | exact Or.inr ⟨by unfold brd; omega, rfl⟩) else (by rw [vset_ne _ _ _ _ (by omega)]; exact hv1 j (by omega))) (by omega)
            · skip
              refine g_iload rfl rfl ?_
              refine g_bipush rfl ?_
              refine g_iremN (m := 10) (n := k) rfl (by omega) ?_
              refine g_bipush rfl ?_
              refine g_icmp_ne rfl (fun cq50 => ?_) (fun cq50 => ?_)
              · skip
                refine g_iconst rfl ?_
                refine g_bast (i := k) rfl (mt_outs ms) (by omega) (by omega) (by first | exact Or.inl rfl | exact Or.inr rfl) ?_
                refine g_hp (h2 := hw h (vset V1 (o + 23) k 0)) rfl ?_
                refine g_iinc (l1 := [(4, aI ((k : Int) + 1)), (0, aO (some o)), (1, aJ ((f : Int))), (3, aI ((n : Int)))]) rfl rfl (by omega) (by omega) rfl ?_
                refine g_goto rfl ?_
                exact ih8 (k + 1) _ (by omega) (by exact fun a h1 h2 h3 => by funext z; rw [vset_ne _ _ _ _ (by omega), hf1 a h1 h2 h3]) (by exact fun j hj => if e : j = k then (by subst e; rw [vset_eq]; first | exact Or.inl ⟨by unfold brd; omega, rfl⟩ | exact Or.inr ⟨by unfold brd; omega, rfl⟩) else (by rw [vset_ne _ _ _ _ (by omega)]; exact hv1 j (by omega))) (by omega)
              · skip
                refine g_iconst rfl ?_
                refine g_goto rfl ?_
                refine g_bast (i := k) rfl (mt_outs ms) (by omega) (by omega) (by first | exact Or.inl rfl | exact Or.inr rfl) ?_
                refine g_hp (h2 := hw h (vset V1 (o + 23) k 1)) rfl ?_
                refine g_iinc (l1 := [(4, aI ((k : Int) + 1)), (0, aO (some o)), (1, aJ ((f : Int))), (3, aI ((n : Int)))]) rfl rfl (by omega) (by omega) rfl ?_
                refine g_goto rfl ?_
                exact ih8 (k + 1) _ (by omega) (by exact fun a h1 h2 h3 => by funext z; rw [vset_ne _ _ _ _ (by omega), hf1 a h1 h2 h3]) (by exact fun j hj => if e : j = k then (by subst e; rw [vset_eq]; first | exact Or.inl ⟨by unfold brd; omega, rfl⟩ | exact Or.inr ⟨by unfold brd; omega, rfl⟩) else (by rw [vset_ne _ _ _ _ (by omega)]; exact hv1 j (by omega))) (by omega)
  refine g_aload_n rfl rfl ?_
  refine g_lload_n rfl rfl ?_
  refine g_callVN [aJ ((f : Int))] [] rfl rfl rfl rfl (Nat.le_of_ble_eq_true rfl) ms.1 (m_cellsOf (by omega) ms V f (by omega)) ?_
  rintro _ ⟨V0, rfl, hf0, cl0⟩
  refine g_iconst rfl ?_
  refine g_istore (l1 := [(4, aI 0), (0, aO (some o)), (1, aJ ((f : Int))), (3, aI ((n : Int)))]) rfl rfl ?_
  exact l8 _ 0 _ (by omega) (by exact fun a h1 h2 h3 => hf0 a h1 h2) (by exact fun j hj => by omega) (Nat.lt_succ_self _)
