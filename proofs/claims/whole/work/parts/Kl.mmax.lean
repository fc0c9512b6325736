/-! widest (printed by wip/whole/ge_.py) -/
/-- the greatest square so far, by the greater corner -/
def gMy (S : aS) (p i j : Nat) (g : Int) : Prop := (∀ a b, a < b → (b < i ∨ (b = i ∧ a < j)) → gQ S p a b ≤ g) ∧ (g = 0 ∨ ∃ a b, a < b ∧ b ≤ i ∧ b < sGn S p ∧ g = gQ S p a b) ∧ 0 ≤ g
theorem gMy_up {S : aS} {p i j : Nat} {g q : Int} (h : gMy S p i j g) (hj : j < i ∧ i < sGn S p) (hq : q = gQ S p j i ∧ g < q) : gMy S p i (j + 1) q := by
  obtain ⟨h1, h2, h3⟩ := h
  refine ⟨fun a b x z => ?_, Or.inr ⟨j, i, hj.1, Nat.le_refl _, hj.2, hq.1⟩, by omega⟩
  by_cases e : a = j ∧ b = i
  · rw [e.1, e.2, ← hq.1]
    omega
  · have := h1 a b x (by omega)
    omega
theorem gMy_st {S : aS} {p i j : Nat} {g : Int} (h : gMy S p i j g) (hj : j < i ∧ i < sGn S p) (hq : gQ S p j i ≤ g) : gMy S p i (j + 1) g := by
  obtain ⟨h1, h2, h3⟩ := h
  refine ⟨fun a b x z => ?_, h2, h3⟩
  by_cases e : a = j ∧ b = i
  · rw [e.1, e.2]
    exact hq
  · exact h1 a b x (by omega)
theorem gMy_row {S : aS} {p i j : Nat} {g : Int} (h : gMy S p i j g) (hj : i ≤ j) : gMy S p (i + 1) 0 g := by
  refine ⟨fun a b x z => h.1 a b x (by omega), ?_, h.2.2⟩
  rcases h.2.1 with e | ⟨a, b, x, y, z, e⟩
  · exact Or.inl e
  · exact Or.inr ⟨a, b, x, by omega, z, e⟩
theorem gMy_mx {S : aS} {p : Nat} {g : Int} (h : gMy S p (sGn S p) 0 g) : gMx S p (sGn S p) (sGn S p) 0 g := by
  refine ⟨fun a b x y z => h.1 a b x (by omega), ?_, h.2.2⟩
  rcases h.2.1 with e | ⟨a, b, x, y, z, e⟩
  · exact Or.inl e
  · exact Or.inr ⟨a, b, x, z, e⟩
set_option maxRecDepth 100000 in
theorem m_pgMax {w : aW} {d : Nat} (hd : 2 ≤ d) {h : aH} {o : Nat} (ms : MS h o) (V : Nat → Nat → Int) {S : aS} (mg : MG V o S) (ok : OkG S) (p : Nat) (hp : p < sG S) : WP w d 348 [aO (some o), aI ((p : Int))] (hw h V) (RJ (fun r h1 => h1 = hw h V ∧ gMx S p (sGn S p) (sGn S p) 0 r)) := by
  obtain ⟨d, rfl⟩ : ∃ d1, d = d1 + 1 := ⟨d - 1, by omega⟩
  refine WP.enter (cd := cd_X12_widest) rfl ?_
  have hok := ok.1
  have hok2 := (ok.2 p hp).1
  have hls : largs 0 [aO (some o), aI ((p : Int))] = [(0, aO (some o)), (1, aI ((p : Int)))] := rfl
  rw [hls]
  clear hls
  have l5 : ∀ (fuel : Nat) (i : Nat) (g : Int), (i ≤ sGn S p) → (gMy S p i 0 g) → sGn S p - i < fuel → Wk w d cd_X12_widest 5 [(4, aI ((i : Int))), (2, aJ g), (0, aO (some o)), (1, aI ((p : Int)))] [] (hw h V) (RJ (fun r h1 => h1 = hw h V ∧ gMx S p (sGn S p) (sGn S p) 0 r)) := by
    intro fuel
    induction fuel with
    | zero => intros; omega
    | succ fuel ih5 =>
      intro i g hi hg hfuel
      have hok := ok.1
      have hok2 := (ok.2 p hp).1
      have l19 : ∀ (fuel : Nat) (j : Nat) (g : Int), (j ≤ i) → (i < sGn S p) → (gMy S p i j g) → i - j < fuel → Wk w d cd_X12_widest 19 [(5, aI ((j : Int))), (4, aI ((i : Int))), (2, aJ g), (0, aO (some o)), (1, aI ((p : Int)))] [] (hw h V) (RJ (fun r h1 => h1 = hw h V ∧ gMx S p (sGn S p) (sGn S p) 0 r)) := by
        intro fuel
        induction fuel with
        | zero => intros; omega
        | succ fuel ih19 =>
          intro j g hj hil hg hfuel
          refine g_iload rfl rfl ?_
          refine g_iload rfl rfl ?_
          refine g_icmp_ge rfl (fun cq23 => ?_) (fun cq23 => ?_)
          · skip
            refine g_iinc (l1 := [(4, aI ((i : Int) + 1)), (5, aI ((j : Int))), (2, aJ g), (0, aO (some o)), (1, aI ((p : Int)))]) rfl rfl (by omega) (by omega) rfl ?_
            refine g_goto rfl ?_
            refine g_ls [0, 2, 3, 4] rfl rfl ?_
            exact ih5 (i + 1) _ (by omega) (by exact gMy_row hg (by omega)) (by omega)
          · skip
            have bx := ok.x hp (i := i) (by omega)
            have by_ := ok.y hp (i := i) (by omega)
            have cx := ok.x hp (i := j) (by omega)
            have cy := ok.y hp (i := j) (by omega)
            have m1 := mul2k (x := gx S p i - gx S p j) (y := gx S p i - gx S p j) (by omega) (by omega)
            have m2 := mul2k (x := gy S p i - gy S p j) (y := gy S p i - gy S p j) (by omega) (by omega)
            refine g_aload_n rfl rfl ?_
            refine g_getR rfl ms.1 (mr_px ms) ?_
            refine g_bipush rfl ?_
            refine g_iload_n rfl rfl ?_
            refine g_imul rfl (by omega) (by omega) ?_
            refine g_iload rfl rfl ?_
            refine g_iadd rfl (by omega) (by omega) ?_
            refine g_iald (i := (12 * p) + i) rfl (mt_px ms) (by omega) (by omega) ?_
            refine g_top (v2 := aI (gx S p i)) (congrArg aI (by exact ((mg.2 p hp).2 i (by omega)).1)) ?_
            refine g_aload_n rfl rfl ?_
            refine g_getR rfl ms.1 (mr_px ms) ?_
            refine g_bipush rfl ?_
            refine g_iload_n rfl rfl ?_
            refine g_imul rfl (by omega) (by omega) ?_
            refine g_iload rfl rfl ?_
            refine g_iadd rfl (by omega) (by omega) ?_
            refine g_iald (i := (12 * p) + j) rfl (mt_px ms) (by omega) (by omega) ?_
            refine g_top (v2 := aI (gx S p j)) (congrArg aI (by exact ((mg.2 p hp).2 j (by omega)).1)) ?_
            refine g_isub rfl (by omega) (by omega) ?_
            refine g_i2l rfl ?_
            refine g_lstore (l1 := [(6, aJ ((gx S p i) - (gx S p j))), (5, aI ((j : Int))), (4, aI ((i : Int))), (2, aJ g), (0, aO (some o)), (1, aI ((p : Int)))]) rfl rfl ?_
            refine g_aload_n rfl rfl ?_
            refine g_getR rfl ms.1 (mr_py ms) ?_
            refine g_bipush rfl ?_
            refine g_iload_n rfl rfl ?_
            refine g_imul rfl (by omega) (by omega) ?_
            refine g_iload rfl rfl ?_
            refine g_iadd rfl (by omega) (by omega) ?_
            refine g_iald (i := (12 * p) + i) rfl (mt_py ms) (by omega) (by omega) ?_
            refine g_top (v2 := aI (gy S p i)) (congrArg aI (by exact ((mg.2 p hp).2 i (by omega)).2)) ?_
            refine g_aload_n rfl rfl ?_
            refine g_getR rfl ms.1 (mr_py ms) ?_
            refine g_bipush rfl ?_
            refine g_iload_n rfl rfl ?_
            refine g_imul rfl (by omega) (by omega) ?_
            refine g_iload rfl rfl ?_
            refine g_iadd rfl (by omega) (by omega) ?_
            refine g_iald (i := (12 * p) + j) rfl (mt_py ms) (by omega) (by omega) ?_
            refine g_top (v2 := aI (gy S p j)) (congrArg aI (by exact ((mg.2 p hp).2 j (by omega)).2)) ?_
            refine g_isub rfl (by omega) (by omega) ?_
            refine g_i2l rfl ?_
            refine g_lstore (l1 := [(8, aJ ((gy S p i) - (gy S p j))), (6, aJ ((gx S p i) - (gx S p j))), (5, aI ((j : Int))), (4, aI ((i : Int))), (2, aJ g), (0, aO (some o)), (1, aI ((p : Int)))]) rfl rfl ?_
            refine g_lload rfl rfl ?_
            refine g_lload rfl rfl ?_
            refine g_lmul rfl (by omega) (by omega) ?_
            refine g_lload rfl rfl ?_
            refine g_lload rfl rfl ?_
            refine g_lmul rfl (by omega) (by omega) ?_
            refine g_ladd rfl (by omega) (by omega) ?_
            refine g_lload_n rfl rfl ?_
            refine g_lc_le rfl rfl (fun cq94 => ?_) (fun cq94 => ?_)
            · skip
              refine g_lload_n rfl rfl ?_
              refine g_lstore_n (l1 := [(2, aJ g), (8, aJ ((gy S p i) - (gy S p j))), (6, aJ ((gx S p i) - (gx S p j))), (5, aI ((j : Int))), (4, aI ((i : Int))), (0, aO (some o)), (1, aI ((p : Int)))]) rfl rfl ?_
              refine g_iinc (l1 := [(5, aI ((j : Int) + 1)), (2, aJ g), (8, aJ ((gy S p i) - (gy S p j))), (6, aJ ((gx S p i) - (gx S p j))), (4, aI ((i : Int))), (0, aO (some o)), (1, aI ((p : Int)))]) rfl rfl (by omega) (by omega) rfl ?_
              refine g_goto rfl ?_
              refine g_ls [0, 4, 1, 5, 6] rfl rfl ?_
              exact ih19 (j + 1) _ (by omega) (by omega) (by 
                                                                                                                                                                                                                                                                                                                                                                                                                first
                                                                                                                                                                                                                                                                                                                                                                                                                | (refine gMy_up hg ⟨by omega, by omega⟩ ?_; unfold gQ; omega)
                                                                                                                                                                                                                                                                                                                                                                                                                | (refine gMy_st hg ⟨by omega, by omega⟩ ?_; unfold gQ; omega)) (by omega)
            · skip
              refine g_lload rfl rfl ?_
              refine g_lload rfl rfl ?_
              refine g_lmul rfl (by omega) (by omega) ?_
              refine g_lload rfl rfl ?_
              refine g_lload rfl rfl ?_
              refine g_lmul rfl (by omega) (by omega) ?_
              refine g_ladd rfl (by omega) (by omega) ?_
              refine g_goto rfl ?_
              refine g_lstore_n (l1 := [(2, aJ ((((gx S p i) - (gx S p j)) * ((gx S p i) - (gx S p j))) + (((gy S p i) - (gy S p j)) * ((gy S p i) - (gy S p j))))), (8, aJ ((gy S p i) - (gy S p j))), (6, aJ ((gx S p i) - (gx S p j))), (5, aI ((j : Int))), (4, aI ((i : Int))), (0, aO (some o)), (1, aI ((p : Int)))]) rfl rfl ?_
              refine g_iinc (l1 := [(5, aI ((j : Int) + 1)), (2, aJ ((((gx S p i) - (gx S p j)) * ((gx S p i) - (gx S p j))) + (((gy S p i) - (gy S p j)) * ((gy S p i) - (gy S p j))))), (8, aJ ((gy S p i) - (gy S p j))), (6, aJ ((gx S p i) - (gx S p j))), (4, aI ((i : Int))), (0, aO (some o)), (1, aI ((p : Int)))]) rfl rfl (by omega) (by omega) rfl ?_
              refine g_goto rfl ?_
              refine g_ls [0, 4, 1, 5, 6] rfl rfl ?_
              exact ih19 (j + 1) _ (by omega) (by omega) (by 
                                                                                                                                                                                                                                                                                                                                                                                                                first
                                                                                                                                                                                                                                                                                                                                                                                                                | (refine gMy_up hg ⟨by omega, by omega⟩ ?_; unfold gQ; omega)
                                                                                                                                                                                                                                                                                                                                                                                                                | (refine gMy_st hg ⟨by omega, by omega⟩ ?_; unfold gQ; omega)) (by omega)
      refine g_iload rfl rfl ?_
      refine g_aload_n rfl rfl ?_
      refine g_getR rfl ms.1 (mr_corners ms) ?_
      refine g_iload_n rfl rfl ?_
      refine g_iald (i := p) rfl (mt_corners ms) (by omega) (by omega) ?_
      refine g_top (v2 := aI ((sGn S p : Int))) (congrArg aI (by exact (mg.2 p hp).1)) ?_
      refine g_icmp_ge rfl (fun cq13 => ?_) (fun cq13 => ?_)
      · skip
        refine g_lload_n rfl rfl ?_
        refine g_lret rfl ?_
        refine ⟨rfl, gMy_mx ?_⟩
        rw [show sGn S p = i by omega]
        exact hg
      · skip
        refine g_iconst rfl ?_
        refine g_istore (l1 := [(5, aI 0), (4, aI ((i : Int))), (2, aJ g), (0, aO (some o)), (1, aI ((p : Int)))]) rfl rfl ?_
        exact l19 _ 0 _ (by omega) (by omega) (by exact hg) (Nat.lt_succ_self _)
  refine g_lconst0 rfl ?_
  refine g_lstore_n (l1 := [(2, aJ 0), (0, aO (some o)), (1, aI ((p : Int)))]) rfl rfl ?_
  refine g_iconst rfl ?_
  refine g_istore (l1 := [(4, aI 0), (2, aJ 0), (0, aO (some o)), (1, aI ((p : Int)))]) rfl rfl ?_
  exact l5 _ 0 _ (by omega) (by exact ⟨fun a b x z => by omega, Or.inl rfl, by omega⟩) (Nat.lt_succ_self _)
