/-! isIn (printed by wip/whole/ge_.py) -/
abbrev mWon (S : aS) (p : Nat) (x y w : Int) (i : Nat) : Prop := (gx S p i * w - x) * (gy S p (gAft S p i) * w - y) - (gy S p i * w - y) * (gx S p (gAft S p i) * w - x) = 0 ∧ ¬ oneS (gx S p i * w - x) (gx S p (gAft S p i) * w - x) ∧ ¬ oneS (gy S p i * w - y) (gy S p (gAft S p i) * w - y)
abbrev mWt (S : aS) (p : Nat) (x y w : Int) (i : Nat) : Prop := ((gy S p i * w - y ≤ 0 ∧ 0 < gy S p (gAft S p i) * w - y) ∧ 0 < (gx S p i * w - x) * (gy S p (gAft S p i) * w - y) - (gy S p i * w - y) * (gx S p (gAft S p i) * w - x)) ∨ ((gy S p (gAft S p i) * w - y ≤ 0 ∧ 0 < gy S p i * w - y) ∧ (gx S p i * w - x) * (gy S p (gAft S p i) * w - y) - (gy S p i * w - y) * (gx S p (gAft S p i) * w - x) < 0)
theorem mw_t (S : aS) (p : Nat) (x y w : Int) (i : Nat) : (gx S p i * w - x) * (gy S p (gAft S p i) * w - y) - (gy S p i * w - y) * (gx S p (gAft S p i) * w - x) = w * gWs S p x y w i := by
  unfold gWs
  grind
theorem mw_on {S : aS} {p : Nat} {x y w : Int} (hw : 0 < w) (i : Nat) : mWon S p x y w i ↔ gWon S p x y w i := by
  unfold mWon gWon
  rw [mw_t, (sg_pos hw _).2]
  unfold oneS
  constructor
  · rintro ⟨h1, h2, h3⟩
    exact ⟨h1, by omega, by omega⟩
  · rintro ⟨h1, h2, h3⟩
    exact ⟨h1, by omega, by omega⟩
theorem mw_tog {S : aS} {p : Nat} {x y w : Int} (hw : 0 < w) (i : Nat) (hn : ¬ gWon S p x y w i) : mWt S p x y w i ↔ gWt S p x y w i := by
  have h1 := sg_pos hw (gWs S p x y w i)
  have h2 : 0 < w * gWs S p x y w i ↔ 0 < gWs S p x y w i := by
    have a := h1.1
    have b := h1.2
    omega
  have hx : gWs S p x y w i = 0 → ¬((0 < gy S p i * w - y ∧ gy S p (gAft S p i) * w - y ≤ 0) ∨ (gy S p i * w - y ≤ 0 ∧ 0 < gy S p (gAft S p i) * w - y)) := by
    intro e z
    have ht := mw_t S p x y w i
    rw [e, Int.mul_zero] at ht
    refine hn ⟨e, ?_, ?_⟩
    · have k : ¬ oneS (gx S p i * w - x) (gx S p (gAft S p i) * w - x) := by
        generalize gx S p i * w - x = a1 at ht ⊢
        generalize gx S p (gAft S p i) * w - x = b1 at ht ⊢
        generalize gy S p i * w - y = a2 at ht z
        generalize gy S p (gAft S p i) * w - y = b2 at ht z
        rintro (⟨o1, o2⟩ | ⟨o1, o2⟩)
        · rcases z with ⟨z1, z2⟩ | ⟨z1, z2⟩
          · have q1 := Int.mul_nonneg_of_nonpos_of_nonpos (Int.le_of_lt o1) z2
            have q2 := Int.mul_neg_of_pos_of_neg z1 o2
            omega
          · have q1 := Int.mul_neg_of_neg_of_pos o1 z2
            have q2 := Int.mul_nonneg_of_nonpos_of_nonpos z1 (Int.le_of_lt o2)
            omega
        · rcases z with ⟨z1, z2⟩ | ⟨z1, z2⟩
          · have q1 := Int.mul_nonpos_of_nonneg_of_nonpos (Int.le_of_lt o1) z2
            have q2 := Int.mul_pos z1 o2
            omega
          · have q1 := Int.mul_pos o1 z2
            have q2 := Int.mul_nonpos_of_nonpos_of_nonneg z1 (Int.le_of_lt o2)
            omega
      unfold oneS at k ⊢
      omega
    · unfold oneS
      omega
  unfold mWt gWt
  rw [mw_t]
  have h3 := h1.1
  omega
set_option maxRecDepth 100000 in
theorem m_pgWhere {w : aW} {d : Nat} (hd : 3 ≤ d) {h : aH} {o : Nat} (ms : MS h o) (V : Nat → Nat → Int) {S : aS} (mg : MG V o S) (ok : OkG S) (p : Nat) (hp : p < sG S) (x y w1 : Int) (hx : -1048576 ≤ x ∧ x ≤ 1048576) (hy : -1048576 ≤ y ∧ y ≤ 1048576) (hw1 : 0 < w1 ∧ w1 ≤ 1048576) : WP w d 347 [aO (some o), aI ((p : Int)), aJ x, aJ y, aJ w1] (hw h V) (RI (fun r h1 => h1 = hw h V ∧ r = gWh S p x y w1)) := by
  obtain ⟨d, rfl⟩ : ∃ d1, d = d1 + 1 := ⟨d - 1, by omega⟩
  refine WP.enter (cd := cd_X12_isIn) rfl ?_
  have hok := ok.1
  have hok2 := (ok.2 p hp).1
  have hls : largs 0 [aO (some o), aI ((p : Int)), aJ x, aJ y, aJ w1] = [(0, aO (some o)), (1, aI ((p : Int))), (2, aJ x), (4, aJ y), (6, aJ w1)] := rfl
  rw [hls]
  clear hls
  have l6 : ∀ (fuel : Nat) (i : Nat) (l : Int), (i ≤ sGn S p) → (gWo S p x y w1 i = false) → (l = if gWi S p x y w1 i = true then 1 else 0) → sGn S p - i < fuel → Wk w d cd_X12_isIn 6 [(9, aI ((i : Int))), (8, aI l), (0, aO (some o)), (1, aI ((p : Int))), (2, aJ x), (4, aJ y), (6, aJ w1)] [] (hw h V) (RI (fun r h1 => h1 = hw h V ∧ r = gWh S p x y w1)) := by
    intro fuel
    induction fuel with
    | zero => intros; omega
    | succ fuel ih6 =>
      intro i l hi hn hl hfuel
      have hok := ok.1
      have hok2 := (ok.2 p hp).1
      have j254 : ∀ (f u v k : Int), (i < sGn S p) → (¬ gWon S p x y w1 i) → (k = if mWt S p x y w1 i then 1 else 0) → Wk w d cd_X12_isIn 254 [(20, aJ ((gx S p i * w1 - x) * (gy S p (gAft S p i) * w1 - y) - (gy S p i * w1 - y) * (gx S p (gAft S p i) * w1 - x))), (18, aJ (gy S p (gAft S p i) * w1 - y)), (16, aJ (gx S p (gAft S p i) * w1 - x)), (14, aJ (gy S p i * w1 - y)), (12, aJ (gx S p i * w1 - x)), (9, aI ((i : Int))), (8, aI l), (0, aO (some o)), (1, aI ((p : Int))), (2, aJ x), (4, aJ y), (6, aJ w1), (22, aI f), (23, aI u), (24, aI v)] [aI k, aI l] (hw h V) (RI (fun r h1 => h1 = hw h V ∧ r = gWh S p x y w1)) := by
        intro f u v k hil hno hk
        refine g_icmp_eq rfl (fun cq254 => ?_) (fun cq254 => ?_)
        · skip
          refine g_iconst rfl ?_
          refine g_istore (l1 := [(8, aI 0), (20, aJ ((gx S p i * w1 - x) * (gy S p (gAft S p i) * w1 - y) - (gy S p i * w1 - y) * (gx S p (gAft S p i) * w1 - x))), (18, aJ (gy S p (gAft S p i) * w1 - y)), (16, aJ (gx S p (gAft S p i) * w1 - x)), (14, aJ (gy S p i * w1 - y)), (12, aJ (gx S p i * w1 - x)), (9, aI ((i : Int))), (0, aO (some o)), (1, aI ((p : Int))), (2, aJ x), (4, aJ y), (6, aJ w1), (22, aI f), (23, aI u), (24, aI v)]) rfl rfl ?_
          refine g_iinc (l1 := [(9, aI ((i : Int) + 1)), (8, aI 0), (20, aJ ((gx S p i * w1 - x) * (gy S p (gAft S p i) * w1 - y) - (gy S p i * w1 - y) * (gx S p (gAft S p i) * w1 - x))), (18, aJ (gy S p (gAft S p i) * w1 - y)), (16, aJ (gx S p (gAft S p i) * w1 - x)), (14, aJ (gy S p i * w1 - y)), (12, aJ (gx S p i * w1 - x)), (0, aO (some o)), (1, aI ((p : Int))), (2, aJ x), (4, aJ y), (6, aJ w1), (22, aI f), (23, aI u), (24, aI v)]) rfl rfl (by omega) (by omega) rfl ?_
          refine g_goto rfl ?_
          refine g_ls [0, 1, 7, 8, 9, 10, 11] rfl rfl ?_
          exact ih6 (i + 1) _ (by omega) (by exact gWo_no hn hno rfl) (by exact xor_step hl (fun z => by have z := (mw_tog hw1.1 i hno).mpr z; rw [if_pos z] at hk; exact ⟨fun q => by omega, fun q => by omega⟩) (fun z => by rw [if_neg (fun q => z ((mw_tog hw1.1 i hno).mp q))] at hk; omega)) (by omega)
        · skip
          refine g_iconst rfl ?_
          refine g_goto rfl ?_
          refine g_istore (l1 := [(8, aI 1), (20, aJ ((gx S p i * w1 - x) * (gy S p (gAft S p i) * w1 - y) - (gy S p i * w1 - y) * (gx S p (gAft S p i) * w1 - x))), (18, aJ (gy S p (gAft S p i) * w1 - y)), (16, aJ (gx S p (gAft S p i) * w1 - x)), (14, aJ (gy S p i * w1 - y)), (12, aJ (gx S p i * w1 - x)), (9, aI ((i : Int))), (0, aO (some o)), (1, aI ((p : Int))), (2, aJ x), (4, aJ y), (6, aJ w1), (22, aI f), (23, aI u), (24, aI v)]) rfl rfl ?_
          refine g_iinc (l1 := [(9, aI ((i : Int) + 1)), (8, aI 1), (20, aJ ((gx S p i * w1 - x) * (gy S p (gAft S p i) * w1 - y) - (gy S p i * w1 - y) * (gx S p (gAft S p i) * w1 - x))), (18, aJ (gy S p (gAft S p i) * w1 - y)), (16, aJ (gx S p (gAft S p i) * w1 - x)), (14, aJ (gy S p i * w1 - y)), (12, aJ (gx S p i * w1 - x)), (0, aO (some o)), (1, aI ((p : Int))), (2, aJ x), (4, aJ y), (6, aJ w1), (22, aI f), (23, aI u), (24, aI v)]) rfl rfl (by omega) (by omega) rfl ?_
          refine g_goto rfl ?_
          refine g_ls [0, 1, 7, 8, 9, 10, 11] rfl rfl ?_
          exact ih6 (i + 1) _ (by omega) (by exact gWo_no hn hno rfl) (by exact xor_step hl (fun z => by have z := (mw_tog hw1.1 i hno).mpr z; rw [if_pos z] at hk; exact ⟨fun q => by omega, fun q => by omega⟩) (fun z => by rw [if_neg (fun q => z ((mw_tog hw1.1 i hno).mp q))] at hk; omega)) (by omega)
      have j221 : ∀ (f u v : Int), (i < sGn S p) → (¬ gWon S p x y w1 i) → (u = if gy S p i * w1 - y ≤ 0 ∧ 0 < gy S p (gAft S p i) * w1 - y then 1 else 0) → (v = if gy S p (gAft S p i) * w1 - y ≤ 0 ∧ 0 < gy S p i * w1 - y then 1 else 0) → Wk w d cd_X12_isIn 221 [(20, aJ ((gx S p i * w1 - x) * (gy S p (gAft S p i) * w1 - y) - (gy S p i * w1 - y) * (gx S p (gAft S p i) * w1 - x))), (18, aJ (gy S p (gAft S p i) * w1 - y)), (16, aJ (gx S p (gAft S p i) * w1 - x)), (14, aJ (gy S p i * w1 - y)), (12, aJ (gx S p i * w1 - x)), (9, aI ((i : Int))), (8, aI l), (0, aO (some o)), (1, aI ((p : Int))), (2, aJ x), (4, aJ y), (6, aJ w1), (22, aI f), (23, aI u)] [aI v] (hw h V) (RI (fun r h1 => h1 = hw h V ∧ r = gWh S p x y w1)) := by
        intro f u v hil hno hu hv
        refine g_istore (l1 := [(24, aI v), (20, aJ ((gx S p i * w1 - x) * (gy S p (gAft S p i) * w1 - y) - (gy S p i * w1 - y) * (gx S p (gAft S p i) * w1 - x))), (18, aJ (gy S p (gAft S p i) * w1 - y)), (16, aJ (gx S p (gAft S p i) * w1 - x)), (14, aJ (gy S p i * w1 - y)), (12, aJ (gx S p i * w1 - x)), (9, aI ((i : Int))), (8, aI l), (0, aO (some o)), (1, aI ((p : Int))), (2, aJ x), (4, aJ y), (6, aJ w1), (22, aI f), (23, aI u)]) rfl rfl ?_
        refine g_iload rfl rfl ?_
        refine g_iload rfl rfl ?_
        refine g_if_eq rfl (fun cq227 => ?_) (fun cq227 => ?_)
        · skip
          refine g_iload rfl rfl ?_
          refine g_if_eq rfl (fun cq239 => ?_) (fun cq239 => ?_)
          · skip
            refine g_iconst rfl ?_
            refine g_ls [1, 2, 3, 4, 5, 6, 7, 8, 9, 10, 11, 12, 13, 14, 0] rfl rfl ?_
            exact j254 _ _ _ _ (by omega) (by exact hno) (by exact (if_neg (fun z => by unfold mWt at z; omega)).symm)
          · skip
            refine g_lload rfl rfl ?_
            refine g_lconst0 rfl ?_
            refine g_lc_ge rfl rfl (fun cq245 => ?_) (fun cq245 => ?_)
            · skip
              refine g_iconst rfl ?_
              refine g_ls [1, 2, 3, 4, 5, 6, 7, 8, 9, 10, 11, 12, 13, 14, 0] rfl rfl ?_
              exact j254 _ _ _ _ (by omega) (by exact hno) (by exact (if_neg (fun z => by unfold mWt at z; omega)).symm)
            · skip
              refine g_iconst rfl ?_
              refine g_goto rfl ?_
              refine g_ls [1, 2, 3, 4, 5, 6, 7, 8, 9, 10, 11, 12, 13, 14, 0] rfl rfl ?_
              exact j254 _ _ _ _ (by omega) (by exact hno) (by exact (if_pos (by unfold mWt; omega)).symm)
        · skip
          refine g_lload rfl rfl ?_
          refine g_lconst0 rfl ?_
          refine g_lc_gt rfl rfl (fun cq233 => ?_) (fun cq233 => ?_)
          · skip
            refine g_iconst rfl ?_
            refine g_goto rfl ?_
            refine g_ls [1, 2, 3, 4, 5, 6, 7, 8, 9, 10, 11, 12, 13, 14, 0] rfl rfl ?_
            exact j254 _ _ _ _ (by omega) (by exact hno) (by exact (if_pos (by unfold mWt; omega)).symm)
          · skip
            refine g_iload rfl rfl ?_
            refine g_if_eq rfl (fun cq239 => ?_) (fun cq239 => ?_)
            · skip
              refine g_iconst rfl ?_
              refine g_ls [1, 2, 3, 4, 5, 6, 7, 8, 9, 10, 11, 12, 13, 14, 0] rfl rfl ?_
              exact j254 _ _ _ _ (by omega) (by exact hno) (by exact (if_neg (fun z => by unfold mWt at z; omega)).symm)
            · skip
              refine g_lload rfl rfl ?_
              refine g_lconst0 rfl ?_
              refine g_lc_ge rfl rfl (fun cq245 => ?_) (fun cq245 => ?_)
              · skip
                refine g_iconst rfl ?_
                refine g_ls [1, 2, 3, 4, 5, 6, 7, 8, 9, 10, 11, 12, 13, 14, 0] rfl rfl ?_
                exact j254 _ _ _ _ (by omega) (by exact hno) (by exact (if_neg (fun z => by unfold mWt at z; omega)).symm)
              · skip
                refine g_iconst rfl ?_
                refine g_goto rfl ?_
                refine g_ls [1, 2, 3, 4, 5, 6, 7, 8, 9, 10, 11, 12, 13, 14, 0] rfl rfl ?_
                exact j254 _ _ _ _ (by omega) (by exact hno) (by exact (if_pos (by unfold mWt; omega)).symm)
      have j200 : ∀ (f u : Int), (i < sGn S p) → (¬ gWon S p x y w1 i) → (u = if gy S p i * w1 - y ≤ 0 ∧ 0 < gy S p (gAft S p i) * w1 - y then 1 else 0) → Wk w d cd_X12_isIn 200 [(20, aJ ((gx S p i * w1 - x) * (gy S p (gAft S p i) * w1 - y) - (gy S p i * w1 - y) * (gx S p (gAft S p i) * w1 - x))), (18, aJ (gy S p (gAft S p i) * w1 - y)), (16, aJ (gx S p (gAft S p i) * w1 - x)), (14, aJ (gy S p i * w1 - y)), (12, aJ (gx S p i * w1 - x)), (9, aI ((i : Int))), (8, aI l), (0, aO (some o)), (1, aI ((p : Int))), (2, aJ x), (4, aJ y), (6, aJ w1), (22, aI f)] [aI u] (hw h V) (RI (fun r h1 => h1 = hw h V ∧ r = gWh S p x y w1)) := by
        intro f u hil hno hu
        refine g_istore (l1 := [(23, aI u), (20, aJ ((gx S p i * w1 - x) * (gy S p (gAft S p i) * w1 - y) - (gy S p i * w1 - y) * (gx S p (gAft S p i) * w1 - x))), (18, aJ (gy S p (gAft S p i) * w1 - y)), (16, aJ (gx S p (gAft S p i) * w1 - x)), (14, aJ (gy S p i * w1 - y)), (12, aJ (gx S p i * w1 - x)), (9, aI ((i : Int))), (8, aI l), (0, aO (some o)), (1, aI ((p : Int))), (2, aJ x), (4, aJ y), (6, aJ w1), (22, aI f)]) rfl rfl ?_
        refine g_lload rfl rfl ?_
        refine g_lconst0 rfl ?_
        refine g_lc_gt rfl rfl (fun cq205 => ?_) (fun cq205 => ?_)
        · skip
          refine g_iconst rfl ?_
          refine g_ls [1, 2, 3, 4, 5, 6, 7, 8, 9, 10, 11, 12, 13, 0] rfl rfl ?_
          exact j221 _ _ _ (by omega) (by exact hno) (by exact hu) (by exact (if_neg (fun z => by omega)).symm)
        · skip
          refine g_lload rfl rfl ?_
          refine g_lconst0 rfl ?_
          refine g_lc_le rfl rfl (fun cq212 => ?_) (fun cq212 => ?_)
          · skip
            refine g_iconst rfl ?_
            refine g_ls [1, 2, 3, 4, 5, 6, 7, 8, 9, 10, 11, 12, 13, 0] rfl rfl ?_
            exact j221 _ _ _ (by omega) (by exact hno) (by exact hu) (by exact (if_neg (fun z => by omega)).symm)
          · skip
            refine g_iconst rfl ?_
            refine g_goto rfl ?_
            refine g_ls [1, 2, 3, 4, 5, 6, 7, 8, 9, 10, 11, 12, 13, 0] rfl rfl ?_
            exact j221 _ _ _ (by omega) (by exact hno) (by exact hu) (by exact (if_pos ⟨by omega, by omega⟩).symm)
      have j172 : ∀ (f : Int), (i < sGn S p) → (f = if mWon S p x y w1 i then 1 else 0) → Wk w d cd_X12_isIn 172 [(20, aJ ((gx S p i * w1 - x) * (gy S p (gAft S p i) * w1 - y) - (gy S p i * w1 - y) * (gx S p (gAft S p i) * w1 - x))), (18, aJ (gy S p (gAft S p i) * w1 - y)), (16, aJ (gx S p (gAft S p i) * w1 - x)), (14, aJ (gy S p i * w1 - y)), (12, aJ (gx S p i * w1 - x)), (9, aI ((i : Int))), (8, aI l), (0, aO (some o)), (1, aI ((p : Int))), (2, aJ x), (4, aJ y), (6, aJ w1)] [aI f] (hw h V) (RI (fun r h1 => h1 = hw h V ∧ r = gWh S p x y w1)) := by
        intro f hil hf
        refine g_istore (l1 := [(22, aI f), (20, aJ ((gx S p i * w1 - x) * (gy S p (gAft S p i) * w1 - y) - (gy S p i * w1 - y) * (gx S p (gAft S p i) * w1 - x))), (18, aJ (gy S p (gAft S p i) * w1 - y)), (16, aJ (gx S p (gAft S p i) * w1 - x)), (14, aJ (gy S p i * w1 - y)), (12, aJ (gx S p i * w1 - x)), (9, aI ((i : Int))), (8, aI l), (0, aO (some o)), (1, aI ((p : Int))), (2, aJ x), (4, aJ y), (6, aJ w1)]) rfl rfl ?_
        refine g_iload rfl rfl ?_
        refine g_if_eq rfl (fun cq176 => ?_) (fun cq176 => ?_)
        · skip
          have hno : ¬ gWon S p x y w1 i := fun z => by
            have z := (mw_on hw1.1 i).mpr z
            rw [if_pos z] at hf
            omega
          refine g_lload rfl rfl ?_
          refine g_lconst0 rfl ?_
          refine g_lc_gt rfl rfl (fun cq184 => ?_) (fun cq184 => ?_)
          · skip
            refine g_iconst rfl ?_
            refine g_ls [1, 2, 3, 4, 5, 6, 7, 8, 9, 10, 11, 12, 0] rfl rfl ?_
            exact j200 _ _ (by omega) (by exact hno) (by exact (if_neg (fun z => by omega)).symm)
          · skip
            refine g_lload rfl rfl ?_
            refine g_lconst0 rfl ?_
            refine g_lc_le rfl rfl (fun cq191 => ?_) (fun cq191 => ?_)
            · skip
              refine g_iconst rfl ?_
              refine g_ls [1, 2, 3, 4, 5, 6, 7, 8, 9, 10, 11, 12, 0] rfl rfl ?_
              exact j200 _ _ (by omega) (by exact hno) (by exact (if_neg (fun z => by omega)).symm)
            · skip
              refine g_iconst rfl ?_
              refine g_goto rfl ?_
              refine g_ls [1, 2, 3, 4, 5, 6, 7, 8, 9, 10, 11, 12, 0] rfl rfl ?_
              exact j200 _ _ (by omega) (by exact hno) (by exact (if_pos ⟨by omega, by omega⟩).symm)
        · skip
          have hon : gWon S p x y w1 i := (mw_on hw1.1 i).mp (Classical.byContradiction fun z => by rw [if_neg z] at hf; omega)
          refine g_iconst rfl ?_
          refine g_iret rfl ?_
          refine ⟨rfl, ?_⟩
          unfold gWh
          exact (if_pos ((gWo_iff _).mpr ⟨i, by omega, hon⟩)).symm
      refine g_iload rfl rfl ?_
      refine g_aload_n rfl rfl ?_
      refine g_getR rfl ms.1 (mr_corners ms) ?_
      refine g_iload_n rfl rfl ?_
      refine g_iald (i := p) rfl (mt_corners ms) (by omega) (by omega) ?_
      refine g_top (v2 := aI ((sGn S p : Int))) (congrArg aI (by exact (mg.2 p hp).1)) ?_
      refine g_icmp_ge rfl (fun cq14 => ?_) (fun cq14 => ?_)
      · skip
        refine g_iload rfl rfl ?_
        refine g_if_eq rfl (fun cq272 => ?_) (fun cq272 => ?_)
        · skip
          refine g_iconst rfl ?_
          refine g_iret rfl ?_
          refine ⟨rfl, ?_⟩
          unfold gWh
          rw [show sGn S p = i by omega, hn, if_neg (by decide)]
          cases hW : gWi S p x y w1 i <;> rw [hW] at hl <;> simp at hl ⊢ <;> omega
        · skip
          refine g_iconst rfl ?_
          refine g_goto rfl ?_
          refine g_iret rfl ?_
          refine ⟨rfl, ?_⟩
          unfold gWh
          rw [show sGn S p = i by omega, hn, if_neg (by decide)]
          cases hW : gWi S p x y w1 i <;> rw [hW] at hl <;> simp at hl ⊢ <;> omega
      · skip
        have li := gAft_lt (S := S) (p := p) (i := i) (by omega)
        have bx := ok.x hp (i := i) (by omega)
        have by_ := ok.y hp (i := i) (by omega)
        have cx := ok.x hp li
        have cy := ok.y hp li
        refine g_aload_n rfl rfl ?_
        refine g_iload_n rfl rfl ?_
        refine g_iload rfl rfl ?_
        refine g_callVI [aI ((p : Int)), aI ((i : Int))] [] rfl rfl rfl rfl (Nat.le_of_ble_eq_true rfl) ms.1 (m_pgAt0 (by omega) ms V mg ok p hp i (by omega)) ?_
        rintro r1 hx1 ⟨ehx1, rfl⟩
        rw [ehx1]
        clear ehx1 hx1
        refine g_istore (l1 := [(10, aI ((12 * p + i : Int))), (9, aI ((i : Int))), (8, aI l), (0, aO (some o)), (1, aI ((p : Int))), (2, aJ x), (4, aJ y), (6, aJ w1)]) rfl rfl ?_
        refine g_aload_n rfl rfl ?_
        refine g_iload_n rfl rfl ?_
        refine g_iload rfl rfl ?_
        refine g_iconst rfl ?_
        refine g_iadd rfl (by omega) (by omega) ?_
        refine g_callVI [aI ((p : Int)), aI (((i : Int)) + 1)] [] rfl rfl rfl rfl (Nat.le_of_ble_eq_true rfl) ms.1 (m_pgAt1 (by omega) ms V mg ok p hp i (by omega)) ?_
        rintro r2 hx2 ⟨ehx2, rfl⟩
        rw [ehx2]
        clear ehx2 hx2
        refine g_istore (l1 := [(11, aI (((12 * p + (gAft S p i) : Nat) : Int))), (10, aI ((12 * p + i : Int))), (9, aI ((i : Int))), (8, aI l), (0, aO (some o)), (1, aI ((p : Int))), (2, aJ x), (4, aJ y), (6, aJ w1)]) rfl rfl ?_
        refine g_aload_n rfl rfl ?_
        refine g_getR rfl ms.1 (mr_px ms) ?_
        refine g_iload rfl rfl ?_
        refine g_iald (i := 12 * p + i) rfl (mt_px ms) (by omega) (by omega) ?_
        refine g_top (v2 := aI (gx S p i)) (congrArg aI (by exact ((mg.2 p hp).2 i (by omega)).1)) ?_
        refine g_i2l rfl ?_
        refine g_lload rfl rfl ?_
        have m47 := mulq (a := 1000) (b := 1048576) (x := gx S p i) (y := w1) (by omega) (by omega)
        refine g_lmul rfl (by omega) (by omega) ?_
        refine g_lload_n rfl rfl ?_
        refine g_lsub rfl (by omega) (by omega) ?_
        refine g_lstore (l1 := [(12, aJ (((gx S p i) * w1) - x)), (11, aI (((12 * p + (gAft S p i) : Nat) : Int))), (10, aI ((12 * p + i : Int))), (9, aI ((i : Int))), (8, aI l), (0, aO (some o)), (1, aI ((p : Int))), (2, aJ x), (4, aJ y), (6, aJ w1)]) rfl rfl ?_
        refine g_aload_n rfl rfl ?_
        refine g_getR rfl ms.1 (mr_py ms) ?_
        refine g_iload rfl rfl ?_
        refine g_iald (i := 12 * p + i) rfl (mt_py ms) (by omega) (by omega) ?_
        refine g_top (v2 := aI (gy S p i)) (congrArg aI (by exact ((mg.2 p hp).2 i (by omega)).2)) ?_
        refine g_i2l rfl ?_
        refine g_lload rfl rfl ?_
        have m62 := mulq (a := 1000) (b := 1048576) (x := gy S p i) (y := w1) (by omega) (by omega)
        refine g_lmul rfl (by omega) (by omega) ?_
        refine g_lload rfl rfl ?_
        refine g_lsub rfl (by omega) (by omega) ?_
        refine g_lstore (l1 := [(14, aJ (((gy S p i) * w1) - y)), (12, aJ (((gx S p i) * w1) - x)), (11, aI (((12 * p + (gAft S p i) : Nat) : Int))), (10, aI ((12 * p + i : Int))), (9, aI ((i : Int))), (8, aI l), (0, aO (some o)), (1, aI ((p : Int))), (2, aJ x), (4, aJ y), (6, aJ w1)]) rfl rfl ?_
        refine g_aload_n rfl rfl ?_
        refine g_getR rfl ms.1 (mr_px ms) ?_
        refine g_iload rfl rfl ?_
        refine g_iald (i := 12 * p + (gAft S p i)) rfl (mt_px ms) (by omega) (by omega) ?_
        refine g_top (v2 := aI (gx S p (gAft S p i))) (congrArg aI (by exact ((mg.2 p hp).2 (gAft S p i) (by omega)).1)) ?_
        refine g_i2l rfl ?_
        refine g_lload rfl rfl ?_
        have m78 := mulq (a := 1000) (b := 1048576) (x := gx S p (gAft S p i)) (y := w1) (by omega) (by omega)
        refine g_lmul rfl (by omega) (by omega) ?_
        refine g_lload_n rfl rfl ?_
        refine g_lsub rfl (by omega) (by omega) ?_
        refine g_lstore (l1 := [(16, aJ (((gx S p (gAft S p i)) * w1) - x)), (14, aJ (((gy S p i) * w1) - y)), (12, aJ (((gx S p i) * w1) - x)), (11, aI (((12 * p + (gAft S p i) : Nat) : Int))), (10, aI ((12 * p + i : Int))), (9, aI ((i : Int))), (8, aI l), (0, aO (some o)), (1, aI ((p : Int))), (2, aJ x), (4, aJ y), (6, aJ w1)]) rfl rfl ?_
        refine g_aload_n rfl rfl ?_
        refine g_getR rfl ms.1 (mr_py ms) ?_
        refine g_iload rfl rfl ?_
        refine g_iald (i := 12 * p + (gAft S p i)) rfl (mt_py ms) (by omega) (by omega) ?_
        refine g_top (v2 := aI (gy S p (gAft S p i))) (congrArg aI (by exact ((mg.2 p hp).2 (gAft S p i) (by omega)).2)) ?_
        refine g_i2l rfl ?_
        refine g_lload rfl rfl ?_
        have m93 := mulq (a := 1000) (b := 1048576) (x := gy S p (gAft S p i)) (y := w1) (by omega) (by omega)
        refine g_lmul rfl (by omega) (by omega) ?_
        refine g_lload rfl rfl ?_
        refine g_lsub rfl (by omega) (by omega) ?_
        refine g_lstore (l1 := [(18, aJ (((gy S p (gAft S p i)) * w1) - y)), (16, aJ (((gx S p (gAft S p i)) * w1) - x)), (14, aJ (((gy S p i) * w1) - y)), (12, aJ (((gx S p i) * w1) - x)), (11, aI (((12 * p + (gAft S p i) : Nat) : Int))), (10, aI ((12 * p + i : Int))), (9, aI ((i : Int))), (8, aI l), (0, aO (some o)), (1, aI ((p : Int))), (2, aJ x), (4, aJ y), (6, aJ w1)]) rfl rfl ?_
        refine g_lload rfl rfl ?_
        refine g_lload rfl rfl ?_
        have m103 := mulq (a := 1050000000) (b := 1050000000) (x := gx S p i * w1 - x) (y := gy S p (gAft S p i) * w1 - y) (by omega) (by omega)
        refine g_lmul rfl (by omega) (by omega) ?_
        refine g_lload rfl rfl ?_
        refine g_lload rfl rfl ?_
        have m108 := mulq (a := 1050000000) (b := 1050000000) (x := gy S p i * w1 - y) (y := gx S p (gAft S p i) * w1 - x) (by omega) (by omega)
        refine g_lmul rfl (by omega) (by omega) ?_
        refine g_lsub rfl (by omega) (by omega) ?_
        refine g_lstore (l1 := [(20, aJ (((((gx S p i) * w1) - x) * (((gy S p (gAft S p i)) * w1) - y)) - ((((gy S p i) * w1) - y) * (((gx S p (gAft S p i)) * w1) - x)))), (18, aJ (((gy S p (gAft S p i)) * w1) - y)), (16, aJ (((gx S p (gAft S p i)) * w1) - x)), (14, aJ (((gy S p i) * w1) - y)), (12, aJ (((gx S p i) * w1) - x)), (11, aI (((12 * p + (gAft S p i) : Nat) : Int))), (10, aI ((12 * p + i : Int))), (9, aI ((i : Int))), (8, aI l), (0, aO (some o)), (1, aI ((p : Int))), (2, aJ x), (4, aJ y), (6, aJ w1)]) rfl rfl ?_
        refine g_lload rfl rfl ?_
        refine g_lconst0 rfl ?_
        refine g_lc_ne rfl rfl (fun cq115 => ?_) (fun cq115 => ?_)
        · skip
          refine g_iconst rfl ?_
          refine g_ls [0, 1, 2, 3, 4, 7, 8, 9, 10, 11, 12, 13] rfl rfl ?_
          exact j172 _ (by omega) (by exact (if_neg (fun z => by have z1 := z.1; have z2 := z.2.1; have z3 := z.2.2; unfold oneS at z2 z3; omega)).symm)
        · skip
          refine g_lload rfl rfl ?_
          refine g_lload rfl rfl ?_
          refine g_callSJ [aJ (((gx S p i) * w1) - x), aJ (((gx S p (gAft S p i)) * w1) - x)] [] rfl rfl rfl rfl (Nat.le_of_ble_eq_true rfl) (c_les (by omega) (((gx S p i) * w1) - x) (((gx S p (gAft S p i)) * w1) - x) _) ?_
          rintro r3 hx3 ⟨ehx3, rfl⟩
          rw [ehx3]
          clear ehx3 hx3
          refine g_lconst0 rfl ?_
          refine g_lc_gt rfl rfl (fun cq127 => ?_) (fun cq127 => ?_)
          · skip
            refine g_iconst rfl ?_
            refine g_ls [0, 1, 2, 3, 4, 7, 8, 9, 10, 11, 12, 13] rfl rfl ?_
            exact j172 _ (by omega) (by exact (if_neg (fun z => by have z1 := z.1; have z2 := z.2.1; have z3 := z.2.2; unfold oneS at z2 z3; omega)).symm)
          · skip
            refine g_lload rfl rfl ?_
            refine g_lload rfl rfl ?_
            refine g_callSJ [aJ (((gx S p i) * w1) - x), aJ (((gx S p (gAft S p i)) * w1) - x)] [] rfl rfl rfl rfl (Nat.le_of_ble_eq_true rfl) (c_grt (by omega) (((gx S p i) * w1) - x) (((gx S p (gAft S p i)) * w1) - x) _) ?_
            rintro r4 hx4 ⟨ehx4, rfl⟩
            rw [ehx4]
            clear ehx4 hx4
            refine g_lconst0 rfl ?_
            refine g_lc_lt rfl rfl (fun cq139 => ?_) (fun cq139 => ?_)
            · skip
              refine g_iconst rfl ?_
              refine g_ls [0, 1, 2, 3, 4, 7, 8, 9, 10, 11, 12, 13] rfl rfl ?_
              exact j172 _ (by omega) (by exact (if_neg (fun z => by have z1 := z.1; have z2 := z.2.1; have z3 := z.2.2; unfold oneS at z2 z3; omega)).symm)
            · skip
              refine g_lload rfl rfl ?_
              refine g_lload rfl rfl ?_
              refine g_callSJ [aJ (((gy S p i) * w1) - y), aJ (((gy S p (gAft S p i)) * w1) - y)] [] rfl rfl rfl rfl (Nat.le_of_ble_eq_true rfl) (c_les (by omega) (((gy S p i) * w1) - y) (((gy S p (gAft S p i)) * w1) - y) _) ?_
              rintro r5 hx5 ⟨ehx5, rfl⟩
              rw [ehx5]
              clear ehx5 hx5
              refine g_lconst0 rfl ?_
              refine g_lc_gt rfl rfl (fun cq151 => ?_) (fun cq151 => ?_)
              · skip
                refine g_iconst rfl ?_
                refine g_ls [0, 1, 2, 3, 4, 7, 8, 9, 10, 11, 12, 13] rfl rfl ?_
                exact j172 _ (by omega) (by exact (if_neg (fun z => by have z1 := z.1; have z2 := z.2.1; have z3 := z.2.2; unfold oneS at z2 z3; omega)).symm)
              · skip
                refine g_lload rfl rfl ?_
                refine g_lload rfl rfl ?_
                refine g_callSJ [aJ (((gy S p i) * w1) - y), aJ (((gy S p (gAft S p i)) * w1) - y)] [] rfl rfl rfl rfl (Nat.le_of_ble_eq_true rfl) (c_grt (by omega) (((gy S p i) * w1) - y) (((gy S p (gAft S p i)) * w1) - y) _) ?_
                rintro r6 hx6 ⟨ehx6, rfl⟩
                rw [ehx6]
                clear ehx6 hx6
                refine g_lconst0 rfl ?_
                refine g_lc_lt rfl rfl (fun cq163 => ?_) (fun cq163 => ?_)
                · skip
                  refine g_iconst rfl ?_
                  refine g_ls [0, 1, 2, 3, 4, 7, 8, 9, 10, 11, 12, 13] rfl rfl ?_
                  exact j172 _ (by omega) (by exact (if_neg (fun z => by have z1 := z.1; have z2 := z.2.1; have z3 := z.2.2; unfold oneS at z2 z3; omega)).symm)
                · skip
                  refine g_iconst rfl ?_
                  refine g_goto rfl ?_
                  refine g_ls [0, 1, 2, 3, 4, 7, 8, 9, 10, 11, 12, 13] rfl rfl ?_
                  exact j172 _ (by omega) (by exact (if_pos ⟨by omega, by unfold oneS; omega, by unfold oneS; omega⟩).symm)
  refine g_iconst rfl ?_
  refine g_istore (l1 := [(8, aI 0), (0, aO (some o)), (1, aI ((p : Int))), (2, aJ x), (4, aJ y), (6, aJ w1)]) rfl rfl ?_
  refine g_iconst rfl ?_
  refine g_istore (l1 := [(9, aI 0), (8, aI 0), (0, aO (some o)), (1, aI ((p : Int))), (2, aJ x), (4, aJ y), (6, aJ w1)]) rfl rfl ?_
  exact l6 _ 0 _ (by omega) (by rfl) (by rfl) (Nat.lt_succ_self _)
