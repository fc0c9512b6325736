/-! the reference's simplest fraction: printed by wip/whole/s88.py -/
theorem ldivN {a b : Nat} (ha : a < 9223372036854775808) : w64 ((a : Int).tdiv (b : Int)) = ((a / b : Nat) : Int) := by
  rw [← Int.ofNat_tdiv]
  have := Nat.div_le_self a b
  have h0 : (0 : Int) ≤ ((a / b : Nat) : Int) := Int.natCast_nonneg _
  have h1 : ((a / b : Nat) : Int) ≤ (a : Int) := Int.ofNat_le.mpr this
  exact w64_id ⟨by omega, by omega⟩
def SmR (R : Nat × Nat) (bl n dd m e : Int) : Prop := R.1 ≤ 1073741824 ∧ ((bl = 0 ∧ 0 < n ∧ smF n dd m e = ((R.1 : Int), (R.2 : Int))) ∨ (bl = 1 ∧ n ≤ 0 ∧ m < 0 ∧ smF (-m) e (-n) dd = ((R.1 : Int), (R.2 : Int))))
theorem SmR.start {x y z t : Int} (hx : 0 < x ∧ x ≤ 1073741824) (hy : 0 < y ∧ y ≤ 1073741824) (hz : z ≤ 1073741824) (ht : 0 < t ∧ t ≤ 1073741824) (ho : x * t ≤ z * y) : ∃ R : Nat × Nat, R.1 ≤ 1073741824 ∧ smF x y z t = ((R.1 : Int), (R.2 : Int)) ∧ SmX 0 R (1 - 1) x y z t 0 1 1 0 := by
  have hk := smF_ok hx hy hz ht ho
  obtain ⟨a, b, u, f, rfl, rfl, rfl, rfl, i⟩ := smF_start hx hy hz ht ho
  refine ⟨smW a b u f 0 1 1 0, ?_, rfl, Or.inl ⟨rfl, a, b, u, f, 0, 1, 1, 0, rfl, rfl, rfl, rfl, rfl, rfl, rfl, rfl, i, Or.inl rfl, rfl⟩⟩
  have h4 : (smF (a : Int) (b : Int) (u : Int) (f : Int)).1 ≤ 1073741824 := hk.2.2.2.1
  have e : (smF (a : Int) (b : Int) (u : Int) (f : Int)).1 = ((smW a b u f 0 1 1 0).1 : Int) := rfl
  omega
set_option maxRecDepth 100000 in
theorem m_simplest {w : aW} {d : Nat} (hd : 1 ≤ d) {h : aH} {o : Nat} (ms : MS h o) (V : Nat → Nat → Int) (n dd m e : Int) (hn : -1073741824 ≤ n ∧ n ≤ 1073741824) (hd1 : 0 < dd ∧ dd ≤ 1073741824) (hm : -1073741824 ≤ m ∧ m ≤ 1073741824) (he : 0 < e ∧ e ≤ 1073741824) (ho : n * e ≤ m * dd) : WP w d 276 [aO (some o), aJ n, aJ dd, aJ m, aJ e] (hw h V) (RN (fun h1 => h1 = hw h (vset (vset V o 5 (smpF (n, dd) (m, e)).1) o 6 (smpF (n, dd) (m, e)).2))) := by
  obtain ⟨d, rfl⟩ : ∃ d1, d = d1 + 1 := ⟨d - 1, by omega⟩
  refine WP.enter (cd := cd_X12_simplest) rfl ?_
  have hpm : 0 < n → 0 < m := fun u => by
    rcases Int.lt_or_le 0 m with q | q
    · exact q
    · exfalso
      have h1 := Int.mul_pos u he.1
      have h2 := Int.mul_nonneg (show 0 ≤ -m by omega) (show 0 ≤ dd by omega)
      rw [Int.neg_mul] at h2
      omega
  have hls : largs 0 [aO (some o), aJ n, aJ dd, aJ m, aJ e] = [(0, aO (some o)), (1, aJ n), (3, aJ dd), (5, aJ m), (7, aJ e)] := rfl
  rw [hls]
  clear hls
  have l107 : ∀ (fuel : Nat) (k : Nat) (R : Nat × Nat) (bl mo xa xb xc xf xp xq xu xw : Int), (k ≤ 64) → (SmR R bl n dd m e) → (SmX k R (1 - mo) xa xb xc xf xp xq xu xw) → 64 - k < fuel → Wk w d cd_X12_simplest 107 [(26, aI mo), (9, aI bl), (10, aJ xa), (12, aJ xb), (14, aJ xc), (16, aJ xf), (18, aJ xp), (20, aJ xq), (22, aJ xu), (24, aJ xw), (0, aO (some o)), (1, aJ n), (3, aJ dd), (5, aJ m), (7, aJ e)] [] (hw h V) (RN (fun h1 => h1 = hw h (vset (vset V o 5 (smpF (n, dd) (m, e)).1) o 6 (smpF (n, dd) (m, e)).2))) := by
    intro fuel
    induction fuel with
    | zero => intros; omega
    | succ fuel ih107 =>
      intro k R bl mo xa xb xc xf xp xq xu xw hk hR hX hfuel
      refine g_iload rfl rfl ?_
      refine g_if_eq rfl (fun c109 => ?_) (fun c109 => ?_)
      · skip
        rcases hX with ⟨hdn, -⟩ | ⟨hdn, h3, h4⟩
        · exfalso; omega
        obtain ⟨hRb, hRR⟩ := hR
        refine g_aload_n rfl rfl ?_
        refine g_iload rfl rfl ?_
        refine g_if_eq rfl (fun c274 => ?_) (fun c274 => ?_)
        · skip
          refine g_lload rfl rfl ?_
          refine g_putJ rfl ms.1 ?_
          refine g_aload_n rfl rfl ?_
          refine g_lload rfl rfl ?_
          refine g_putJ rfl ms.1 ?_
          refine g_vret rfl ?_
          rcases hRR with ⟨hb0, hb1, hb2⟩ | ⟨hb0, hb1, hb3, hb2⟩
          · first
              | (exfalso; omega)
              | (have e : smpF (n, dd) (m, e) = ((R.1 : Int), (R.2 : Int)) := by
                   unfold smpF
                   rw [if_pos (show 0 < n from hb1)]
                   exact hb2
                 rw [e, h3, h4]
                 rfl)
          · first
              | (exfalso; omega)
              | (have e : smpF (n, dd) (m, e) = (-(R.1 : Int), (R.2 : Int)) := by
                   unfold smpF
                   rw [if_neg (show ¬ 0 < n by omega), if_pos (show m < 0 from hb3)]
                   show (-(smF (-m) e (-n) dd).1, (smF (-m) e (-n) dd).2) = _
                   rw [hb2]
                 rw [e, h3, h4]
                 rfl)
        · skip
          refine g_lload rfl rfl ?_
          refine g_lneg2 rfl (by omega) (by omega) ?_
          refine g_goto rfl ?_
          refine g_putJ rfl ms.1 ?_
          refine g_aload_n rfl rfl ?_
          refine g_lload rfl rfl ?_
          refine g_putJ rfl ms.1 ?_
          refine g_vret rfl ?_
          rcases hRR with ⟨hb0, hb1, hb2⟩ | ⟨hb0, hb1, hb3, hb2⟩
          · first
              | (exfalso; omega)
              | (have e : smpF (n, dd) (m, e) = ((R.1 : Int), (R.2 : Int)) := by
                   unfold smpF
                   rw [if_pos (show 0 < n from hb1)]
                   exact hb2
                 rw [e, h3, h4]
                 rfl)
          · first
              | (exfalso; omega)
              | (have e : smpF (n, dd) (m, e) = (-(R.1 : Int), (R.2 : Int)) := by
                   unfold smpF
                   rw [if_neg (show ¬ 0 < n by omega), if_pos (show m < 0 from hb3)]
                   show (-(smF (-m) e (-n) dd).1, (smF (-m) e (-n) dd).2) = _
                   rw [hb2]
                 rw [e, h3, h4]
                 rfl)
      · skip
        rcases hX with ⟨hdn, a, b, u, f, p0, q0, p1, q1, rfl, rfl, rfl, rfl, rfl, rfl, rfl, rfl, iI, iT, iE⟩ | ⟨hdn, -⟩
        rotate_left
        · omega
        have g1 := iI.hb
        have g2 := iI.hf
        have g3 := iI.ha
        have g4 := iI.hb2
        have g5 := iI.hc
        have g6 := iI.hf2
        have gk := SmT.lt iI iT
        refine g_lload rfl rfl ?_
        refine g_lload rfl rfl ?_
        have hs := sm_div (a := a) iI.hb
        have htw := iI.tw
        have htf := iI.tf
        have htu := iI.tu
        have hdn2 := ldivN (a := a) (b := b) (by omega)
        obtain ⟨t, ht⟩ : ∃ t, t = a / b := ⟨_, rfl⟩
        rw [← ht] at hs htw htf htu hdn2
        have tB : t ≤ t * b := Nat.le_mul_of_pos_right t iI.hb
        have hm1 : (t + 1) * f = t * f + f := by rw [Nat.add_mul, Nat.one_mul]
        refine g_ldiv rfl (by omega) ?_
        refine g_top (v2 := aJ ((t : Int))) (congrArg aJ (by exact hdn2)) ?_
        refine g_lstore (l1 := [(27, aJ ((t : Int))), (26, aI mo), (9, aI bl), (10, aJ ((a : Int))), (12, aJ ((b : Int))), (14, aJ ((u : Int))), (16, aJ ((f : Int))), (18, aJ ((p0 : Int))), (20, aJ ((q0 : Int))), (22, aJ ((p1 : Int))), (24, aJ ((q1 : Int))), (0, aO (some o)), (1, aJ n), (3, aJ dd), (5, aJ m), (7, aJ e)]) rfl rfl ?_
        refine g_lload rfl rfl ?_
        refine g_lload rfl rfl ?_
        refine g_lmul rfl (by omega) (by omega) ?_
        refine g_lload rfl rfl ?_
        refine g_lc_ne rfl rfl (fun c126 => ?_) (fun c126 => ?_)
        · skip
          refine g_iconst rfl ?_
          refine g_istore (l1 := [(29, aI 0), (27, aJ ((t : Int))), (26, aI mo), (9, aI bl), (10, aJ ((a : Int))), (12, aJ ((b : Int))), (14, aJ ((u : Int))), (16, aJ ((f : Int))), (18, aJ ((p0 : Int))), (20, aJ ((q0 : Int))), (22, aJ ((p1 : Int))), (24, aJ ((q1 : Int))), (0, aO (some o)), (1, aJ n), (3, aJ dd), (5, aJ m), (7, aJ e)]) rfl rfl ?_
          refine g_iload rfl rfl ?_
          refine g_if_ne_f rfl (by omega) ?_
          refine g_lload rfl rfl ?_
          refine g_lconst1 rfl ?_
          refine g_ladd rfl (by omega) (by omega) ?_
          refine g_top (v2 := aJ (((t + 1 : Nat) : Int))) (congrArg aJ (by rfl)) ?_
          refine g_lload rfl rfl ?_
          refine g_lmul rfl (by omega) (by omega) ?_
          refine g_lload rfl rfl ?_
          refine g_lc_le rfl rfl (fun c151 => ?_) (fun c151 => ?_)
          · skip
            refine g_iconst rfl ?_
            refine g_istore (l1 := [(26, aI 0), (29, aI 0), (27, aJ ((t : Int))), (9, aI bl), (10, aJ ((a : Int))), (12, aJ ((b : Int))), (14, aJ ((u : Int))), (16, aJ ((f : Int))), (18, aJ ((p0 : Int))), (20, aJ ((q0 : Int))), (22, aJ ((p1 : Int))), (24, aJ ((q1 : Int))), (0, aO (some o)), (1, aJ n), (3, aJ dd), (5, aJ m), (7, aJ e)]) rfl rfl ?_
            refine g_iload rfl rfl ?_
            refine g_if_ne_f rfl (by omega) ?_
            refine g_iload rfl rfl ?_
            refine g_if_eq_t rfl (by omega) ?_
            refine g_lload rfl rfl ?_
            refine g_lconst1 rfl ?_
            refine g_ladd rfl (by omega) (by omega) ?_
            refine g_top (v2 := aJ (((t + 1 : Nat) : Int))) (congrArg aJ (by rfl)) ?_
            refine g_lstore (l1 := [(30, aJ (((t + 1 : Nat) : Int))), (26, aI 0), (29, aI 0), (27, aJ ((t : Int))), (9, aI bl), (10, aJ ((a : Int))), (12, aJ ((b : Int))), (14, aJ ((u : Int))), (16, aJ ((f : Int))), (18, aJ ((p0 : Int))), (20, aJ ((q0 : Int))), (22, aJ ((p1 : Int))), (24, aJ ((q1 : Int))), (0, aO (some o)), (1, aJ n), (3, aJ dd), (5, aJ m), (7, aJ e)]) rfl rfl ?_
            refine g_lload rfl rfl ?_
            refine g_lload rfl rfl ?_
            refine g_lmul rfl (by omega) (by omega) ?_
            refine g_lload rfl rfl ?_
            refine g_ladd rfl (by omega) (by omega) ?_
            refine g_lstore (l1 := [(32, aJ (((((t + 1 : Nat) : Int)) * ((p1 : Int))) + ((p0 : Int)))), (30, aJ (((t + 1 : Nat) : Int))), (26, aI 0), (29, aI 0), (27, aJ ((t : Int))), (9, aI bl), (10, aJ ((a : Int))), (12, aJ ((b : Int))), (14, aJ ((u : Int))), (16, aJ ((f : Int))), (18, aJ ((p0 : Int))), (20, aJ ((q0 : Int))), (22, aJ ((p1 : Int))), (24, aJ ((q1 : Int))), (0, aO (some o)), (1, aJ n), (3, aJ dd), (5, aJ m), (7, aJ e)]) rfl rfl ?_
            refine g_lload rfl rfl ?_
            refine g_lload rfl rfl ?_
            refine g_lmul rfl (by omega) (by omega) ?_
            refine g_lload rfl rfl ?_
            refine g_ladd rfl (by omega) (by omega) ?_
            refine g_lstore (l1 := [(34, aJ (((((t + 1 : Nat) : Int)) * ((q1 : Int))) + ((q0 : Int)))), (32, aJ (((((t + 1 : Nat) : Int)) * ((p1 : Int))) + ((p0 : Int)))), (30, aJ (((t + 1 : Nat) : Int))), (26, aI 0), (29, aI 0), (27, aJ ((t : Int))), (9, aI bl), (10, aJ ((a : Int))), (12, aJ ((b : Int))), (14, aJ ((u : Int))), (16, aJ ((f : Int))), (18, aJ ((p0 : Int))), (20, aJ ((q0 : Int))), (22, aJ ((p1 : Int))), (24, aJ ((q1 : Int))), (0, aO (some o)), (1, aJ n), (3, aJ dd), (5, aJ m), (7, aJ e)]) rfl rfl ?_
            refine g_lload rfl rfl ?_
            refine g_lstore (l1 := [(18, aJ ((p1 : Int))), (34, aJ (((((t + 1 : Nat) : Int)) * ((q1 : Int))) + ((q0 : Int)))), (32, aJ (((((t + 1 : Nat) : Int)) * ((p1 : Int))) + ((p0 : Int)))), (30, aJ (((t + 1 : Nat) : Int))), (26, aI 0), (29, aI 0), (27, aJ ((t : Int))), (9, aI bl), (10, aJ ((a : Int))), (12, aJ ((b : Int))), (14, aJ ((u : Int))), (16, aJ ((f : Int))), (20, aJ ((q0 : Int))), (22, aJ ((p1 : Int))), (24, aJ ((q1 : Int))), (0, aO (some o)), (1, aJ n), (3, aJ dd), (5, aJ m), (7, aJ e)]) rfl rfl ?_
            refine g_lload rfl rfl ?_
            refine g_lstore (l1 := [(20, aJ ((q1 : Int))), (18, aJ ((p1 : Int))), (34, aJ (((((t + 1 : Nat) : Int)) * ((q1 : Int))) + ((q0 : Int)))), (32, aJ (((((t + 1 : Nat) : Int)) * ((p1 : Int))) + ((p0 : Int)))), (30, aJ (((t + 1 : Nat) : Int))), (26, aI 0), (29, aI 0), (27, aJ ((t : Int))), (9, aI bl), (10, aJ ((a : Int))), (12, aJ ((b : Int))), (14, aJ ((u : Int))), (16, aJ ((f : Int))), (22, aJ ((p1 : Int))), (24, aJ ((q1 : Int))), (0, aO (some o)), (1, aJ n), (3, aJ dd), (5, aJ m), (7, aJ e)]) rfl rfl ?_
            refine g_lload rfl rfl ?_
            refine g_lstore (l1 := [(22, aJ (((((t + 1 : Nat) : Int)) * ((p1 : Int))) + ((p0 : Int)))), (20, aJ ((q1 : Int))), (18, aJ ((p1 : Int))), (34, aJ (((((t + 1 : Nat) : Int)) * ((q1 : Int))) + ((q0 : Int)))), (32, aJ (((((t + 1 : Nat) : Int)) * ((p1 : Int))) + ((p0 : Int)))), (30, aJ (((t + 1 : Nat) : Int))), (26, aI 0), (29, aI 0), (27, aJ ((t : Int))), (9, aI bl), (10, aJ ((a : Int))), (12, aJ ((b : Int))), (14, aJ ((u : Int))), (16, aJ ((f : Int))), (24, aJ ((q1 : Int))), (0, aO (some o)), (1, aJ n), (3, aJ dd), (5, aJ m), (7, aJ e)]) rfl rfl ?_
            refine g_lload rfl rfl ?_
            refine g_lstore (l1 := [(24, aJ (((((t + 1 : Nat) : Int)) * ((q1 : Int))) + ((q0 : Int)))), (22, aJ (((((t + 1 : Nat) : Int)) * ((p1 : Int))) + ((p0 : Int)))), (20, aJ ((q1 : Int))), (18, aJ ((p1 : Int))), (34, aJ (((((t + 1 : Nat) : Int)) * ((q1 : Int))) + ((q0 : Int)))), (32, aJ (((((t + 1 : Nat) : Int)) * ((p1 : Int))) + ((p0 : Int)))), (30, aJ (((t + 1 : Nat) : Int))), (26, aI 0), (29, aI 0), (27, aJ ((t : Int))), (9, aI bl), (10, aJ ((a : Int))), (12, aJ ((b : Int))), (14, aJ ((u : Int))), (16, aJ ((f : Int))), (0, aO (some o)), (1, aJ n), (3, aJ dd), (5, aJ m), (7, aJ e)]) rfl rfl ?_
            refine g_iload rfl rfl ?_
            refine g_if_eq_t rfl (by omega) ?_
            refine g_goto rfl ?_
            refine g_ls [7, 10, 11, 12, 13, 14, 3, 2, 1, 0, 15, 16, 17, 18, 19] rfl rfl ?_
            exact ih107 (k + 1) R _ _ _ _ _ _ _ _ _ _ (by omega) (by exact hR) (by first | (rw [show (1 : Int) - 1 = 0 from rfl]; exact SmX.c iI iT iE ht (by omega) (by omega)) | (rw [show (1 : Int) - 0 = 1 from rfl]; first | exact SmX.a iI iE ht (by omega) | exact SmX.b iI iE ht (by omega) (by omega))) (by omega)
          · skip
            refine g_iconst rfl ?_
            refine g_goto rfl ?_
            refine g_istore (l1 := [(26, aI 1), (29, aI 0), (27, aJ ((t : Int))), (9, aI bl), (10, aJ ((a : Int))), (12, aJ ((b : Int))), (14, aJ ((u : Int))), (16, aJ ((f : Int))), (18, aJ ((p0 : Int))), (20, aJ ((q0 : Int))), (22, aJ ((p1 : Int))), (24, aJ ((q1 : Int))), (0, aO (some o)), (1, aJ n), (3, aJ dd), (5, aJ m), (7, aJ e)]) rfl rfl ?_
            refine g_iload rfl rfl ?_
            refine g_if_ne_f rfl (by omega) ?_
            refine g_iload rfl rfl ?_
            refine g_if_eq_f rfl (by omega) ?_
            refine g_lload rfl rfl ?_
            refine g_goto rfl ?_
            refine g_top (v2 := aJ ((t : Int))) (congrArg aJ (by rfl)) ?_
            refine g_lstore (l1 := [(30, aJ ((t : Int))), (26, aI 1), (29, aI 0), (27, aJ ((t : Int))), (9, aI bl), (10, aJ ((a : Int))), (12, aJ ((b : Int))), (14, aJ ((u : Int))), (16, aJ ((f : Int))), (18, aJ ((p0 : Int))), (20, aJ ((q0 : Int))), (22, aJ ((p1 : Int))), (24, aJ ((q1 : Int))), (0, aO (some o)), (1, aJ n), (3, aJ dd), (5, aJ m), (7, aJ e)]) rfl rfl ?_
            refine g_lload rfl rfl ?_
            refine g_lload rfl rfl ?_
            refine g_lmul rfl (by omega) (by omega) ?_
            refine g_lload rfl rfl ?_
            refine g_ladd rfl (by omega) (by omega) ?_
            refine g_lstore (l1 := [(32, aJ ((((t : Int)) * ((p1 : Int))) + ((p0 : Int)))), (30, aJ ((t : Int))), (26, aI 1), (29, aI 0), (27, aJ ((t : Int))), (9, aI bl), (10, aJ ((a : Int))), (12, aJ ((b : Int))), (14, aJ ((u : Int))), (16, aJ ((f : Int))), (18, aJ ((p0 : Int))), (20, aJ ((q0 : Int))), (22, aJ ((p1 : Int))), (24, aJ ((q1 : Int))), (0, aO (some o)), (1, aJ n), (3, aJ dd), (5, aJ m), (7, aJ e)]) rfl rfl ?_
            refine g_lload rfl rfl ?_
            refine g_lload rfl rfl ?_
            refine g_lmul rfl (by omega) (by omega) ?_
            refine g_lload rfl rfl ?_
            refine g_ladd rfl (by omega) (by omega) ?_
            refine g_lstore (l1 := [(34, aJ ((((t : Int)) * ((q1 : Int))) + ((q0 : Int)))), (32, aJ ((((t : Int)) * ((p1 : Int))) + ((p0 : Int)))), (30, aJ ((t : Int))), (26, aI 1), (29, aI 0), (27, aJ ((t : Int))), (9, aI bl), (10, aJ ((a : Int))), (12, aJ ((b : Int))), (14, aJ ((u : Int))), (16, aJ ((f : Int))), (18, aJ ((p0 : Int))), (20, aJ ((q0 : Int))), (22, aJ ((p1 : Int))), (24, aJ ((q1 : Int))), (0, aO (some o)), (1, aJ n), (3, aJ dd), (5, aJ m), (7, aJ e)]) rfl rfl ?_
            refine g_lload rfl rfl ?_
            refine g_lstore (l1 := [(18, aJ ((p1 : Int))), (34, aJ ((((t : Int)) * ((q1 : Int))) + ((q0 : Int)))), (32, aJ ((((t : Int)) * ((p1 : Int))) + ((p0 : Int)))), (30, aJ ((t : Int))), (26, aI 1), (29, aI 0), (27, aJ ((t : Int))), (9, aI bl), (10, aJ ((a : Int))), (12, aJ ((b : Int))), (14, aJ ((u : Int))), (16, aJ ((f : Int))), (20, aJ ((q0 : Int))), (22, aJ ((p1 : Int))), (24, aJ ((q1 : Int))), (0, aO (some o)), (1, aJ n), (3, aJ dd), (5, aJ m), (7, aJ e)]) rfl rfl ?_
            refine g_lload rfl rfl ?_
            refine g_lstore (l1 := [(20, aJ ((q1 : Int))), (18, aJ ((p1 : Int))), (34, aJ ((((t : Int)) * ((q1 : Int))) + ((q0 : Int)))), (32, aJ ((((t : Int)) * ((p1 : Int))) + ((p0 : Int)))), (30, aJ ((t : Int))), (26, aI 1), (29, aI 0), (27, aJ ((t : Int))), (9, aI bl), (10, aJ ((a : Int))), (12, aJ ((b : Int))), (14, aJ ((u : Int))), (16, aJ ((f : Int))), (22, aJ ((p1 : Int))), (24, aJ ((q1 : Int))), (0, aO (some o)), (1, aJ n), (3, aJ dd), (5, aJ m), (7, aJ e)]) rfl rfl ?_
            refine g_lload rfl rfl ?_
            refine g_lstore (l1 := [(22, aJ ((((t : Int)) * ((p1 : Int))) + ((p0 : Int)))), (20, aJ ((q1 : Int))), (18, aJ ((p1 : Int))), (34, aJ ((((t : Int)) * ((q1 : Int))) + ((q0 : Int)))), (32, aJ ((((t : Int)) * ((p1 : Int))) + ((p0 : Int)))), (30, aJ ((t : Int))), (26, aI 1), (29, aI 0), (27, aJ ((t : Int))), (9, aI bl), (10, aJ ((a : Int))), (12, aJ ((b : Int))), (14, aJ ((u : Int))), (16, aJ ((f : Int))), (24, aJ ((q1 : Int))), (0, aO (some o)), (1, aJ n), (3, aJ dd), (5, aJ m), (7, aJ e)]) rfl rfl ?_
            refine g_lload rfl rfl ?_
            refine g_lstore (l1 := [(24, aJ ((((t : Int)) * ((q1 : Int))) + ((q0 : Int)))), (22, aJ ((((t : Int)) * ((p1 : Int))) + ((p0 : Int)))), (20, aJ ((q1 : Int))), (18, aJ ((p1 : Int))), (34, aJ ((((t : Int)) * ((q1 : Int))) + ((q0 : Int)))), (32, aJ ((((t : Int)) * ((p1 : Int))) + ((p0 : Int)))), (30, aJ ((t : Int))), (26, aI 1), (29, aI 0), (27, aJ ((t : Int))), (9, aI bl), (10, aJ ((a : Int))), (12, aJ ((b : Int))), (14, aJ ((u : Int))), (16, aJ ((f : Int))), (0, aO (some o)), (1, aJ n), (3, aJ dd), (5, aJ m), (7, aJ e)]) rfl rfl ?_
            refine g_iload rfl rfl ?_
            refine g_if_eq_f rfl (by omega) ?_
            refine g_lload rfl rfl ?_
            refine g_lload rfl rfl ?_
            refine g_lload rfl rfl ?_
            refine g_lmul rfl (by omega) (by omega) ?_
            refine g_lsub rfl (by omega) (by omega) ?_
            refine g_top (v2 := aJ (((a - t * b : Nat) : Int))) (congrArg aJ (by omega)) ?_
            refine g_lstore (l1 := [(36, aJ (((a - t * b : Nat) : Int))), (24, aJ ((((t : Int)) * ((q1 : Int))) + ((q0 : Int)))), (22, aJ ((((t : Int)) * ((p1 : Int))) + ((p0 : Int)))), (20, aJ ((q1 : Int))), (18, aJ ((p1 : Int))), (34, aJ ((((t : Int)) * ((q1 : Int))) + ((q0 : Int)))), (32, aJ ((((t : Int)) * ((p1 : Int))) + ((p0 : Int)))), (30, aJ ((t : Int))), (26, aI 1), (29, aI 0), (27, aJ ((t : Int))), (9, aI bl), (10, aJ ((a : Int))), (12, aJ ((b : Int))), (14, aJ ((u : Int))), (16, aJ ((f : Int))), (0, aO (some o)), (1, aJ n), (3, aJ dd), (5, aJ m), (7, aJ e)]) rfl rfl ?_
            refine g_lload rfl rfl ?_
            refine g_lload rfl rfl ?_
            refine g_lload rfl rfl ?_
            refine g_lmul rfl (by omega) (by omega) ?_
            refine g_lsub rfl (by omega) (by omega) ?_
            refine g_top (v2 := aJ (((u - t * f : Nat) : Int))) (congrArg aJ (by omega)) ?_
            refine g_lstore (l1 := [(38, aJ (((u - t * f : Nat) : Int))), (36, aJ (((a - t * b : Nat) : Int))), (24, aJ ((((t : Int)) * ((q1 : Int))) + ((q0 : Int)))), (22, aJ ((((t : Int)) * ((p1 : Int))) + ((p0 : Int)))), (20, aJ ((q1 : Int))), (18, aJ ((p1 : Int))), (34, aJ ((((t : Int)) * ((q1 : Int))) + ((q0 : Int)))), (32, aJ ((((t : Int)) * ((p1 : Int))) + ((p0 : Int)))), (30, aJ ((t : Int))), (26, aI 1), (29, aI 0), (27, aJ ((t : Int))), (9, aI bl), (10, aJ ((a : Int))), (12, aJ ((b : Int))), (14, aJ ((u : Int))), (16, aJ ((f : Int))), (0, aO (some o)), (1, aJ n), (3, aJ dd), (5, aJ m), (7, aJ e)]) rfl rfl ?_
            refine g_lload rfl rfl ?_
            refine g_lstore (l1 := [(40, aJ ((f : Int))), (38, aJ (((u - t * f : Nat) : Int))), (36, aJ (((a - t * b : Nat) : Int))), (24, aJ ((((t : Int)) * ((q1 : Int))) + ((q0 : Int)))), (22, aJ ((((t : Int)) * ((p1 : Int))) + ((p0 : Int)))), (20, aJ ((q1 : Int))), (18, aJ ((p1 : Int))), (34, aJ ((((t : Int)) * ((q1 : Int))) + ((q0 : Int)))), (32, aJ ((((t : Int)) * ((p1 : Int))) + ((p0 : Int)))), (30, aJ ((t : Int))), (26, aI 1), (29, aI 0), (27, aJ ((t : Int))), (9, aI bl), (10, aJ ((a : Int))), (12, aJ ((b : Int))), (14, aJ ((u : Int))), (16, aJ ((f : Int))), (0, aO (some o)), (1, aJ n), (3, aJ dd), (5, aJ m), (7, aJ e)]) rfl rfl ?_
            refine g_lload rfl rfl ?_
            refine g_lstore (l1 := [(42, aJ (((u - t * f : Nat) : Int))), (40, aJ ((f : Int))), (38, aJ (((u - t * f : Nat) : Int))), (36, aJ (((a - t * b : Nat) : Int))), (24, aJ ((((t : Int)) * ((q1 : Int))) + ((q0 : Int)))), (22, aJ ((((t : Int)) * ((p1 : Int))) + ((p0 : Int)))), (20, aJ ((q1 : Int))), (18, aJ ((p1 : Int))), (34, aJ ((((t : Int)) * ((q1 : Int))) + ((q0 : Int)))), (32, aJ ((((t : Int)) * ((p1 : Int))) + ((p0 : Int)))), (30, aJ ((t : Int))), (26, aI 1), (29, aI 0), (27, aJ ((t : Int))), (9, aI bl), (10, aJ ((a : Int))), (12, aJ ((b : Int))), (14, aJ ((u : Int))), (16, aJ ((f : Int))), (0, aO (some o)), (1, aJ n), (3, aJ dd), (5, aJ m), (7, aJ e)]) rfl rfl ?_
            refine g_lload rfl rfl ?_
            refine g_lstore (l1 := [(14, aJ ((b : Int))), (42, aJ (((u - t * f : Nat) : Int))), (40, aJ ((f : Int))), (38, aJ (((u - t * f : Nat) : Int))), (36, aJ (((a - t * b : Nat) : Int))), (24, aJ ((((t : Int)) * ((q1 : Int))) + ((q0 : Int)))), (22, aJ ((((t : Int)) * ((p1 : Int))) + ((p0 : Int)))), (20, aJ ((q1 : Int))), (18, aJ ((p1 : Int))), (34, aJ ((((t : Int)) * ((q1 : Int))) + ((q0 : Int)))), (32, aJ ((((t : Int)) * ((p1 : Int))) + ((p0 : Int)))), (30, aJ ((t : Int))), (26, aI 1), (29, aI 0), (27, aJ ((t : Int))), (9, aI bl), (10, aJ ((a : Int))), (12, aJ ((b : Int))), (16, aJ ((f : Int))), (0, aO (some o)), (1, aJ n), (3, aJ dd), (5, aJ m), (7, aJ e)]) rfl rfl ?_
            refine g_lload rfl rfl ?_
            refine g_lstore (l1 := [(16, aJ (((a - t * b : Nat) : Int))), (14, aJ ((b : Int))), (42, aJ (((u - t * f : Nat) : Int))), (40, aJ ((f : Int))), (38, aJ (((u - t * f : Nat) : Int))), (36, aJ (((a - t * b : Nat) : Int))), (24, aJ ((((t : Int)) * ((q1 : Int))) + ((q0 : Int)))), (22, aJ ((((t : Int)) * ((p1 : Int))) + ((p0 : Int)))), (20, aJ ((q1 : Int))), (18, aJ ((p1 : Int))), (34, aJ ((((t : Int)) * ((q1 : Int))) + ((q0 : Int)))), (32, aJ ((((t : Int)) * ((p1 : Int))) + ((p0 : Int)))), (30, aJ ((t : Int))), (26, aI 1), (29, aI 0), (27, aJ ((t : Int))), (9, aI bl), (10, aJ ((a : Int))), (12, aJ ((b : Int))), (0, aO (some o)), (1, aJ n), (3, aJ dd), (5, aJ m), (7, aJ e)]) rfl rfl ?_
            refine g_lload rfl rfl ?_
            refine g_lstore (l1 := [(10, aJ ((f : Int))), (16, aJ (((a - t * b : Nat) : Int))), (14, aJ ((b : Int))), (42, aJ (((u - t * f : Nat) : Int))), (40, aJ ((f : Int))), (38, aJ (((u - t * f : Nat) : Int))), (36, aJ (((a - t * b : Nat) : Int))), (24, aJ ((((t : Int)) * ((q1 : Int))) + ((q0 : Int)))), (22, aJ ((((t : Int)) * ((p1 : Int))) + ((p0 : Int)))), (20, aJ ((q1 : Int))), (18, aJ ((p1 : Int))), (34, aJ ((((t : Int)) * ((q1 : Int))) + ((q0 : Int)))), (32, aJ ((((t : Int)) * ((p1 : Int))) + ((p0 : Int)))), (30, aJ ((t : Int))), (26, aI 1), (29, aI 0), (27, aJ ((t : Int))), (9, aI bl), (12, aJ ((b : Int))), (0, aO (some o)), (1, aJ n), (3, aJ dd), (5, aJ m), (7, aJ e)]) rfl rfl ?_
            refine g_lload rfl rfl ?_
            refine g_lstore (l1 := [(12, aJ (((u - t * f : Nat) : Int))), (10, aJ ((f : Int))), (16, aJ (((a - t * b : Nat) : Int))), (14, aJ ((b : Int))), (42, aJ (((u - t * f : Nat) : Int))), (40, aJ ((f : Int))), (38, aJ (((u - t * f : Nat) : Int))), (36, aJ (((a - t * b : Nat) : Int))), (24, aJ ((((t : Int)) * ((q1 : Int))) + ((q0 : Int)))), (22, aJ ((((t : Int)) * ((p1 : Int))) + ((p0 : Int)))), (20, aJ ((q1 : Int))), (18, aJ ((p1 : Int))), (34, aJ ((((t : Int)) * ((q1 : Int))) + ((q0 : Int)))), (32, aJ ((((t : Int)) * ((p1 : Int))) + ((p0 : Int)))), (30, aJ ((t : Int))), (26, aI 1), (29, aI 0), (27, aJ ((t : Int))), (9, aI bl), (0, aO (some o)), (1, aJ n), (3, aJ dd), (5, aJ m), (7, aJ e)]) rfl rfl ?_
            refine g_goto rfl ?_
            refine g_ls [15, 18, 1, 0, 3, 2, 11, 10, 9, 8, 19, 20, 21, 22, 23] rfl rfl ?_
            exact ih107 (k + 1) R _ _ _ _ _ _ _ _ _ _ (by omega) (by exact hR) (by first | (rw [show (1 : Int) - 1 = 0 from rfl]; exact SmX.c iI iT iE ht (by omega) (by omega)) | (rw [show (1 : Int) - 0 = 1 from rfl]; first | exact SmX.a iI iE ht (by omega) | exact SmX.b iI iE ht (by omega) (by omega))) (by omega)
        · skip
          refine g_iconst rfl ?_
          refine g_goto rfl ?_
          refine g_istore (l1 := [(29, aI 1), (27, aJ ((t : Int))), (26, aI mo), (9, aI bl), (10, aJ ((a : Int))), (12, aJ ((b : Int))), (14, aJ ((u : Int))), (16, aJ ((f : Int))), (18, aJ ((p0 : Int))), (20, aJ ((q0 : Int))), (22, aJ ((p1 : Int))), (24, aJ ((q1 : Int))), (0, aO (some o)), (1, aJ n), (3, aJ dd), (5, aJ m), (7, aJ e)]) rfl rfl ?_
          refine g_iload rfl rfl ?_
          refine g_if_ne_t rfl (by omega) ?_
          refine g_iconst rfl ?_
          refine g_istore (l1 := [(26, aI 0), (29, aI 1), (27, aJ ((t : Int))), (9, aI bl), (10, aJ ((a : Int))), (12, aJ ((b : Int))), (14, aJ ((u : Int))), (16, aJ ((f : Int))), (18, aJ ((p0 : Int))), (20, aJ ((q0 : Int))), (22, aJ ((p1 : Int))), (24, aJ ((q1 : Int))), (0, aO (some o)), (1, aJ n), (3, aJ dd), (5, aJ m), (7, aJ e)]) rfl rfl ?_
          refine g_iload rfl rfl ?_
          refine g_if_ne_t rfl (by omega) ?_
          refine g_lload rfl rfl ?_
          refine g_goto rfl ?_
          refine g_top (v2 := aJ ((t : Int))) (congrArg aJ (by rfl)) ?_
          refine g_lstore (l1 := [(30, aJ ((t : Int))), (26, aI 0), (29, aI 1), (27, aJ ((t : Int))), (9, aI bl), (10, aJ ((a : Int))), (12, aJ ((b : Int))), (14, aJ ((u : Int))), (16, aJ ((f : Int))), (18, aJ ((p0 : Int))), (20, aJ ((q0 : Int))), (22, aJ ((p1 : Int))), (24, aJ ((q1 : Int))), (0, aO (some o)), (1, aJ n), (3, aJ dd), (5, aJ m), (7, aJ e)]) rfl rfl ?_
          refine g_lload rfl rfl ?_
          refine g_lload rfl rfl ?_
          refine g_lmul rfl (by omega) (by omega) ?_
          refine g_lload rfl rfl ?_
          refine g_ladd rfl (by omega) (by omega) ?_
          refine g_lstore (l1 := [(32, aJ ((((t : Int)) * ((p1 : Int))) + ((p0 : Int)))), (30, aJ ((t : Int))), (26, aI 0), (29, aI 1), (27, aJ ((t : Int))), (9, aI bl), (10, aJ ((a : Int))), (12, aJ ((b : Int))), (14, aJ ((u : Int))), (16, aJ ((f : Int))), (18, aJ ((p0 : Int))), (20, aJ ((q0 : Int))), (22, aJ ((p1 : Int))), (24, aJ ((q1 : Int))), (0, aO (some o)), (1, aJ n), (3, aJ dd), (5, aJ m), (7, aJ e)]) rfl rfl ?_
          refine g_lload rfl rfl ?_
          refine g_lload rfl rfl ?_
          refine g_lmul rfl (by omega) (by omega) ?_
          refine g_lload rfl rfl ?_
          refine g_ladd rfl (by omega) (by omega) ?_
          refine g_lstore (l1 := [(34, aJ ((((t : Int)) * ((q1 : Int))) + ((q0 : Int)))), (32, aJ ((((t : Int)) * ((p1 : Int))) + ((p0 : Int)))), (30, aJ ((t : Int))), (26, aI 0), (29, aI 1), (27, aJ ((t : Int))), (9, aI bl), (10, aJ ((a : Int))), (12, aJ ((b : Int))), (14, aJ ((u : Int))), (16, aJ ((f : Int))), (18, aJ ((p0 : Int))), (20, aJ ((q0 : Int))), (22, aJ ((p1 : Int))), (24, aJ ((q1 : Int))), (0, aO (some o)), (1, aJ n), (3, aJ dd), (5, aJ m), (7, aJ e)]) rfl rfl ?_
          refine g_lload rfl rfl ?_
          refine g_lstore (l1 := [(18, aJ ((p1 : Int))), (34, aJ ((((t : Int)) * ((q1 : Int))) + ((q0 : Int)))), (32, aJ ((((t : Int)) * ((p1 : Int))) + ((p0 : Int)))), (30, aJ ((t : Int))), (26, aI 0), (29, aI 1), (27, aJ ((t : Int))), (9, aI bl), (10, aJ ((a : Int))), (12, aJ ((b : Int))), (14, aJ ((u : Int))), (16, aJ ((f : Int))), (20, aJ ((q0 : Int))), (22, aJ ((p1 : Int))), (24, aJ ((q1 : Int))), (0, aO (some o)), (1, aJ n), (3, aJ dd), (5, aJ m), (7, aJ e)]) rfl rfl ?_
          refine g_lload rfl rfl ?_
          refine g_lstore (l1 := [(20, aJ ((q1 : Int))), (18, aJ ((p1 : Int))), (34, aJ ((((t : Int)) * ((q1 : Int))) + ((q0 : Int)))), (32, aJ ((((t : Int)) * ((p1 : Int))) + ((p0 : Int)))), (30, aJ ((t : Int))), (26, aI 0), (29, aI 1), (27, aJ ((t : Int))), (9, aI bl), (10, aJ ((a : Int))), (12, aJ ((b : Int))), (14, aJ ((u : Int))), (16, aJ ((f : Int))), (22, aJ ((p1 : Int))), (24, aJ ((q1 : Int))), (0, aO (some o)), (1, aJ n), (3, aJ dd), (5, aJ m), (7, aJ e)]) rfl rfl ?_
          refine g_lload rfl rfl ?_
          refine g_lstore (l1 := [(22, aJ ((((t : Int)) * ((p1 : Int))) + ((p0 : Int)))), (20, aJ ((q1 : Int))), (18, aJ ((p1 : Int))), (34, aJ ((((t : Int)) * ((q1 : Int))) + ((q0 : Int)))), (32, aJ ((((t : Int)) * ((p1 : Int))) + ((p0 : Int)))), (30, aJ ((t : Int))), (26, aI 0), (29, aI 1), (27, aJ ((t : Int))), (9, aI bl), (10, aJ ((a : Int))), (12, aJ ((b : Int))), (14, aJ ((u : Int))), (16, aJ ((f : Int))), (24, aJ ((q1 : Int))), (0, aO (some o)), (1, aJ n), (3, aJ dd), (5, aJ m), (7, aJ e)]) rfl rfl ?_
          refine g_lload rfl rfl ?_
          refine g_lstore (l1 := [(24, aJ ((((t : Int)) * ((q1 : Int))) + ((q0 : Int)))), (22, aJ ((((t : Int)) * ((p1 : Int))) + ((p0 : Int)))), (20, aJ ((q1 : Int))), (18, aJ ((p1 : Int))), (34, aJ ((((t : Int)) * ((q1 : Int))) + ((q0 : Int)))), (32, aJ ((((t : Int)) * ((p1 : Int))) + ((p0 : Int)))), (30, aJ ((t : Int))), (26, aI 0), (29, aI 1), (27, aJ ((t : Int))), (9, aI bl), (10, aJ ((a : Int))), (12, aJ ((b : Int))), (14, aJ ((u : Int))), (16, aJ ((f : Int))), (0, aO (some o)), (1, aJ n), (3, aJ dd), (5, aJ m), (7, aJ e)]) rfl rfl ?_
          refine g_iload rfl rfl ?_
          refine g_if_eq_t rfl (by omega) ?_
          refine g_goto rfl ?_
          refine g_ls [7, 10, 11, 12, 13, 14, 3, 2, 1, 0, 15, 16, 17, 18, 19] rfl rfl ?_
          exact ih107 (k + 1) R _ _ _ _ _ _ _ _ _ _ (by omega) (by exact hR) (by first | (rw [show (1 : Int) - 1 = 0 from rfl]; exact SmX.c iI iT iE ht (by omega) (by omega)) | (rw [show (1 : Int) - 0 = 1 from rfl]; first | exact SmX.a iI iE ht (by omega) | exact SmX.b iI iE ht (by omega) (by omega))) (by omega)
  refine g_lload_n rfl rfl ?_
  refine g_lconst0 rfl ?_
  refine g_lc_gt rfl rfl (fun c2 => ?_) (fun c2 => ?_)
  · skip
    refine g_lload rfl rfl ?_
    refine g_lconst0 rfl ?_
    refine g_lc_ge rfl rfl (fun c27 => ?_) (fun c27 => ?_)
    · skip
      refine g_iconst rfl ?_
      refine g_istore (l1 := [(9, aI 0), (0, aO (some o)), (1, aJ n), (3, aJ dd), (5, aJ m), (7, aJ e)]) rfl rfl ?_
      refine g_iload rfl rfl ?_
      refine g_if_eq_t rfl (by omega) ?_
      obtain ⟨R, hRb, hRe, hRx⟩ := SmR.start (x := n) (y := dd) (z := m) (t := e) (by omega) (by omega) (by omega) (by omega) ho
      refine g_lload_n rfl rfl ?_
      refine g_lstore (l1 := [(10, aJ n), (9, aI 0), (0, aO (some o)), (1, aJ n), (3, aJ dd), (5, aJ m), (7, aJ e)]) rfl rfl ?_
      refine g_iload rfl rfl ?_
      refine g_if_eq_t rfl (by omega) ?_
      refine g_lload_n rfl rfl ?_
      refine g_lstore (l1 := [(12, aJ dd), (10, aJ n), (9, aI 0), (0, aO (some o)), (1, aJ n), (3, aJ dd), (5, aJ m), (7, aJ e)]) rfl rfl ?_
      refine g_iload rfl rfl ?_
      refine g_if_eq_t rfl (by omega) ?_
      refine g_lload rfl rfl ?_
      refine g_lstore (l1 := [(14, aJ m), (12, aJ dd), (10, aJ n), (9, aI 0), (0, aO (some o)), (1, aJ n), (3, aJ dd), (5, aJ m), (7, aJ e)]) rfl rfl ?_
      refine g_iload rfl rfl ?_
      refine g_if_eq_t rfl (by omega) ?_
      refine g_lload rfl rfl ?_
      refine g_lstore (l1 := [(16, aJ e), (14, aJ m), (12, aJ dd), (10, aJ n), (9, aI 0), (0, aO (some o)), (1, aJ n), (3, aJ dd), (5, aJ m), (7, aJ e)]) rfl rfl ?_
      refine g_lconst0 rfl ?_
      refine g_lstore (l1 := [(18, aJ 0), (16, aJ e), (14, aJ m), (12, aJ dd), (10, aJ n), (9, aI 0), (0, aO (some o)), (1, aJ n), (3, aJ dd), (5, aJ m), (7, aJ e)]) rfl rfl ?_
      refine g_lconst1 rfl ?_
      refine g_lstore (l1 := [(20, aJ 1), (18, aJ 0), (16, aJ e), (14, aJ m), (12, aJ dd), (10, aJ n), (9, aI 0), (0, aO (some o)), (1, aJ n), (3, aJ dd), (5, aJ m), (7, aJ e)]) rfl rfl ?_
      refine g_lconst1 rfl ?_
      refine g_lstore (l1 := [(22, aJ 1), (20, aJ 1), (18, aJ 0), (16, aJ e), (14, aJ m), (12, aJ dd), (10, aJ n), (9, aI 0), (0, aO (some o)), (1, aJ n), (3, aJ dd), (5, aJ m), (7, aJ e)]) rfl rfl ?_
      refine g_lconst0 rfl ?_
      refine g_lstore (l1 := [(24, aJ 0), (22, aJ 1), (20, aJ 1), (18, aJ 0), (16, aJ e), (14, aJ m), (12, aJ dd), (10, aJ n), (9, aI 0), (0, aO (some o)), (1, aJ n), (3, aJ dd), (5, aJ m), (7, aJ e)]) rfl rfl ?_
      refine g_iconst rfl ?_
      refine g_istore (l1 := [(26, aI 1), (24, aJ 0), (22, aJ 1), (20, aJ 1), (18, aJ 0), (16, aJ e), (14, aJ m), (12, aJ dd), (10, aJ n), (9, aI 0), (0, aO (some o)), (1, aJ n), (3, aJ dd), (5, aJ m), (7, aJ e)]) rfl rfl ?_
      refine g_ls [0, 9, 8, 7, 6, 5, 4, 3, 2, 1, 10, 11, 12, 13, 14] rfl rfl ?_
      exact l107 _ 0 R _ _ _ _ _ _ _ _ _ _ (by omega) (by exact ⟨hRb, by first | exact Or.inl ⟨rfl, by omega, hRe⟩ | exact Or.inr ⟨rfl, by omega, by omega, hRe⟩⟩) (by exact hRx) (Nat.lt_succ_self _)
    · skip
      refine g_iconst rfl ?_
      refine g_goto rfl ?_
      refine g_istore (l1 := [(9, aI 1), (0, aO (some o)), (1, aJ n), (3, aJ dd), (5, aJ m), (7, aJ e)]) rfl rfl ?_
      refine g_iload rfl rfl ?_
      refine g_if_eq_f rfl (by omega) ?_
      obtain ⟨R, hRb, hRe, hRx⟩ := SmR.start (x := -m) (y := e) (z := -n) (t := dd) (by omega) (by omega) (by omega) (by omega) (by rw [Int.neg_mul, Int.neg_mul]; omega)
      refine g_lload rfl rfl ?_
      refine g_lneg2 rfl (by omega) (by omega) ?_
      refine g_goto rfl ?_
      refine g_lstore (l1 := [(10, aJ (-m)), (9, aI 1), (0, aO (some o)), (1, aJ n), (3, aJ dd), (5, aJ m), (7, aJ e)]) rfl rfl ?_
      refine g_iload rfl rfl ?_
      refine g_if_eq_f rfl (by omega) ?_
      refine g_lload rfl rfl ?_
      refine g_goto rfl ?_
      refine g_lstore (l1 := [(12, aJ e), (10, aJ (-m)), (9, aI 1), (0, aO (some o)), (1, aJ n), (3, aJ dd), (5, aJ m), (7, aJ e)]) rfl rfl ?_
      refine g_iload rfl rfl ?_
      refine g_if_eq_f rfl (by omega) ?_
      refine g_lload_n rfl rfl ?_
      refine g_lneg2 rfl (by omega) (by omega) ?_
      refine g_goto rfl ?_
      refine g_lstore (l1 := [(14, aJ (-n)), (12, aJ e), (10, aJ (-m)), (9, aI 1), (0, aO (some o)), (1, aJ n), (3, aJ dd), (5, aJ m), (7, aJ e)]) rfl rfl ?_
      refine g_iload rfl rfl ?_
      refine g_if_eq_f rfl (by omega) ?_
      refine g_lload_n rfl rfl ?_
      refine g_goto rfl ?_
      refine g_lstore (l1 := [(16, aJ dd), (14, aJ (-n)), (12, aJ e), (10, aJ (-m)), (9, aI 1), (0, aO (some o)), (1, aJ n), (3, aJ dd), (5, aJ m), (7, aJ e)]) rfl rfl ?_
      refine g_lconst0 rfl ?_
      refine g_lstore (l1 := [(18, aJ 0), (16, aJ dd), (14, aJ (-n)), (12, aJ e), (10, aJ (-m)), (9, aI 1), (0, aO (some o)), (1, aJ n), (3, aJ dd), (5, aJ m), (7, aJ e)]) rfl rfl ?_
      refine g_lconst1 rfl ?_
      refine g_lstore (l1 := [(20, aJ 1), (18, aJ 0), (16, aJ dd), (14, aJ (-n)), (12, aJ e), (10, aJ (-m)), (9, aI 1), (0, aO (some o)), (1, aJ n), (3, aJ dd), (5, aJ m), (7, aJ e)]) rfl rfl ?_
      refine g_lconst1 rfl ?_
      refine g_lstore (l1 := [(22, aJ 1), (20, aJ 1), (18, aJ 0), (16, aJ dd), (14, aJ (-n)), (12, aJ e), (10, aJ (-m)), (9, aI 1), (0, aO (some o)), (1, aJ n), (3, aJ dd), (5, aJ m), (7, aJ e)]) rfl rfl ?_
      refine g_lconst0 rfl ?_
      refine g_lstore (l1 := [(24, aJ 0), (22, aJ 1), (20, aJ 1), (18, aJ 0), (16, aJ dd), (14, aJ (-n)), (12, aJ e), (10, aJ (-m)), (9, aI 1), (0, aO (some o)), (1, aJ n), (3, aJ dd), (5, aJ m), (7, aJ e)]) rfl rfl ?_
      refine g_iconst rfl ?_
      refine g_istore (l1 := [(26, aI 1), (24, aJ 0), (22, aJ 1), (20, aJ 1), (18, aJ 0), (16, aJ dd), (14, aJ (-n)), (12, aJ e), (10, aJ (-m)), (9, aI 1), (0, aO (some o)), (1, aJ n), (3, aJ dd), (5, aJ m), (7, aJ e)]) rfl rfl ?_
      refine g_ls [0, 9, 8, 7, 6, 5, 4, 3, 2, 1, 10, 11, 12, 13, 14] rfl rfl ?_
      exact l107 _ 0 R _ _ _ _ _ _ _ _ _ _ (by omega) (by exact ⟨hRb, by first | exact Or.inl ⟨rfl, by omega, hRe⟩ | exact Or.inr ⟨rfl, by omega, by omega, hRe⟩⟩) (by exact hRx) (Nat.lt_succ_self _)
  · skip
    refine g_lload rfl rfl ?_
    refine g_lconst0 rfl ?_
    refine g_lc_lt rfl rfl (fun c9 => ?_) (fun c9 => ?_)
    · skip
      refine g_lload rfl rfl ?_
      refine g_lconst0 rfl ?_
      refine g_lc_ge rfl rfl (fun c27 => ?_) (fun c27 => ?_)
      · skip
        refine g_iconst rfl ?_
        refine g_istore (l1 := [(9, aI 0), (0, aO (some o)), (1, aJ n), (3, aJ dd), (5, aJ m), (7, aJ e)]) rfl rfl ?_
        refine g_iload rfl rfl ?_
        refine g_if_eq_t rfl (by omega) ?_
        obtain ⟨R, hRb, hRe, hRx⟩ := SmR.start (x := n) (y := dd) (z := m) (t := e) (by omega) (by omega) (by omega) (by omega) ho
        refine g_lload_n rfl rfl ?_
        refine g_lstore (l1 := [(10, aJ n), (9, aI 0), (0, aO (some o)), (1, aJ n), (3, aJ dd), (5, aJ m), (7, aJ e)]) rfl rfl ?_
        refine g_iload rfl rfl ?_
        refine g_if_eq_t rfl (by omega) ?_
        refine g_lload_n rfl rfl ?_
        refine g_lstore (l1 := [(12, aJ dd), (10, aJ n), (9, aI 0), (0, aO (some o)), (1, aJ n), (3, aJ dd), (5, aJ m), (7, aJ e)]) rfl rfl ?_
        refine g_iload rfl rfl ?_
        refine g_if_eq_t rfl (by omega) ?_
        refine g_lload rfl rfl ?_
        refine g_lstore (l1 := [(14, aJ m), (12, aJ dd), (10, aJ n), (9, aI 0), (0, aO (some o)), (1, aJ n), (3, aJ dd), (5, aJ m), (7, aJ e)]) rfl rfl ?_
        refine g_iload rfl rfl ?_
        refine g_if_eq_t rfl (by omega) ?_
        refine g_lload rfl rfl ?_
        refine g_lstore (l1 := [(16, aJ e), (14, aJ m), (12, aJ dd), (10, aJ n), (9, aI 0), (0, aO (some o)), (1, aJ n), (3, aJ dd), (5, aJ m), (7, aJ e)]) rfl rfl ?_
        refine g_lconst0 rfl ?_
        refine g_lstore (l1 := [(18, aJ 0), (16, aJ e), (14, aJ m), (12, aJ dd), (10, aJ n), (9, aI 0), (0, aO (some o)), (1, aJ n), (3, aJ dd), (5, aJ m), (7, aJ e)]) rfl rfl ?_
        refine g_lconst1 rfl ?_
        refine g_lstore (l1 := [(20, aJ 1), (18, aJ 0), (16, aJ e), (14, aJ m), (12, aJ dd), (10, aJ n), (9, aI 0), (0, aO (some o)), (1, aJ n), (3, aJ dd), (5, aJ m), (7, aJ e)]) rfl rfl ?_
        refine g_lconst1 rfl ?_
        refine g_lstore (l1 := [(22, aJ 1), (20, aJ 1), (18, aJ 0), (16, aJ e), (14, aJ m), (12, aJ dd), (10, aJ n), (9, aI 0), (0, aO (some o)), (1, aJ n), (3, aJ dd), (5, aJ m), (7, aJ e)]) rfl rfl ?_
        refine g_lconst0 rfl ?_
        refine g_lstore (l1 := [(24, aJ 0), (22, aJ 1), (20, aJ 1), (18, aJ 0), (16, aJ e), (14, aJ m), (12, aJ dd), (10, aJ n), (9, aI 0), (0, aO (some o)), (1, aJ n), (3, aJ dd), (5, aJ m), (7, aJ e)]) rfl rfl ?_
        refine g_iconst rfl ?_
        refine g_istore (l1 := [(26, aI 1), (24, aJ 0), (22, aJ 1), (20, aJ 1), (18, aJ 0), (16, aJ e), (14, aJ m), (12, aJ dd), (10, aJ n), (9, aI 0), (0, aO (some o)), (1, aJ n), (3, aJ dd), (5, aJ m), (7, aJ e)]) rfl rfl ?_
        refine g_ls [0, 9, 8, 7, 6, 5, 4, 3, 2, 1, 10, 11, 12, 13, 14] rfl rfl ?_
        exact l107 _ 0 R _ _ _ _ _ _ _ _ _ _ (by omega) (by exact ⟨hRb, by first | exact Or.inl ⟨rfl, by omega, hRe⟩ | exact Or.inr ⟨rfl, by omega, by omega, hRe⟩⟩) (by exact hRx) (Nat.lt_succ_self _)
      · skip
        refine g_iconst rfl ?_
        refine g_goto rfl ?_
        refine g_istore (l1 := [(9, aI 1), (0, aO (some o)), (1, aJ n), (3, aJ dd), (5, aJ m), (7, aJ e)]) rfl rfl ?_
        refine g_iload rfl rfl ?_
        refine g_if_eq_f rfl (by omega) ?_
        obtain ⟨R, hRb, hRe, hRx⟩ := SmR.start (x := -m) (y := e) (z := -n) (t := dd) (by omega) (by omega) (by omega) (by omega) (by rw [Int.neg_mul, Int.neg_mul]; omega)
        refine g_lload rfl rfl ?_
        refine g_lneg2 rfl (by omega) (by omega) ?_
        refine g_goto rfl ?_
        refine g_lstore (l1 := [(10, aJ (-m)), (9, aI 1), (0, aO (some o)), (1, aJ n), (3, aJ dd), (5, aJ m), (7, aJ e)]) rfl rfl ?_
        refine g_iload rfl rfl ?_
        refine g_if_eq_f rfl (by omega) ?_
        refine g_lload rfl rfl ?_
        refine g_goto rfl ?_
        refine g_lstore (l1 := [(12, aJ e), (10, aJ (-m)), (9, aI 1), (0, aO (some o)), (1, aJ n), (3, aJ dd), (5, aJ m), (7, aJ e)]) rfl rfl ?_
        refine g_iload rfl rfl ?_
        refine g_if_eq_f rfl (by omega) ?_
        refine g_lload_n rfl rfl ?_
        refine g_lneg2 rfl (by omega) (by omega) ?_
        refine g_goto rfl ?_
        refine g_lstore (l1 := [(14, aJ (-n)), (12, aJ e), (10, aJ (-m)), (9, aI 1), (0, aO (some o)), (1, aJ n), (3, aJ dd), (5, aJ m), (7, aJ e)]) rfl rfl ?_
        refine g_iload rfl rfl ?_
        refine g_if_eq_f rfl (by omega) ?_
        refine g_lload_n rfl rfl ?_
        refine g_goto rfl ?_
        refine g_lstore (l1 := [(16, aJ dd), (14, aJ (-n)), (12, aJ e), (10, aJ (-m)), (9, aI 1), (0, aO (some o)), (1, aJ n), (3, aJ dd), (5, aJ m), (7, aJ e)]) rfl rfl ?_
        refine g_lconst0 rfl ?_
        refine g_lstore (l1 := [(18, aJ 0), (16, aJ dd), (14, aJ (-n)), (12, aJ e), (10, aJ (-m)), (9, aI 1), (0, aO (some o)), (1, aJ n), (3, aJ dd), (5, aJ m), (7, aJ e)]) rfl rfl ?_
        refine g_lconst1 rfl ?_
        refine g_lstore (l1 := [(20, aJ 1), (18, aJ 0), (16, aJ dd), (14, aJ (-n)), (12, aJ e), (10, aJ (-m)), (9, aI 1), (0, aO (some o)), (1, aJ n), (3, aJ dd), (5, aJ m), (7, aJ e)]) rfl rfl ?_
        refine g_lconst1 rfl ?_
        refine g_lstore (l1 := [(22, aJ 1), (20, aJ 1), (18, aJ 0), (16, aJ dd), (14, aJ (-n)), (12, aJ e), (10, aJ (-m)), (9, aI 1), (0, aO (some o)), (1, aJ n), (3, aJ dd), (5, aJ m), (7, aJ e)]) rfl rfl ?_
        refine g_lconst0 rfl ?_
        refine g_lstore (l1 := [(24, aJ 0), (22, aJ 1), (20, aJ 1), (18, aJ 0), (16, aJ dd), (14, aJ (-n)), (12, aJ e), (10, aJ (-m)), (9, aI 1), (0, aO (some o)), (1, aJ n), (3, aJ dd), (5, aJ m), (7, aJ e)]) rfl rfl ?_
        refine g_iconst rfl ?_
        refine g_istore (l1 := [(26, aI 1), (24, aJ 0), (22, aJ 1), (20, aJ 1), (18, aJ 0), (16, aJ dd), (14, aJ (-n)), (12, aJ e), (10, aJ (-m)), (9, aI 1), (0, aO (some o)), (1, aJ n), (3, aJ dd), (5, aJ m), (7, aJ e)]) rfl rfl ?_
        refine g_ls [0, 9, 8, 7, 6, 5, 4, 3, 2, 1, 10, 11, 12, 13, 14] rfl rfl ?_
        exact l107 _ 0 R _ _ _ _ _ _ _ _ _ _ (by omega) (by exact ⟨hRb, by first | exact Or.inl ⟨rfl, by omega, hRe⟩ | exact Or.inr ⟨rfl, by omega, by omega, hRe⟩⟩) (by exact hRx) (Nat.lt_succ_self _)
    · skip
      refine g_aload_n rfl rfl ?_
      refine g_lconst0 rfl ?_
      refine g_putJ rfl ms.1 ?_
      refine g_aload_n rfl rfl ?_
      refine g_lconst1 rfl ?_
      refine g_putJ rfl ms.1 ?_
      refine g_vret rfl ?_
      have e : smpF (n, dd) (m, e) = (0, 1) := by
        unfold smpF
        rw [if_neg (by show ¬ 0 < n; omega), if_neg (by show ¬ m < 0; omega)]
      rw [e]
      rfl
