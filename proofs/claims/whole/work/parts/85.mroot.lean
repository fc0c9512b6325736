/-! the reference's roots, near, fraction: printed by wip/whole/s85.py -/
theorem c_rootOf {w : aW} {d : Nat} (hd : 1 ≤ d) (v : Int) (h : aH) : WP w d 274 [aJ v] h (RJ (fun x h1 => h1 = h ∧ x = (rtF v : Int))) := by
  obtain ⟨d, rfl⟩ : ∃ d1, d = d1 + 1 := ⟨d - 1, by omega⟩
  refine WP.enter (cd := cd_X12_rootOf) rfl ?_
  have hls : largs 0 [aJ v] = [(0, aJ v)] := rfl
  rw [hls]
  clear hls
  have l6 : ∀ (fuel : Nat) (i : Int) (r : Nat), (-1 ≤ i ∧ i ≤ 15) → (r + 2 ^ (i + 1).toNat ≤ 65536) → (rtS (i + 1).toNat r v = rtF v) → (i + 1).toNat < fuel → Wk w d cd_X12_rootOf 6 [(4, aI i), (2, aJ ((r : Int))), (0, aJ v)] [] h (RJ (fun x h1 => h1 = h ∧ x = (rtF v : Int))) := by
    intro fuel
    induction fuel with
    | zero => intros; omega
    | succ fuel ih6 =>
      intro i r hi hs hres hfuel
      have j35 : ∀ (r2 : Nat), (0 ≤ i) → (r2 + 2 ^ (i + -1 + 1).toNat ≤ 65536) → (rtS (i + -1 + 1).toNat r2 v = rtF v) → Wk w d cd_X12_rootOf 35 [(4, aI i), (0, aJ v)] [aJ ((r2 : Int))] h (RJ (fun x h1 => h1 = h ∧ x = (rtF v : Int))) := by
        intro r2 hi0 hs2 hres2
        refine g_lstore_n (l1 := [(2, aJ ((r2 : Int))), (4, aI i), (0, aJ v)]) rfl rfl ?_
        refine g_iinc (l1 := [(4, aI (i + (-1))), (2, aJ ((r2 : Int))), (0, aJ v)]) rfl rfl (by omega) (by omega) rfl ?_
        refine g_goto rfl ?_
        exact ih6 (i + -1) r2 (by omega) (by exact hs2) (by exact hres2) (by omega)
      refine g_iload rfl rfl ?_
      refine g_if_lt rfl (fun c8 => ?_) (fun c8 => ?_)
      · skip
        refine g_lload_n rfl rfl ?_
        refine g_lret rfl ?_
        refine ⟨rfl, ?_⟩
        rw [← hres, show (i + 1).toNat = 0 by omega]
        rfl
      · skip
        refine g_lload_n rfl rfl ?_
        refine g_lconst1 rfl ?_
        refine g_iload rfl rfl ?_
        refine g_lshl rfl ?_
        have hrs := rt_s (by omega) hs
        have hn1 : (0 : Int) ≤ ((2 ^ i.toNat : Nat) : Int) := Int.natCast_nonneg _
        have hn3 : (0 : Int) ≤ ((2 ^ (i + -1 + 1).toNat : Nat) : Int) := Int.natCast_nonneg _
        refine g_top (v2 := aJ (((2 ^ i.toNat : Nat) : Int))) (congrArg aJ (by exact lshl_one (by omega))) ?_
        refine g_ladd rfl (by omega) (by omega) ?_
        refine g_top (v2 := aJ (((r + 2 ^ i.toNat : Nat) : Int))) (congrArg aJ (by omega)) ?_
        refine g_lstore (l1 := [(5, aJ (((r + 2 ^ i.toNat : Nat) : Int))), (4, aI i), (2, aJ ((r : Int))), (0, aJ v)]) rfl rfl ?_
        refine g_lload rfl rfl ?_
        refine g_lload rfl rfl ?_
        have hq := rt_q (by omega) hs
        refine g_lmul rfl (by omega) (by omega) ?_
        refine g_lload_n rfl rfl ?_
        refine g_lc_gt rfl rfl (fun c25 => ?_) (fun c25 => ?_)
        · skip
          refine g_lload_n rfl rfl ?_
          refine g_ls [1, 3] rfl rfl ?_
          exact j35 r (by omega) (by exact (rt_s (by omega) hs).2) (by rw [← rt_b (by omega) (by omega)]; exact hres)
        · skip
          refine g_lload rfl rfl ?_
          refine g_goto rfl ?_
          refine g_ls [1, 3] rfl rfl ?_
          exact j35 (r + 2 ^ i.toNat) (by omega) (by exact (rt_s (by omega) hs).1) (by rw [← rt_a (by omega) (by omega)]; exact hres)
  refine g_lconst0 rfl ?_
  refine g_lstore_n (l1 := [(2, aJ 0), (0, aJ v)]) rfl rfl ?_
  refine g_bipush rfl ?_
  refine g_istore (l1 := [(4, aI 15), (2, aJ 0), (0, aJ v)]) rfl rfl ?_
  exact l6 _ 15 0 (by omega) (by decide) (by rfl) (Nat.lt_succ_self _)
