/-! numbers of both sides: small static methods: printed by wip/whole/s20.py -/
theorem c_in {w : aW} {d : Nat} (hd : 1 ≤ d) (v lo hi : Int) (h : aH) : WP w d 239 [aJ v, aJ lo, aJ hi] h (RI (fun x h1 => h1 = h ∧ x = if lo ≤ v ∧ v ≤ hi then 1 else 0)) := by
  obtain ⟨d, rfl⟩ : ∃ d1, d = d1 + 1 := ⟨d - 1, by omega⟩
  refine WP.enter (cd := cd_X12_in) rfl ?_
  have hls : largs 0 [aJ v, aJ lo, aJ hi] = [(0, aJ v), (2, aJ lo), (4, aJ hi)] := rfl
  rw [hls]
  clear hls
  refine g_lload_n rfl rfl ?_
  refine g_lload_n rfl rfl ?_
  refine g_lc_lt rfl rfl (fun c2 => ?_) (fun c2 => ?_)
  · skip
    refine g_iconst rfl ?_
    refine g_zret rfl (by omega) ?_
    refine ⟨rfl, ?_⟩
    split <;> omega
  · skip
    refine g_lload_n rfl rfl ?_
    refine g_lload rfl rfl ?_
    refine g_lc_gt rfl rfl (fun c9 => ?_) (fun c9 => ?_)
    · skip
      refine g_iconst rfl ?_
      refine g_zret rfl (by omega) ?_
      refine ⟨rfl, ?_⟩
      split <;> omega
    · skip
      refine g_iconst rfl ?_
      refine g_goto rfl ?_
      refine g_zret rfl (by omega) ?_
      refine ⟨rfl, ?_⟩
      split <;> omega
theorem c_lesser {w : aW} {d : Nat} (hd : 1 ≤ d) (x y : Int) (h : aH) : WP w d 240 [aJ x, aJ y] h (RJ (fun v h1 => h1 = h ∧ v = min x y)) := by
  obtain ⟨d, rfl⟩ : ∃ d1, d = d1 + 1 := ⟨d - 1, by omega⟩
  refine WP.enter (cd := cd_X12_lesser) rfl ?_
  have hls : largs 0 [aJ x, aJ y] = [(0, aJ x), (2, aJ y)] := rfl
  rw [hls]
  clear hls
  refine g_lload_n rfl rfl ?_
  refine g_lload_n rfl rfl ?_
  refine g_lc_ge rfl rfl (fun c2 => ?_) (fun c2 => ?_)
  · skip
    refine g_lload_n rfl rfl ?_
    refine g_lret rfl ?_
    refine ⟨rfl, ?_⟩
    omega
  · skip
    refine g_lload_n rfl rfl ?_
    refine g_goto rfl ?_
    refine g_lret rfl ?_
    refine ⟨rfl, ?_⟩
    omega
theorem c_greater {w : aW} {d : Nat} (hd : 1 ≤ d) (x y : Int) (h : aH) : WP w d 241 [aJ x, aJ y] h (RJ (fun v h1 => h1 = h ∧ v = max x y)) := by
  obtain ⟨d, rfl⟩ : ∃ d1, d = d1 + 1 := ⟨d - 1, by omega⟩
  refine WP.enter (cd := cd_X12_greater) rfl ?_
  have hls : largs 0 [aJ x, aJ y] = [(0, aJ x), (2, aJ y)] := rfl
  rw [hls]
  clear hls
  refine g_lload_n rfl rfl ?_
  refine g_lload_n rfl rfl ?_
  refine g_lc_le rfl rfl (fun c2 => ?_) (fun c2 => ?_)
  · skip
    refine g_lload_n rfl rfl ?_
    refine g_lret rfl ?_
    refine ⟨rfl, ?_⟩
    omega
  · skip
    refine g_lload_n rfl rfl ?_
    refine g_goto rfl ?_
    refine g_lret rfl ?_
    refine ⟨rfl, ?_⟩
    omega
theorem c_sizeOf {w : aW} {d : Nat} (hd : 1 ≤ d) (x : Int) (hx : -9223372036854775808 < x ∧ x < 9223372036854775808) (h : aH) : WP w d 242 [aJ x] h (RJ (fun v h1 => h1 = h ∧ v = x.natAbs)) := by
  obtain ⟨d, rfl⟩ : ∃ d1, d = d1 + 1 := ⟨d - 1, by omega⟩
  refine WP.enter (cd := cd_X12_sizeOf) rfl ?_
  have hls : largs 0 [aJ x] = [(0, aJ x)] := rfl
  rw [hls]
  clear hls
  refine g_lload_n rfl rfl ?_
  refine g_lconst0 rfl ?_
  refine g_lc_ge rfl rfl (fun c2 => ?_) (fun c2 => ?_)
  · skip
    refine g_lload_n rfl rfl ?_
    refine g_lret rfl ?_
    refine ⟨rfl, ?_⟩
    first | omega | (unfold w64; omega)
  · skip
    refine g_lload_n rfl rfl ?_
    refine g_lneg rfl ?_
    refine g_goto rfl ?_
    refine g_lret rfl ?_
    refine ⟨rfl, ?_⟩
    first | omega | (unfold w64; omega)
theorem c_divisor {w : aW} {d : Nat} (hd : 1 ≤ d) (x y : Int) (hx : -9223372036854775808 < x ∧ x < 9223372036854775808) (hy : -9223372036854775808 < y ∧ y < 9223372036854775808) (h : aH) : WP w d 267 [aJ x, aJ y] h (RJ (fun v h1 => h1 = h ∧ v = (Int.gcd x y : Int))) := by
  obtain ⟨d, rfl⟩ : ∃ d1, d = d1 + 1 := ⟨d - 1, by omega⟩
  refine WP.enter (cd := cd_X12_divisor) rfl ?_
  have hls : largs 0 [aJ x, aJ y] = [(0, aJ x), (2, aJ y)] := rfl
  rw [hls]
  clear hls
  have l28 : ∀ (fuel : Nat) (a b : Nat), Nat.gcd a b = Int.gcd x y → a < 9223372036854775808 → b < 9223372036854775808 → b < fuel → Wk w d cd_X12_divisor 28 [(6, aJ ((b : Int))), (4, aJ ((a : Int))), (0, aJ x), (2, aJ y)] [] h (RJ (fun v h1 => h1 = h ∧ v = (Int.gcd x y : Int))) := by
    intro fuel
    induction fuel with
    | zero => intros; omega
    | succ fuel ih28 =>
      intro a b hab ha hb hfuel
      refine g_lload rfl rfl ?_
      refine g_lconst0 rfl ?_
      refine g_lc_eq rfl rfl (fun c31 => ?_) (fun c31 => ?_)
      · skip
        refine g_lload rfl rfl ?_
        refine g_lret rfl ?_
        refine ⟨rfl, ?_⟩
        subst_vars
        simp at c31
        simp [← hab, c31]
      · skip
        refine g_lload rfl rfl ?_
        refine g_lload rfl rfl ?_
        refine g_lrem rfl (by omega) ?_
        refine g_lstore (l1 := [(8, aJ (((a : Int)).tmod ((b : Int)))), (6, aJ ((b : Int))), (4, aJ ((a : Int))), (0, aJ x), (2, aJ y)]) rfl rfl ?_
        refine g_lload rfl rfl ?_
        refine g_lstore (l1 := [(4, aJ ((b : Int))), (8, aJ (((a : Int)).tmod ((b : Int)))), (6, aJ ((b : Int))), (0, aJ x), (2, aJ y)]) rfl rfl ?_
        refine g_lload rfl rfl ?_
        refine g_lstore (l1 := [(6, aJ (((a : Int)).tmod ((b : Int)))), (4, aJ ((b : Int))), (8, aJ (((a : Int)).tmod ((b : Int)))), (0, aJ x), (2, aJ y)]) rfl rfl ?_
        refine g_goto rfl ?_
        refine g_ls [0, 1, 3, 4] rfl rfl ?_
        exact ih28 b (a % b) (by rw [← hab, Nat.gcd_comm a b, Nat.gcd_rec b a, Nat.gcd_comm]) (by omega) (by have := Nat.mod_lt a (show 0 < b by omega); omega) (by have := Nat.mod_lt a (show 0 < b by omega); omega)
  refine g_lload_n rfl rfl ?_
  refine g_lconst0 rfl ?_
  refine g_lc_ge rfl rfl (fun c2 => ?_) (fun c2 => ?_)
  · skip
    refine g_lload_n rfl rfl ?_
    refine g_top (v2 := aJ ((x.natAbs : Int))) (congrArg aJ (by first | omega | (unfold w64; omega) | (unfold w32; omega))) ?_
    refine g_lstore (l1 := [(4, aJ ((x.natAbs : Int))), (0, aJ x), (2, aJ y)]) rfl rfl ?_
    refine g_lload_n rfl rfl ?_
    refine g_lconst0 rfl ?_
    refine g_lc_ge rfl rfl (fun c16 => ?_) (fun c16 => ?_)
    · skip
      refine g_lload_n rfl rfl ?_
      refine g_top (v2 := aJ ((y.natAbs : Int))) (congrArg aJ (by first | omega | (unfold w64; omega) | (unfold w32; omega))) ?_
      refine g_lstore (l1 := [(6, aJ ((y.natAbs : Int))), (4, aJ ((x.natAbs : Int))), (0, aJ x), (2, aJ y)]) rfl rfl ?_
      exact l28 _ x.natAbs y.natAbs (by rfl) (by omega) (by omega) (Nat.lt_succ_self _)
    · skip
      refine g_lload_n rfl rfl ?_
      refine g_lneg rfl ?_
      refine g_goto rfl ?_
      refine g_top (v2 := aJ ((y.natAbs : Int))) (congrArg aJ (by first | omega | (unfold w64; omega) | (unfold w32; omega))) ?_
      refine g_lstore (l1 := [(6, aJ ((y.natAbs : Int))), (4, aJ ((x.natAbs : Int))), (0, aJ x), (2, aJ y)]) rfl rfl ?_
      exact l28 _ x.natAbs y.natAbs (by rfl) (by omega) (by omega) (Nat.lt_succ_self _)
  · skip
    refine g_lload_n rfl rfl ?_
    refine g_lneg rfl ?_
    refine g_goto rfl ?_
    refine g_top (v2 := aJ ((x.natAbs : Int))) (congrArg aJ (by first | omega | (unfold w64; omega) | (unfold w32; omega))) ?_
    refine g_lstore (l1 := [(4, aJ ((x.natAbs : Int))), (0, aJ x), (2, aJ y)]) rfl rfl ?_
    refine g_lload_n rfl rfl ?_
    refine g_lconst0 rfl ?_
    refine g_lc_ge rfl rfl (fun c16 => ?_) (fun c16 => ?_)
    · skip
      refine g_lload_n rfl rfl ?_
      refine g_top (v2 := aJ ((y.natAbs : Int))) (congrArg aJ (by first | omega | (unfold w64; omega) | (unfold w32; omega))) ?_
      refine g_lstore (l1 := [(6, aJ ((y.natAbs : Int))), (4, aJ ((x.natAbs : Int))), (0, aJ x), (2, aJ y)]) rfl rfl ?_
      exact l28 _ x.natAbs y.natAbs (by rfl) (by omega) (by omega) (Nat.lt_succ_self _)
    · skip
      refine g_lload_n rfl rfl ?_
      refine g_lneg rfl ?_
      refine g_goto rfl ?_
      refine g_top (v2 := aJ ((y.natAbs : Int))) (congrArg aJ (by first | omega | (unfold w64; omega) | (unfold w32; omega))) ?_
      refine g_lstore (l1 := [(6, aJ ((y.natAbs : Int))), (4, aJ ((x.natAbs : Int))), (0, aJ x), (2, aJ y)]) rfl rfl ?_
      exact l28 _ x.natAbs y.natAbs (by rfl) (by omega) (by omega) (Nat.lt_succ_self _)
