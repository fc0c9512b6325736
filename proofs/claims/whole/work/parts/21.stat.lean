/-! numbers, on: printed by wip/whole/s20b.py -/
theorem tdiv_floor (x : Int) {y : Int} (hy : 0 < y) : x / y = if x < 0 ∧ x.tdiv y * y ≠ x then x.tdiv y - 1 else x.tdiv y := by
  have h2 := Int.mul_ediv_add_emod x y
  have h3 := Int.emod_nonneg x (show y ≠ 0 by omega)
  have h4 := Int.emod_lt_of_pos x hy
  have h0 : x.tdiv y * y = y * x.tdiv y := Int.mul_comm _ _
  by_cases hx : 0 ≤ x
  · rw [if_neg (by omega)]
    exact (Int.tdiv_eq_ediv_of_nonneg hx).symm
  · have e := Int.tdiv_eq_ediv (a := x) (b := y)
    by_cases hd : y ∣ x
    · rw [if_neg]
      · rw [e]; simp [hd]
      · rintro ⟨-, h⟩
        exact h (Int.tdiv_mul_cancel hd)
    · rw [if_pos]
      · rw [e]; simp [hd, hx, Int.sign_eq_one_of_pos hy]
      · refine ⟨by omega, fun h => hd ?_⟩
        exact ⟨x.tdiv y, by rw [Int.mul_comm]; exact h.symm⟩
theorem tdiv_le (x : Int) {y : Int} (hy : 0 < y) : -(x.natAbs : Int) ≤ x.tdiv y ∧ x.tdiv y ≤ x.natAbs := by
  have h := Int.natAbs_tdiv_le_natAbs x y
  omega
theorem tdiv_mul (x : Int) {y : Int} (hy : 0 < y) : -(x.natAbs : Int) ≤ x.tdiv y * y ∧ x.tdiv y * y ≤ x.natAbs := by
  have h0 : x.tdiv y * y = y * x.tdiv y := Int.mul_comm _ _
  rw [h0]
  have h2 : x.tmod y = x - y * x.tdiv y := Int.tmod_def x y
  rcases Int.le_total 0 x with h | h
  · have := Int.tmod_nonneg y h
    have := Int.mul_nonneg (show (0 : Int) ≤ y by omega) (Int.tdiv_nonneg h (show (0 : Int) ≤ y by omega))
    omega
  · have h3 : x.tmod y = -((-x).tmod y) := by rw [Int.neg_tmod, Int.neg_neg]
    have := Int.tmod_nonneg y (show (0 : Int) ≤ -x by omega)
    have h5 : x.tdiv y = -((-x).tdiv y) := by rw [Int.neg_tdiv, Int.neg_neg]
    have h6 := Int.mul_nonneg (show (0 : Int) ≤ y by omega) (Int.tdiv_nonneg (show (0 : Int) ≤ -x by omega) (show (0 : Int) ≤ y by omega))
    have h7 : y * x.tdiv y = -(y * (-x).tdiv y) := by rw [h5, Int.mul_neg]
    omega
theorem c_floor {w : aW} {d : Nat} (hd : 1 ≤ d) (x y : Int) (hx : -9223372036854775808 < x ∧ x < 9223372036854775808) (hy : 0 < y ∧ y < 9223372036854775808) (h : aH) : WP w d 273 [aJ x, aJ y] h (RJ (fun v h1 => h1 = h ∧ v = x / y)) := by
  obtain ⟨d, rfl⟩ : ∃ d1, d = d1 + 1 := ⟨d - 1, by omega⟩
  refine WP.enter (cd := cd_X12_floor) rfl ?_
  have hq := tdiv_le x hy.1
  have hq2 : r64 (x.tdiv y) := by unfold r64; omega
  have hm := tdiv_mul x hy.1
  have hls : largs 0 [aJ x, aJ y] = [(0, aJ x), (2, aJ y)] := rfl
  rw [hls]
  clear hls
  refine g_lload_n rfl rfl ?_
  refine g_lload_n rfl rfl ?_
  refine g_ldiv rfl (by omega) ?_
  refine g_top (v2 := aJ (x.tdiv y)) (congrArg aJ (by exact w64_id hq2)) ?_
  refine g_lstore (l1 := [(4, aJ (x.tdiv y)), (0, aJ x), (2, aJ y)]) rfl rfl ?_
  refine g_lload_n rfl rfl ?_
  refine g_lconst0 rfl ?_
  refine g_lc_ge rfl rfl (fun c7 => ?_) (fun c7 => ?_)
  · skip
    refine g_lload rfl rfl ?_
    refine g_lret rfl ?_
    refine ⟨rfl, ?_⟩
    rw [tdiv_floor x hy.1]
    split <;> omega
  · skip
    refine g_lload rfl rfl ?_
    refine g_lload_n rfl rfl ?_
    refine g_lmul rfl (by omega) (by omega) ?_
    refine g_lload_n rfl rfl ?_
    refine g_lc_eq rfl rfl (fun c16 => ?_) (fun c16 => ?_)
    · skip
      refine g_lload rfl rfl ?_
      refine g_lret rfl ?_
      refine ⟨rfl, ?_⟩
      rw [tdiv_floor x hy.1]
      split <;> omega
    · skip
      refine g_lload rfl rfl ?_
      refine g_lconst1 rfl ?_
      refine g_lsub rfl (by omega) (by omega) ?_
      refine g_goto rfl ?_
      refine g_lret rfl ?_
      refine ⟨rfl, ?_⟩
      rw [tdiv_floor x hy.1]
      split <;> omega
theorem c_signOf {w : aW} {d : Nat} (hd : 1 ≤ d) (x : Int) (h : aH) : WP w d 335 [aJ x] h (RI (fun v h1 => h1 = h ∧ v = if 0 < x then 1 else if x < 0 then -1 else 0)) := by
  obtain ⟨d, rfl⟩ : ∃ d1, d = d1 + 1 := ⟨d - 1, by omega⟩
  refine WP.enter (cd := cd_X12_signOf) rfl ?_
  have hls : largs 0 [aJ x] = [(0, aJ x)] := rfl
  rw [hls]
  clear hls
  refine g_lload_n rfl rfl ?_
  refine g_lconst0 rfl ?_
  refine g_lc_le rfl rfl (fun c2 => ?_) (fun c2 => ?_)
  · skip
    refine g_lload_n rfl rfl ?_
    refine g_lconst0 rfl ?_
    refine g_lc_ge rfl rfl (fun c12 => ?_) (fun c12 => ?_)
    · skip
      refine g_iconst rfl ?_
      refine g_iret rfl ?_
      refine ⟨rfl, ?_⟩
      split <;> (try split) <;> omega
    · skip
      refine g_iconst rfl ?_
      refine g_goto rfl ?_
      refine g_iret rfl ?_
      refine ⟨rfl, ?_⟩
      split <;> (try split) <;> omega
  · skip
    refine g_iconst rfl ?_
    refine g_goto rfl ?_
    refine g_iret rfl ?_
    refine ⟨rfl, ?_⟩
    split <;> (try split) <;> omega
