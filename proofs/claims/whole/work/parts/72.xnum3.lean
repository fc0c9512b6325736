/-! the class's numbers, on: printed by wip/whole/s72.py -/
theorem lxor_neg {x y : Int} (hx : -9223372036854775808 ≤ x ∧ x < 9223372036854775808) (hy : 0 ≤ y ∧ y < 9223372036854775808) : lxor x y < 0 ↔ x < 0 := by
  have e := BitVec.msb_eq_toInt (x := (Int64.ofInt x ^^^ Int64.ofInt y).toBitVec)
  rw [Int64.toBitVec_xor, BitVec.msb_xor, BitVec.msb_eq_toInt, BitVec.msb_eq_toInt, ← Int64.toBitVec_xor, Int64.toInt_toBitVec, Int64.toInt_toBitVec, Int64.toInt_toBitVec, i64_to (z := x) hx, i64_to (z := y) (by unfold r64; omega)] at e
  have e2 : decide (y < 0) = false := decide_eq_false (by omega)
  rw [e2, Bool.xor_false] at e
  have e3 := decide_eq_decide.mp e
  exact e3.symm
theorem tmod_floor (x : Int) {y : Int} (hy : 0 < y) : x % y = if x < 0 ∧ x.tmod y ≠ 0 then x.tmod y + y else x.tmod y := by
  have h1 := tdiv_floor x hy
  have h2 := Int.mul_ediv_add_emod x y
  have h3 := Int.mul_tdiv_add_tmod x y
  have h5 : y * x.tdiv y = x.tdiv y * y := Int.mul_comm _ _
  by_cases q : x < 0 ∧ x.tdiv y * y ≠ x
  · rw [if_pos q] at h1
    rw [h1, Int.mul_sub, Int.mul_one] at h2
    rw [if_pos ⟨q.1, by omega⟩]
    omega
  · rw [if_neg q] at h1
    rw [h1] at h2
    rw [if_neg (by rintro ⟨u1, u2⟩; exact q ⟨u1, by omega⟩)]
    omega
theorem tmod_le (x : Int) {y : Int} (hy : 0 < y) : -y < x.tmod y ∧ x.tmod y < y ∧ (x < 0 → x.tmod y ≤ 0) := by
  have h1 := Int.emod_nonneg x (show y ≠ 0 by omega)
  have h2 := Int.emod_lt_of_pos x hy
  have h3 := tmod_floor x hy
  have h4 : (-x).tmod y = -(x.tmod y) := Int.neg_tmod _ _
  have h6 : x < 0 → x.tmod y ≤ 0 := fun u => by
    have h5 := Int.tmod_nonneg y (show 0 ≤ -x by omega)
    omega
  have h7 := Int.tmod_lt_of_pos (-x) hy
  have h8 := Int.tmod_lt_of_pos x hy
  exact ⟨by omega, h8, h6⟩
theorem c_floorDiv {w : aW} {d : Nat} (hd : 1 ≤ d) (x y : Int) (hx : -9223372036854775808 < x ∧ x < 9223372036854775808) (hy : 0 < y ∧ y < 9223372036854775808) (h : aH) : WP w d 383 [aJ x, aJ y] h (RJ (fun v h1 => h1 = h ∧ v = x / y)) := by
  obtain ⟨d, rfl⟩ : ∃ d1, d = d1 + 1 := ⟨d - 1, by omega⟩
  refine WP.enter (cd := cd_J9_floorDiv_f86c9) rfl ?_
  have hq := tdiv_le x hy.1
  have hq2 : r64 (x.tdiv y) := by unfold r64; omega
  have hm := tdiv_mul x hy.1
  have hf := tdiv_floor x hy.1
  have hs := lxor_neg (x := x) (y := y) (by omega) (by omega)
  have hls : largs 0 [aJ x, aJ y] = [(0, aJ x), (2, aJ y)] := rfl
  rw [hls]
  clear hls
  refine g_lload_n rfl rfl ?_
  refine g_lload_n rfl rfl ?_
  refine g_ldiv rfl (by omega) ?_
  refine g_top (v2 := aJ (x.tdiv y)) (congrArg aJ (by exact w64_id hq2)) ?_
  refine g_lstore (l1 := [(4, aJ (x.tdiv y)), (0, aJ x), (2, aJ y)]) rfl rfl ?_
  refine g_lload_n rfl rfl ?_
  refine g_lload_n rfl rfl ?_
  refine g_lxor rfl ?_
  refine g_lconst0 rfl ?_
  refine g_lc_ge rfl rfl (fun c9 => ?_) (fun c9 => ?_)
  · skip
    refine g_lload rfl rfl ?_
    refine g_lret rfl ?_
    refine ⟨rfl, ?_⟩
    first
      | (rw [if_pos (by omega)] at hf; omega)
      | (rw [if_neg (by omega)] at hf; omega)
  · skip
    refine g_lload rfl rfl ?_
    refine g_lload_n rfl rfl ?_
    refine g_lmul rfl (by omega) (by omega) ?_
    refine g_lload_n rfl rfl ?_
    refine g_lc_eq rfl rfl (fun c18 => ?_) (fun c18 => ?_)
    · skip
      refine g_lload rfl rfl ?_
      refine g_lret rfl ?_
      refine ⟨rfl, ?_⟩
      first
        | (rw [if_pos (by omega)] at hf; omega)
        | (rw [if_neg (by omega)] at hf; omega)
    · skip
      refine g_lload rfl rfl ?_
      refine g_lconst1 rfl ?_
      refine g_lsub rfl (by omega) (by omega) ?_
      refine g_lret rfl ?_
      refine ⟨rfl, ?_⟩
      first
        | (rw [if_pos (by omega)] at hf; omega)
        | (rw [if_neg (by omega)] at hf; omega)
theorem c_floorMod {w : aW} {d : Nat} (hd : 1 ≤ d) (x y : Int) (hx : -9223372036854775808 < x ∧ x < 9223372036854775808) (hy : 0 < y ∧ y < 9223372036854775808) (h : aH) : WP w d 384 [aJ x, aJ y] h (RJ (fun v h1 => h1 = h ∧ v = x % y)) := by
  obtain ⟨d, rfl⟩ : ∃ d1, d = d1 + 1 := ⟨d - 1, by omega⟩
  refine WP.enter (cd := cd_J9_floorMod_f86c9) rfl ?_
  have hq := tmod_le x hy.1
  have hf := tmod_floor x hy.1
  have hs := lxor_neg (x := x) (y := y) (by omega) (by omega)
  have hls : largs 0 [aJ x, aJ y] = [(0, aJ x), (2, aJ y)] := rfl
  rw [hls]
  clear hls
  refine g_lload_n rfl rfl ?_
  refine g_lload_n rfl rfl ?_
  refine g_lrem rfl (by omega) ?_
  refine g_lstore (l1 := [(4, aJ (x.tmod y)), (0, aJ x), (2, aJ y)]) rfl rfl ?_
  refine g_lload_n rfl rfl ?_
  refine g_lload_n rfl rfl ?_
  refine g_lxor rfl ?_
  refine g_lconst0 rfl ?_
  refine g_lc_ge rfl rfl (fun c9 => ?_) (fun c9 => ?_)
  · skip
    refine g_lload rfl rfl ?_
    refine g_lret rfl ?_
    refine ⟨rfl, ?_⟩
    first
      | (rw [if_pos (by omega)] at hf; omega)
      | (rw [if_neg (by omega)] at hf; omega)
  · skip
    refine g_lload rfl rfl ?_
    refine g_lconst0 rfl ?_
    refine g_lc_eq rfl rfl (fun c16 => ?_) (fun c16 => ?_)
    · skip
      refine g_lload rfl rfl ?_
      refine g_lret rfl ?_
      refine ⟨rfl, ?_⟩
      first
        | (rw [if_pos (by omega)] at hf; omega)
        | (rw [if_neg (by omega)] at hf; omega)
    · skip
      refine g_lload rfl rfl ?_
      refine g_lload_n rfl rfl ?_
      refine g_ladd rfl (by omega) (by omega) ?_
      refine g_lret rfl ?_
      refine ⟨rfl, ?_⟩
      first
        | (rw [if_pos (by omega)] at hf; omega)
        | (rw [if_neg (by omega)] at hf; omega)
theorem c_wholeBelow {w : aW} {d : Nat} (hd : 2 ≤ d) (x y : Int) (hx : -9223372036854775808 < x ∧ x < 9223372036854775808) (hy : 0 ≤ y ∧ y < 9223372036854775808) (h : aH) : WP w d 30 [aJ x, aJ y] h (RJ (fun v h1 => h1 = h ∧ v = x / y)) := by
  obtain ⟨d, rfl⟩ : ∃ d1, d = d1 + 1 := ⟨d - 1, by omega⟩
  refine WP.enter (cd := cd_X1_wholeBelow) rfl ?_
  have hls : largs 0 [aJ x, aJ y] = [(0, aJ x), (2, aJ y)] := rfl
  rw [hls]
  clear hls
  refine g_lload_n rfl rfl ?_
  refine g_lconst0 rfl ?_
  refine g_lc_ne rfl rfl (fun c2 => ?_) (fun c2 => ?_)
  · skip
    refine g_lload_n rfl rfl ?_
    refine g_lload_n rfl rfl ?_
    refine g_callSJ [aJ x, aJ y] [] rfl rfl rfl rfl (Nat.le_of_ble_eq_true rfl) (c_floorDiv (by omega) x y (by omega) (by omega) _) ?_
    rintro _ _ ⟨rfl, rfl⟩
    refine g_lret rfl ?_
    refine ⟨rfl, ?_⟩
    first
      | rfl
      | (rw [show y = 0 by omega, Int.ediv_zero])
  · skip
    refine g_lconst0 rfl ?_
    refine g_goto rfl ?_
    refine g_lret rfl ?_
    refine ⟨rfl, ?_⟩
    first
      | rfl
      | (rw [show y = 0 by omega, Int.ediv_zero])
