/-! the reference's whole numbers, on: small ones, values: printed by wip/whole/c5.py -/
theorem r_neg {w : aW} {d : Nat} (hd : 5 ≤ d) {h : aH} {o : Nat} (ms : MS h o) (V : Nat → Nat → Int) (hF : 0 ≤ V o 1 ∧ V o 1 + 2 ≤ 700) {a : Nat} {x : Int} {j : Nat} (xa : RB V o a x j) (hj : j + 1 ≤ 382) : WP w d 253 [aO (some o), aI ((a : Int))] (hw h V) (RI (fun r h1 => ∃ p : Nat, r = p ∧ ∃ V1, h1 = hw h V1 ∧ Gm V V1 o 2 ∧ RB V1 o p (-x) (j))) := by
  obtain ⟨d, rfl⟩ : ∃ d1, d = d1 + 1 := ⟨d - 1, by omega⟩
  refine WP.enter (cd := cd_X12_neg) rfl ?_
  have hls : largs 0 [aO (some o), aI ((a : Int))] = [(0, aO (some o)), (1, aI ((a : Int)))] := rfl
  rw [hls]
  clear hls
  refine g_aload_n rfl rfl ?_
  refine g_aload_n rfl rfl ?_
  refine g_lconst0 rfl ?_
  refine g_callVI [aJ 0] [aO (some o)] rfl rfl rfl rfl (Nat.le_of_ble_eq_true rfl) ms.1 (r_num (by omega) ms V (by omega) 0 (by omega) 0 (by decide)) ?_
  rintro _ _ ⟨p1, rfl, V1, rfl, g1, x1⟩
  refine g_iload_n rfl rfl ?_
  refine g_callVI [aI ((p1 : Int)), aI ((a : Int))] [] rfl rfl rfl rfl (Nat.le_of_ble_eq_true rfl) ms.1 (r_sub (by omega) ms V1 (by have := g1.2.2.1; omega) x1 (g1.rb xa) (j + 1) (by omega) (by omega) hj) ?_
  rintro _ _ ⟨p2, rfl, V2, rfl, g2, x2⟩
  refine g_iret rfl ?_
  exact ⟨p2, rfl, V2, rfl, g1.trans g2, by rw [show -x = 0 - x by omega]; exact x2.1, by have := xa.2; omega⟩
theorem r_twice {w : aW} {d : Nat} (hd : 5 ≤ d) {h : aH} {o : Nat} (ms : MS h o) (V : Nat → Nat → Int) (hF : 0 ≤ V o 1 ∧ V o 1 + 1 ≤ 700) {a : Nat} {x : Int} {j : Nat} (xa : RB V o a x j) (hj : j + 1 ≤ 382) : WP w d 255 [aO (some o), aI ((a : Int))] (hw h V) (RI (fun r h1 => ∃ p : Nat, r = p ∧ ∃ V1, h1 = hw h V1 ∧ Gm V V1 o 1 ∧ RB V1 o p (2 * x) (j + 1))) := by
  obtain ⟨d, rfl⟩ : ∃ d1, d = d1 + 1 := ⟨d - 1, by omega⟩
  refine WP.enter (cd := cd_X12_twice) rfl ?_
  have hls : largs 0 [aO (some o), aI ((a : Int))] = [(0, aO (some o)), (1, aI ((a : Int)))] := rfl
  rw [hls]
  clear hls
  refine g_aload_n rfl rfl ?_
  refine g_iload_n rfl rfl ?_
  refine g_iload_n rfl rfl ?_
  refine g_callVI [aI ((a : Int)), aI ((a : Int))] [] rfl rfl rfl rfl (Nat.le_of_ble_eq_true rfl) ms.1 (r_add (by omega) ms V (by omega) xa xa (j + 1) (by omega) (by omega) hj) ?_
  rintro _ _ ⟨p1, rfl, V1, rfl, g1, x1⟩
  refine g_iret rfl ?_
  exact ⟨p1, rfl, V1, rfl, g1, by rw [Int.two_mul]; exact x1⟩
theorem r_square {w : aW} {d : Nat} (hd : 3 ≤ d) {h : aH} {o : Nat} (ms : MS h o) (V : Nat → Nat → Int) (hF : 0 ≤ V o 1 ∧ V o 1 + 1 ≤ 700) {a : Nat} {x : Int} {j : Nat} (xa : RB V o a x j) (hj : j + j ≤ 382) : WP w d 256 [aO (some o), aI ((a : Int))] (hw h V) (RI (fun r h1 => ∃ p : Nat, r = p ∧ ∃ V1, h1 = hw h V1 ∧ Gm V V1 o 1 ∧ RB V1 o p (x * x) (j + j))) := by
  obtain ⟨d, rfl⟩ : ∃ d1, d = d1 + 1 := ⟨d - 1, by omega⟩
  refine WP.enter (cd := cd_X12_square) rfl ?_
  have hls : largs 0 [aO (some o), aI ((a : Int))] = [(0, aO (some o)), (1, aI ((a : Int)))] := rfl
  rw [hls]
  clear hls
  refine g_aload_n rfl rfl ?_
  refine g_iload_n rfl rfl ?_
  refine g_iload_n rfl rfl ?_
  refine g_callVI [aI ((a : Int)), aI ((a : Int))] [] rfl rfl rfl rfl (Nat.le_of_ble_eq_true rfl) ms.1 (r_mul (by omega) ms V (by omega) xa xa hj) ?_
  rintro _ _ ⟨p1, rfl, V1, rfl, g1, x1⟩
  refine g_iret rfl ?_
  exact ⟨p1, rfl, V1, rfl, g1, x1⟩
theorem r_mul3 {w : aW} {d : Nat} (hd : 3 ≤ d) {h : aH} {o : Nat} (ms : MS h o) (V : Nat → Nat → Int) (hF : 0 ≤ V o 1 ∧ V o 1 + 2 ≤ 700) {a : Nat} {x : Int} {j : Nat} (xa : RB V o a x j) {b : Nat} {y : Int} {k : Nat} (xb : RB V o b y k) {b2 : Nat} {z : Int} {l : Nat} (xc : RB V o b2 z l) (hj : j + k + l ≤ 382) : WP w d 257 [aO (some o), aI ((a : Int)), aI ((b : Int)), aI ((b2 : Int))] (hw h V) (RI (fun r h1 => ∃ p : Nat, r = p ∧ ∃ V1, h1 = hw h V1 ∧ Gm V V1 o 2 ∧ RB V1 o p (x * y * z) (j + k + l))) := by
  obtain ⟨d, rfl⟩ : ∃ d1, d = d1 + 1 := ⟨d - 1, by omega⟩
  refine WP.enter (cd := cd_X12_mul3) rfl ?_
  have hls : largs 0 [aO (some o), aI ((a : Int)), aI ((b : Int)), aI ((b2 : Int))] = [(0, aO (some o)), (1, aI ((a : Int))), (2, aI ((b : Int))), (3, aI ((b2 : Int)))] := rfl
  rw [hls]
  clear hls
  refine g_aload_n rfl rfl ?_
  refine g_aload_n rfl rfl ?_
  refine g_iload_n rfl rfl ?_
  refine g_iload_n rfl rfl ?_
  refine g_callVI [aI ((a : Int)), aI ((b : Int))] [aO (some o)] rfl rfl rfl rfl (Nat.le_of_ble_eq_true rfl) ms.1 (r_mul (by omega) ms V (by omega) xa xb (by omega)) ?_
  rintro _ _ ⟨p1, rfl, V1, rfl, g1, x1⟩
  refine g_iload_n rfl rfl ?_
  refine g_callVI [aI ((p1 : Int)), aI ((b2 : Int))] [] rfl rfl rfl rfl (Nat.le_of_ble_eq_true rfl) ms.1 (r_mul (by omega) ms V1 (by have := g1.2.2.1; omega) x1 (g1.rb xc) (by omega)) ?_
  rintro _ _ ⟨p2, rfl, V2, rfl, g2, x2⟩
  refine g_iret rfl ?_
  exact ⟨p2, rfl, V2, rfl, g1.trans g2, x2⟩
theorem r_sign {w : aW} {d : Nat} (hd : 1 ≤ d) {h : aH} {o : Nat} (ms : MS h o) (V : Nat → Nat → Int) {a : Nat} {x : Int} {j : Nat} (xa : RB V o a x j) : WP w d 245 [aO (some o), aI (a : Int)] (hw h V) (RI (fun r h1 => h1 = hw h V ∧ r = lcmp x 0)) := by
  refine (m_sign hd ms V a xa.1.b).imp ?_
  rintro _ h1 ⟨_, rfl, q1, q2⟩
  exact ⟨_, rfl, q1, by rw [q2, xa.1.s]⟩
theorem r_cmpS {w : aW} {d : Nat} (hd : 1 ≤ d) {h : aH} {o : Nat} (ms : MS h o) (V : Nat → Nat → Int) {a : Nat} {x : Int} {j : Nat} (xa : RB V o a x j) {b : Nat} {y : Int} {k : Nat} (xb : RB V o b y k) : WP w d 246 [aO (some o), aI (a : Int), aI (b : Int)] (hw h V) (RI (fun r h1 => h1 = hw h V ∧ r = lcmp (x.natAbs : Int) (y.natAbs : Int))) := m_compareSizes hd ms V a b xa.1.b xb.1.b xa.1.c xb.1.c
theorem r_cmp {w : aW} {d : Nat} (hd : 5 ≤ d) {h : aH} {o : Nat} (ms : MS h o) (V : Nat → Nat → Int) (hF : 0 ≤ V o 1 ∧ V o 1 + 1 ≤ 700) {a : Nat} {x : Int} {j : Nat} (xa : RB V o a x j) {b : Nat} {y : Int} {k : Nat} (xb : RB V o b y k) (m : Nat) (hj : j + 1 ≤ m) (hk : k + 1 ≤ m) (hm : m ≤ 382) : WP w d 258 [aO (some o), aI ((a : Int)), aI ((b : Int))] (hw h V) (RI (fun r h1 => r = lcmp x y ∧ ∃ V1, h1 = hw h V1 ∧ Gm V V1 o 1)) := by
  obtain ⟨d, rfl⟩ : ∃ d1, d = d1 + 1 := ⟨d - 1, by omega⟩
  refine WP.enter (cd := cd_X12_cmp) rfl ?_
  have hls : largs 0 [aO (some o), aI ((a : Int)), aI ((b : Int))] = [(0, aO (some o)), (1, aI ((a : Int))), (2, aI ((b : Int)))] := rfl
  rw [hls]
  clear hls
  refine g_aload_n rfl rfl ?_
  refine g_aload_n rfl rfl ?_
  refine g_iload_n rfl rfl ?_
  refine g_iload_n rfl rfl ?_
  refine g_callVI [aI ((a : Int)), aI ((b : Int))] [aO (some o)] rfl rfl rfl rfl (Nat.le_of_ble_eq_true rfl) ms.1 (r_sub (by omega) ms V (by omega) xa xb m hj hk hm) ?_
  rintro _ _ ⟨p1, rfl, V1, rfl, g1, x1⟩
  refine g_callVI [aI ((p1 : Int))] [] rfl rfl rfl rfl (Nat.le_of_ble_eq_true rfl) ms.1 (r_sign (by omega) ms V1 x1) ?_
  rintro _ _ ⟨rfl, rfl⟩
  refine g_iret rfl ?_
  refine ⟨?_, V1, rfl, g1⟩
  unfold lcmp
  by_cases q1 : x < y
  · rw [if_pos q1, if_pos (by omega)]
  · by_cases q2 : x = y
    · rw [if_neg q1, if_pos q2, if_neg (by omega), if_pos (by omega)]
    · rw [if_neg q1, if_neg q2, if_neg (by omega), if_neg (by omega)]
theorem val_n {V : Nat → Nat → Int} {o a n : Nat} {z : Int} (xa : RV V o a z) (hn : V (o + 1) (a + 17) = n) (hz : (z.natAbs : Int) < 281474976710656) : n ≤ 2 := by
  obtain ⟨h1, h2, h3⟩ := xa.c.lt (n := n) hn
  refine Classical.byContradiction fun q => ?_
  rcases h2 with h2 | h2
  · omega
  · have h4 := Nat.pow_le_pow_right (show 0 < 16777216 by decide) (show 2 ≤ n - 1 by omega)
    have h5 : ((16777216 ^ 2 : Nat) : Int) ≤ ((16777216 ^ (n - 1) : Nat) : Int) := by omega
    rw [Int.natCast_pow, Int.natCast_pow] at h5
    have h6 : (((16777216 : Nat) : Int)) ^ 2 = 281474976710656 := by decide
    have h7 : (((16777216 : Nat) : Int)) ^ (n - 1) = 16777216 ^ (n - 1) := rfl
    omega
theorem lor_24 {x y : Int} (hx : 0 ≤ x ∧ x < 16777216) (hy : 0 ≤ y ∧ y < 16777216) : lor (lshl x 24) y = x * 16777216 + y := by
  have e : lshl x 24 = w64 (x * 16777216) := rfl
  have h1 : w64 (x * 16777216) % 18446744073709551616 = ((2 ^ 24 * x.toNat : Nat) : Int) := by
    unfold w64
    rw [Int.natCast_mul, Int.toNat_of_nonneg (by omega)]
    show _ = 16777216 * _
    omega
  rw [e, lor_add (b := y.toNat) h1 (by omega) (by show _ < 16777216; omega), Int.natCast_add, Int.natCast_mul, Int.toNat_of_nonneg (by omega), Int.toNat_of_nonneg (by omega)]
  show w64 (16777216 * _ + _) = _
  unfold w64
  omega
theorem val_on {V : Nat → Nat → Int} {o a n m : Nat} {u : Int} (hn : n ≤ 2) (hm : 0 < m ∧ m ≤ n) (h0 : 0 ≤ V (o + 1) (a + 0) ∧ V (o + 1) (a + 0) < 16777216) (h1 : 0 ≤ V (o + 1) (a + 1) ∧ V (o + 1) (a + 1) < 16777216) (hu : u = if m = n then 0 else if m + 1 = n then V (o + 1) (a + m) else V (o + 1) (a + 1) * 16777216 + V (o + 1) (a + 0)) : lor (lshl u 24) (V (o + 1) (a + (m - 1))) = if m - 1 = n then 0 else if m - 1 + 1 = n then V (o + 1) (a + (m - 1)) else V (o + 1) (a + 1) * 16777216 + V (o + 1) (a + 0) := by
  have hc : (n = 1 ∧ m = 1) ∨ (n = 2 ∧ m = 2) ∨ (n = 2 ∧ m = 1) := by omega
  rcases hc with ⟨rfl, rfl⟩ | ⟨rfl, rfl⟩ | ⟨rfl, rfl⟩
  · rw [if_pos rfl] at hu
    rw [hu, lor_24 (by omega) h0]
    show 0 * 16777216 + V (o + 1) (a + 0) = V (o + 1) (a + 0)
    omega
  · rw [if_pos rfl] at hu
    rw [hu, lor_24 (by omega) h1]
    show 0 * 16777216 + V (o + 1) (a + 1) = V (o + 1) (a + 1)
    omega
  · have hu : u = V (o + 1) (a + 1) := hu
    rw [hu, lor_24 h1 h0]
    rfl
theorem val_end {V : Nat → Nat → Int} {o a n : Nat} {u : Int} (hn : n ≤ 2) (hu : u = if 0 = n then 0 else if 0 + 1 = n then V (o + 1) (a + 0) else V (o + 1) (a + 1) * 16777216 + V (o + 1) (a + 0)) : u = mv (mr V o a) n := by
  have hc : n = 0 ∨ n = 1 ∨ n = 2 := by omega
  rcases hc with rfl | rfl | rfl
  · exact hu
  · have hu : u = V (o + 1) (a + 0) := hu
    rw [hu]
    show _ = 0 + V (o + 1) (a + 0) * 1
    omega
  · have hu : u = V (o + 1) (a + 1) * 16777216 + V (o + 1) (a + 0) := hu
    rw [hu]
    show _ = 0 + V (o + 1) (a + 0) * 1 + V (o + 1) (a + 1) * 16777216
    omega
theorem r_value {w : aW} {d : Nat} (hd : 2 ≤ d) {h : aH} {o : Nat} (ms : MS h o) (V : Nat → Nat → Int) {a : Nat} {z : Int} (xa : RV V o a z) (hz : (z.natAbs : Int) < 281474976710656) : WP w d 265 [aO (some o), aI ((a : Int))] (hw h V) (RJ (fun r h1 => h1 = hw h V ∧ r = z)) := by
  obtain ⟨d, rfl⟩ : ∃ d1, d = d1 + 1 := ⟨d - 1, by omega⟩
  refine WP.enter (cd := cd_X12_value) rfl ?_
  obtain ⟨n, hnn⟩ : ∃ n : Nat, V (o + 1) (a + 17) = n := ⟨_, xa.c.2.2.choose_spec.2.1⟩
  have hn := val_n xa hnn hz
  have hb := xa.b
  have hl0 := xa.l 0 (by omega)
  have hl1 := xa.l 1 (by omega)
  change 0 ≤ V (o + 1) (a + 0) ∧ V (o + 1) (a + 0) < 16777216 at hl0
  change 0 ≤ V (o + 1) (a + 1) ∧ V (o + 1) (a + 1) < 16777216 at hl1
  have hcut := mv_cut (f := mr V o a) (n := n) (by omega) (by obtain ⟨n9, n1, n2, n3, n4⟩ := xa.c.2.2; intro k h1 h2; exact n3 k (by have q : V (o + 1) (a + 17) = n9 := n2; omega) h2)
  rw [xa.v] at hcut
  have lz := lcmp_v z
  have hs := xa.s
  have hls : largs 0 [aO (some o), aI ((a : Int))] = [(0, aO (some o)), (1, aI ((a : Int)))] := rfl
  rw [hls]
  clear hls
  have l15 : ∀ (fuel : Nat) (m : Nat) (u : Int), (m ≤ n) → (u = if m = n then 0 else if m + 1 = n then V (o + 1) (a + m) else V (o + 1) (a + 1) * 16777216 + V (o + 1) (a + 0)) → m < fuel → Wk w d cd_X12_value 15 [(4, aI ((m : Int) - 1)), (2, aJ u), (0, aO (some o)), (1, aI ((a : Int)))] [] (hw h V) (RJ (fun r h1 => h1 = hw h V ∧ r = z)) := by
    intro fuel
    induction fuel with
    | zero => intros; omega
    | succ fuel ih15 =>
      intro m u hm hu hfuel
      refine g_iload rfl rfl ?_
      refine g_if_lt rfl (fun c17 => ?_) (fun c17 => ?_)
      · skip
        have hm0 : m = 0 := by omega
        rw [hm0] at hu
        have hv9 := val_end hn hu
        change u = mv (mr V o a) n at hv9
        refine g_aload_n rfl rfl ?_
        refine g_iload_n rfl rfl ?_
        refine g_callVI [aI ((a : Int))] [] rfl rfl rfl rfl (Nat.le_of_ble_eq_true rfl) ms.1 (m_sign (by omega) ms V a xa.b) ?_
        rintro _ _ ⟨rfl, rfl⟩
        refine g_top (v2 := aI (lcmp z 0)) (congrArg aI xa.s) ?_
        refine g_if_ge rfl (fun c47 => ?_) (fun c47 => ?_)
        · skip
          refine g_lload_n rfl rfl ?_
          refine g_lret rfl ?_
          refine ⟨rfl, ?_⟩
          omega
        · skip
          refine g_lload_n rfl rfl ?_
          refine g_lneg2 rfl (by omega) (by omega) ?_
          refine g_goto rfl ?_
          refine g_lret rfl ?_
          refine ⟨rfl, ?_⟩
          omega
      · skip
        refine g_lload_n rfl rfl ?_
        refine g_bipush rfl ?_
        refine g_lshl rfl ?_
        refine g_aload_n rfl rfl ?_
        refine g_getR rfl ms.1 (mr_limb ms) ?_
        refine g_iload_n rfl rfl ?_
        refine g_iload rfl rfl ?_
        refine g_iadd rfl (by omega) (by omega) ?_
        refine g_iald (i := (a + (m - 1))) rfl (mt_limb ms) (by omega) (by omega) ?_
        refine g_top (v2 := aI (V (o + 1) (a + (m - 1)))) (congrArg aI (by rfl)) ?_
        refine g_i2l rfl ?_
        refine g_lor rfl ?_
        refine g_lstore_n (l1 := [(2, aJ (lor (lshl u 24) (V (o + 1) (a + (m - 1))))), (4, aI ((m : Int) - 1)), (0, aO (some o)), (1, aI ((a : Int)))]) rfl rfl ?_
        refine g_iinc (l1 := [(4, aI ((m : Int) - 1 + (-1))), (2, aJ (lor (lshl u 24) (V (o + 1) (a + (m - 1))))), (0, aO (some o)), (1, aI ((a : Int)))]) rfl rfl (by omega) (by omega) rfl ?_
        rw [show ((m : Int) - 1 + (-1) : Int) = ((m - 1 : Nat) : Int) - 1 by omega]
        refine g_goto rfl ?_
        exact ih15 (m - 1) _ (by omega) (by exact val_on hn (by omega) hl0 hl1 hu) (by omega)
  refine g_lconst0 rfl ?_
  refine g_lstore_n (l1 := [(2, aJ 0), (0, aO (some o)), (1, aI ((a : Int)))]) rfl rfl ?_
  refine g_aload_n rfl rfl ?_
  refine g_getR rfl ms.1 (mr_limb ms) ?_
  refine g_iload_n rfl rfl ?_
  refine g_bipush rfl ?_
  refine g_iadd rfl (by omega) (by omega) ?_
  refine g_iald (i := a + 17) rfl (mt_limb ms) (by omega) (by omega) ?_
  refine g_top (v2 := aI (V (o + 1) (a + 17))) (congrArg aI (by rfl)) ?_
  refine g_top (v2 := aI ((n : Int))) (congrArg aI (by exact hnn)) ?_
  refine g_iconst rfl ?_
  refine g_isub rfl (by omega) (by omega) ?_
  refine g_istore (l1 := [(4, aI (((n : Int)) - 1)), (2, aJ 0), (0, aO (some o)), (1, aI ((a : Int)))]) rfl rfl ?_
  exact l15 _ n 0 (by omega) (by rw [if_pos rfl]) (Nat.lt_succ_self _)
theorem val_lt {V : Nat → Nat → Int} {o a n : Nat} {z : Int} (xa : RV V o a z) (hn : V (o + 1) (a + 17) = n) (h : n ≤ 2) : (z.natAbs : Int) < 281474976710656 := by
  have h1 := (xa.c.lt (n := n) hn).1
  have h4 := Nat.pow_le_pow_right (show 0 < 16777216 by decide) h
  have h5 : ((16777216 ^ n : Nat) : Int) ≤ ((16777216 ^ 2 : Nat) : Int) := by omega
  rw [Int.natCast_pow, Int.natCast_pow] at h5
  have h6 : (((16777216 : Nat) : Int)) ^ 2 = 281474976710656 := by decide
  have h7 : (((16777216 : Nat) : Int)) ^ n = 16777216 ^ n := rfl
  omega
theorem r_isWithin {w : aW} {d : Nat} (hd : 3 ≤ d) {h : aH} {o : Nat} (ms : MS h o) (V : Nat → Nat → Int) {a : Nat} {z : Int} (xa : RV V o a z) (M : Int) (hM : 0 ≤ M ∧ M < 281474976710656) : WP w d 266 [aO (some o), aI ((a : Int)), aJ M] (hw h V) (RI (fun r h1 => h1 = hw h V ∧ r = if -M ≤ z ∧ z ≤ M then 1 else 0)) := by
  obtain ⟨d, rfl⟩ : ∃ d1, d = d1 + 1 := ⟨d - 1, by omega⟩
  refine WP.enter (cd := cd_X12_isWithin) rfl ?_
  obtain ⟨n, hnn⟩ : ∃ n : Nat, V (o + 1) (a + 17) = n := ⟨_, xa.c.2.2.choose_spec.2.1⟩
  have hb := xa.b
  have hls : largs 0 [aO (some o), aI ((a : Int)), aJ M] = [(0, aO (some o)), (1, aI ((a : Int))), (2, aJ M)] := rfl
  rw [hls]
  clear hls
  refine g_aload_n rfl rfl ?_
  refine g_getR rfl ms.1 (mr_limb ms) ?_
  refine g_iload_n rfl rfl ?_
  refine g_bipush rfl ?_
  refine g_iadd rfl (by omega) (by omega) ?_
  refine g_iald (i := a + 17) rfl (mt_limb ms) (by omega) (by omega) ?_
  refine g_top (v2 := aI (V (o + 1) (a + 17))) (congrArg aI (by rfl)) ?_
  refine g_top (v2 := aI ((n : Int))) (congrArg aI (by exact hnn)) ?_
  refine g_iconst rfl ?_
  refine g_icmp_gt rfl (fun c10 => ?_) (fun c10 => ?_)
  · skip
    refine g_iconst rfl ?_
    refine g_zret rfl (by omega) ?_
    refine ⟨rfl, ?_⟩
    first
      | rw [if_pos c24]
      | rw [if_neg c24]
      | rw [if_neg (fun q => by have := val_n xa hnn (by omega); omega)]
  · skip
    refine g_aload_n rfl rfl ?_
    refine g_iload_n rfl rfl ?_
    refine g_callVJ [aI ((a : Int))] [] rfl rfl rfl rfl (Nat.le_of_ble_eq_true rfl) ms.1 (r_value (by omega) ms V xa (val_lt xa hnn (by omega))) ?_
    rintro r5 _ ⟨rfl, e5⟩
    refine g_top (v2 := aJ z) (congrArg aJ e5) ?_
    have hzl := val_lt xa hnn (by omega)
    refine g_lload_n rfl rfl ?_
    refine g_lneg2 rfl (by omega) (by omega) ?_
    refine g_lload_n rfl rfl ?_
    refine g_callSI [aJ z, aJ (-M), aJ M] [] rfl rfl rfl rfl (Nat.le_of_ble_eq_true rfl) (c_in (by omega) _ _ _ _) ?_
    rintro _ _ ⟨rfl, rfl⟩
    refine g_b_eq rfl (fun c24 => ?_) (fun c24 => ?_)
    · skip
      refine g_iconst rfl ?_
      refine g_zret rfl (by omega) ?_
      refine ⟨rfl, ?_⟩
      first
        | rw [if_pos c24]
        | rw [if_neg c24]
        | rw [if_neg (fun q => by have := val_n xa hnn (by omega); omega)]
    · skip
      refine g_iconst rfl ?_
      refine g_goto rfl ?_
      refine g_zret rfl (by omega) ?_
      refine ⟨rfl, ?_⟩
      first
        | rw [if_pos c24]
        | rw [if_neg c24]
        | rw [if_neg (fun q => by have := val_n xa hnn (by omega); omega)]
