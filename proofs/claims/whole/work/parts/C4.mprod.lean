/-! the reference's whole numbers, on: products, values: printed by wip/whole/c4.py -/
theorem mmul_b {x y : Int} (hx : 0 ≤ x ∧ x < 16777216) (hy : 0 ≤ y ∧ y < 16777216) : 0 ≤ x * y ∧ x * y ≤ 281474943156225 := by
  refine ⟨Int.mul_nonneg hx.1 hy.1, ?_⟩
  have h1 := Int.mul_le_mul_of_nonneg_right (show x ≤ 16777215 by omega) hy.1
  omega
theorem mulp_step {f g : Nat → Int} {i j : Nat} {k F b w u : Int} (hij : i + j < 16) (hg : ∀ m, m ≠ i + j → g m = f m) (hgk : g (i + j) = (f (i + j) + k + F * b) % 16777216)
    (hu : mv f 16 + k * 16777216 ^ (i + j) = u + F * w * 16777216 ^ i) : mv g 16 + (f (i + j) + k + F * b) / 16777216 * 16777216 ^ (i + (j + 1)) = u + F * (w + b * 16777216 ^ j) * 16777216 ^ i := by
  rw [mv_upd hij hg, hgk, ← Nat.add_assoc, mp_succ]
  have hd := mdig (f (i + j) + k + F * b) (16777216 ^ (i + j))
  rw [Int.pow_add] at *
  generalize (16777216 : Int) ^ i = P at *
  generalize (16777216 : Int) ^ j = Q at *
  generalize (f (i + j) + k + F * b) / 16777216 = D at *
  generalize hS : (f (i + j) + k + F * b) % 16777216 = R at *
  generalize f (i + j) = O at *
  grind
theorem mulp_end {U1 U2 A W k F X wj : Int} {i j : Nat} (hij : i + j = 16) (h1 : U1 = A * W) (hu : U2 + k * 16777216 ^ (i + j) = U1 + F * wj * 16777216 ^ i) (hb : 0 ≤ U2) (hk : 0 ≤ k) (hF : 0 ≤ F) (hX : 0 ≤ X) (hW : W = wj + X * 16777216 ^ j) (hP : (A + F * 16777216 ^ i) * W < 16777216 ^ 16) : U2 = (A + F * 16777216 ^ i) * W := by
  have e : (A + F * 16777216 ^ i) * W = U2 + (k + F * X) * 16777216 ^ 16 := by
    have hP : (16777216 : Int) ^ i * 16777216 ^ j = 16777216 ^ 16 := by rw [← Int.pow_add, hij]
    rw [Int.pow_add, hP] at hu
    generalize (16777216 : Int) ^ 16 = M at *
    generalize (16777216 : Int) ^ i = P at *
    generalize (16777216 : Int) ^ j = Q at *
    grind
  have h2 := Int.mul_nonneg hF hX
  have h3 : k + F * X = 0 := by
    refine Classical.byContradiction fun q => ?_
    have := Int.mul_le_mul_of_nonneg_right (show 1 ≤ k + F * X by omega) (show (0 : Int) ≤ 16777216 ^ 16 by decide)
    omega
  rw [h3, Int.zero_mul] at e
  omega
theorem mv_le {f : Nat → Int} {n m : Nat} (h : ∀ k < m, 0 ≤ f k ∧ f k < 16777216) (hn : n ≤ m) : mv f n ≤ mv f m := by
  have e := mv_split f n (m - n)
  rw [show n + (m - n) = m by omega] at e
  have h1 := mv_b (fun k hk => h (n + k) (by omega) : ∀ k < m - n, 0 ≤ (fun j => f (n + j)) k ∧ (fun j => f (n + j)) k < 16777216)
  have h2 := Int.mul_nonneg h1.1 (Int.le_of_lt (mp_pos n))
  omega
theorem mul_on {V2 : Nat → Nat → Int} {o F i j : Nat} {k A b w u : Int} (hij : i + j < 16) (hu : mv (mr V2 o (18 * F)) 16 + k * 16777216 ^ (i + j) = u + A * w * 16777216 ^ i) : mv (mr (vset V2 (o + 1) (18 * F + i + j) ((V2 (o + 1) (18 * F + i + j) + k + A * b) % 16777216)) o (18 * F)) 16 + (V2 (o + 1) (18 * F + i + j) + k + A * b) / 16777216 * 16777216 ^ (i + (j + 1)) = u + A * (w + b * 16777216 ^ j) * 16777216 ^ i := by
  have e : 18 * F + i + j = 18 * F + (i + j) := by omega
  rw [e]
  exact mulp_step (f := mr V2 o (18 * F)) (g := mr (vset V2 (o + 1) (18 * F + (i + j)) ((V2 (o + 1) (18 * F + (i + j)) + k + A * b) % 16777216)) o (18 * F)) hij (fun m hm => vset_ne _ _ _ _ (by omega)) (vset_eq _ _ _ _) hu
theorem mul_out {V W V2 : Nat → Nat → Int} {o F a b i j na nb : Nat} {x y k : Int} (hij : i + j = 16) (hi : i < na) (xa : RV V o a x) (xb : RV V o b y) (hna : V (o + 1) (a + 17) = na) (hnb : V (o + 1) (b + 17) = nb) (hP : (x.natAbs : Int) * (y.natAbs : Int) < 16777216 ^ 16) (hu : mv (mr W o (18 * F)) 16 = mv (mr V o a) i * mv (mr V o b) 16) (hl2 : ML (mr V2 o (18 * F))) (hk : 0 ≤ k ∧ k < 16777216) (hu2 : mv (mr V2 o (18 * F)) 16 + k * 16777216 ^ (i + j) = mv (mr W o (18 * F)) 16 + V (o + 1) (a + i) * mv (mr V o b) j * 16777216 ^ i) : mv (mr V2 o (18 * F)) 16 = mv (mr V o a) (i + 1) * mv (mr V o b) 16 := by
  obtain ⟨n, n1, n2, n3, n4⟩ := xa.c.2.2
  have hn : n = na := by
    have q : V (o + 1) (a + 17) = n := n2
    omega
  have hla := xa.l
  have hlb := xb.l
  have h0 := hla i (by omega)
  have e := mv_split (mr V o b) j i
  rw [show j + i = 16 by omega] at e
  have hX := (mv_b (fun k hk => hlb (j + k) (by omega) : ∀ k < i, 0 ≤ (fun m => mr V o b (j + m)) k ∧ (fun m => mr V o b (j + m)) k < 16777216)).1
  rw [mv_succ]
  refine mulp_end hij hu hu2 hl2.b.1 hk.1 h0.1 hX e ?_
  have h1 : mv (mr V o a) i + mr V o a i * 16777216 ^ i ≤ mv (mr V o a) 16 := by
    have := mv_le (f := mr V o a) (n := i + 1) hla (by omega)
    rw [mv_succ] at this
    exact this
  have h2 := Int.mul_le_mul_of_nonneg_right h1 hlb.b.1
  rw [xa.v, xb.v] at h2
  rw [xb.v]
  exact Int.lt_of_le_of_lt h2 hP
theorem lcmp_mul (x y : Int) : lcmp x 0 * lcmp y 0 = lcmp (x * y) 0 := by
  rcases lcmp_v x with ⟨h, e⟩ | ⟨h, e⟩ | ⟨h, e⟩ <;> rcases lcmp_v y with ⟨h2, e2⟩ | ⟨h2, e2⟩ | ⟨h2, e2⟩ <;> rw [e, e2]
  · have := Int.mul_pos_of_neg_of_neg h h2
    rcases lcmp_v (x * y) with q | q | q <;> omega
  · rw [h2, show x * 0 = 0 from Int.mul_zero x]; rfl
  · have := Int.mul_neg_of_neg_of_pos h h2
    rcases lcmp_v (x * y) with q | q | q <;> omega
  · rw [h, show 0 * y = 0 from Int.zero_mul y]; rfl
  · rw [h, show 0 * y = 0 from Int.zero_mul y]; rfl
  · rw [h, show 0 * y = 0 from Int.zero_mul y]; rfl
  · have := Int.mul_neg_of_pos_of_neg h h2
    rcases lcmp_v (x * y) with q | q | q <;> omega
  · rw [h2, show x * 0 = 0 from Int.mul_zero x]; rfl
  · have := Int.mul_pos h h2
    rcases lcmp_v (x * y) with q | q | q <;> omega
set_option maxHeartbeats 4000000 in
theorem m_mul {w : aW} {d : Nat} (hd : 2 ≤ d) {h : aH} {o : Nat} (ms : MS h o) (V : Nat → Nat → Int) (F : Nat) (hF : V o 1 = F) (hF7 : F < 700) {a b : Nat} {x y : Int} (xa : RV V o a x) (xb : RV V o b y) (hP : (x.natAbs : Int) * (y.natAbs : Int) < 16777216 ^ 16) : WP w d 254 [aO (some o), aI ((a : Int)), aI ((b : Int))] (hw h V) (RI (fun r h1 => ∃ p : Nat, r = p ∧ ∃ V1, h1 = hw h V1 ∧ Gm V V1 o 1 ∧ RV V1 o p (x * y))) := by
  obtain ⟨d, rfl⟩ : ∃ d1, d = d1 + 1 := ⟨d - 1, by omega⟩
  refine WP.enter (cd := cd_X12_mul) rfl ?_
  obtain ⟨na, hna⟩ : ∃ n : Nat, V (o + 1) (a + 17) = n := ⟨_, xa.c.2.2.choose_spec.2.1⟩
  obtain ⟨nb, hnb⟩ : ∃ n : Nat, V (o + 1) (b + 17) = n := ⟨_, xb.c.2.2.choose_spec.2.1⟩
  have la1 := xa.c.lt hna
  have lb1 := xb.c.lt hnb
  have da := xa.dis hF
  have db := xb.dis hF
  have hls : largs 0 [aO (some o), aI ((a : Int)), aI ((b : Int))] = [(0, aO (some o)), (1, aI ((a : Int))), (2, aI ((b : Int)))] := rfl
  rw [hls]
  clear hls
  have l8 : ∀ (V1 : Nat → Nat → Int), (MFr V V1 o F) → ∀ (fuel : Nat) (i : Nat) (W : Nat → Nat → Int), (i ≤ na) → (MF V1 W o (18 * F)) → (ML (mr W o (18 * F))) → (mv (mr W o (18 * F)) 16 = mv (mr V o a) i * mv (mr V o b) 16) → na - i < fuel → Wk w d cd_X12_mul 8 [(4, aI ((i : Int))), (3, aI ((18 * F : Int))), (0, aO (some o)), (1, aI ((a : Int))), (2, aI ((b : Int)))] [] (hw h W) (RI (fun r h1 => ∃ p : Nat, r = p ∧ ∃ V1, h1 = hw h V1 ∧ Gm V V1 o 1 ∧ RV V1 o p (x * y))) := by
    intro V1 m1 fuel
    induction fuel with
    | zero => intros; omega
    | succ fuel ih8 =>
      intro i W hi mf hl hu hfuel
      have l28 : (i < na) → ∀ (fuel : Nat) (j : Nat) (k : Int) (V2 : Nat → Nat → Int), (i + j ≤ 16) → (0 ≤ k ∧ k < 16777216) → (MF V1 V2 o (18 * F)) → (ML (mr V2 o (18 * F))) → (mv (mr V2 o (18 * F)) 16 + k * 16777216 ^ (i + j) = mv (mr W o (18 * F)) 16 + (V (o + 1) (a + i)) * mv (mr V o b) j * 16777216 ^ i) → 16 - j < fuel → Wk w d cd_X12_mul 28 [(7, aI ((j : Int))), (5, aJ k), (4, aI ((i : Int))), (3, aI ((18 * F : Int))), (0, aO (some o)), (1, aI ((a : Int))), (2, aI ((b : Int)))] [] (hw h V2) (RI (fun r h1 => ∃ p : Nat, r = p ∧ ∃ V1, h1 = hw h V1 ∧ Gm V V1 o 1 ∧ RV V1 o p (x * y))) := by
        intro hi16 fuel
        induction fuel with
        | zero => intros; omega
        | succ fuel ih28 =>
          intro j k V2 hj hk mf2 hl2 hu2 hfuel
          have hij0 : 18 * F + (i + j) = 18 * F + i + j := by omega
          have j93 : ∀ (t : Int), (t = (V (o + 1) (a + i)) * (V (o + 1) (b + j))) → (i + j < 16) → Wk w d cd_X12_mul 93 [(7, aI ((j : Int))), (5, aJ k), (4, aI ((i : Int))), (3, aI ((18 * F : Int))), (0, aO (some o)), (1, aI ((a : Int))), (2, aI ((b : Int)))] [aJ t, aJ (V2 (o + 1) (18 * F + i + j) + k)] (hw h V2) (RI (fun r h1 => ∃ p : Nat, r = p ∧ ∃ V1, h1 = hw h V1 ∧ Gm V V1 o 1 ∧ RV V1 o p (x * y))) := by
            intro t ht hij
            have ha5 := xa.l i (by omega)
            have hb5 := xb.l j (by omega)
            have hr5 := hl2 (i + j) (by omega)
            change 0 ≤ V (o + 1) (a + i) ∧ V (o + 1) (a + i) < 16777216 at ha5
            change 0 ≤ V (o + 1) (b + j) ∧ V (o + 1) (b + j) < 16777216 at hb5
            change 0 ≤ V2 (o + 1) (18 * F + (i + j)) ∧ V2 (o + 1) (18 * F + (i + j)) < 16777216 at hr5
            rw [hij0] at hr5
            have hm5 := mmul_b ha5 hb5
            refine g_ladd rfl (by omega) (by omega) ?_
            refine g_top (v2 := aJ (V2 (o + 1) (18 * F + i + j) + k + (V (o + 1) (a + i)) * (V (o + 1) (b + j)))) (congrArg aJ (by rw [ht])) ?_
            refine g_lstore (l1 := [(8, aJ (V2 (o + 1) (18 * F + i + j) + k + (V (o + 1) (a + i)) * (V (o + 1) (b + j)))), (7, aI ((j : Int))), (5, aJ k), (4, aI ((i : Int))), (3, aI ((18 * F : Int))), (0, aO (some o)), (1, aI ((a : Int))), (2, aI ((b : Int)))]) rfl rfl ?_
            refine g_aload_n rfl rfl ?_
            refine g_getR rfl ms.1 (mr_limb ms) ?_
            refine g_iload_n rfl rfl ?_
            refine g_iload rfl rfl ?_
            refine g_iadd rfl (by omega) (by omega) ?_
            refine g_iload rfl rfl ?_
            refine g_iadd rfl (by omega) (by omega) ?_
            refine g_lload rfl rfl ?_
            refine g_ldc2 rfl ?_
            refine g_land rfl ?_
            refine g_top (v2 := aJ ((V2 (o + 1) (18 * F + i + j) + k + (V (o + 1) (a + i)) * (V (o + 1) (b + j))) % 16777216)) (congrArg aJ (by exact land_24 _)) ?_
            refine g_l2i rfl ?_
            refine g_top (v2 := aI ((V2 (o + 1) (18 * F + i + j) + k + (V (o + 1) (a + i)) * (V (o + 1) (b + j))) % 16777216)) (congrArg aI (by unfold w32; omega)) ?_
            refine g_iast (i := ((18 * F) + i) + j) rfl (mt_limb ms) (by omega) (by omega) ?_
            refine g_hp (h2 := hw h (vset V2 (o + 1) (((18 * F) + i) + j) ((V2 (o + 1) (18 * F + i + j) + k + (V (o + 1) (a + i)) * (V (o + 1) (b + j))) % 16777216))) rfl ?_
            refine g_lload rfl rfl ?_
            refine g_bipush rfl ?_
            refine g_lshr rfl ?_
            refine g_top (v2 := aJ ((V2 (o + 1) (18 * F + i + j) + k + (V (o + 1) (a + i)) * (V (o + 1) (b + j))) / 16777216)) (congrArg aJ (by exact lshr_24 _)) ?_
            refine g_lstore (l1 := [(5, aJ ((V2 (o + 1) (18 * F + i + j) + k + (V (o + 1) (a + i)) * (V (o + 1) (b + j))) / 16777216)), (8, aJ (V2 (o + 1) (18 * F + i + j) + k + (V (o + 1) (a + i)) * (V (o + 1) (b + j)))), (7, aI ((j : Int))), (4, aI ((i : Int))), (3, aI ((18 * F : Int))), (0, aO (some o)), (1, aI ((a : Int))), (2, aI ((b : Int)))]) rfl rfl ?_
            refine g_iinc (l1 := [(7, aI ((j : Int) + 1)), (5, aJ ((V2 (o + 1) (18 * F + i + j) + k + (V (o + 1) (a + i)) * (V (o + 1) (b + j))) / 16777216)), (8, aJ (V2 (o + 1) (18 * F + i + j) + k + (V (o + 1) (a + i)) * (V (o + 1) (b + j)))), (4, aI ((i : Int))), (3, aI ((18 * F : Int))), (0, aO (some o)), (1, aI ((a : Int))), (2, aI ((b : Int)))]) rfl rfl (by omega) (by omega) rfl ?_
            refine g_goto rfl ?_
            refine g_ls [0, 1, 3, 4, 5, 6, 7] rfl rfl ?_
            exact ih28 (j + 1) ((V2 (o + 1) (18 * F + i + j) + k + (V (o + 1) (a + i)) * (V (o + 1) (b + j))) / 16777216) _ (by omega) (by omega) (by exact mf2.trans (MF.set _ (by omega))) (by intro m hm; show 0 ≤ vset _ _ _ _ _ _ ∧ vset _ _ _ _ _ _ < _; by_cases e : m = i + j; (rw [show 18 * F + m = 18 * F + i + j by omega, vset_eq]; omega); (rw [vset_ne _ _ _ _ (by omega)]; exact hl2 m hm)) (by rw [mv_succ]; exact mul_on hij hu2) (by omega)
          refine g_iload rfl rfl ?_
          refine g_iload rfl rfl ?_
          refine g_iadd rfl (by omega) (by omega) ?_
          refine g_bipush rfl ?_
          refine g_icmp_ge rfl (fun c35 => ?_) (fun c35 => ?_)
          · skip
            have hij16 : i + j = 16 := by omega
            refine g_iinc (l1 := [(4, aI ((i : Int) + 1)), (7, aI ((j : Int))), (5, aJ k), (3, aI ((18 * F : Int))), (0, aO (some o)), (1, aI ((a : Int))), (2, aI ((b : Int)))]) rfl rfl (by omega) (by omega) rfl ?_
            refine g_goto rfl ?_
            refine g_ls [0, 3, 4, 5, 6] rfl rfl ?_
            exact ih8 (i + 1) _ (by omega) (by exact mf2) (by exact hl2) (by exact mul_out hij16 hi16 xa xb hna hnb hP hu hl2 hk hu2) (by omega)
          · skip
            refine g_aload_n rfl rfl ?_
            refine g_getR rfl ms.1 (mr_limb ms) ?_
            refine g_iload_n rfl rfl ?_
            refine g_iload rfl rfl ?_
            refine g_iadd rfl (by omega) (by omega) ?_
            refine g_iload rfl rfl ?_
            refine g_iadd rfl (by omega) (by omega) ?_
            refine g_iald (i := ((18 * F) + i) + j) rfl (mt_limb ms) (by omega) (by omega) ?_
            refine g_top (v2 := aI (V2 (o + 1) (((18 * F) + i) + j))) (congrArg aI (by rfl)) ?_
            have hr4 := hl2 (i + j) (by omega)
            change 0 ≤ V2 (o + 1) (18 * F + (i + j)) ∧ V2 (o + 1) (18 * F + (i + j)) < 16777216 at hr4
            rw [hij0] at hr4
            refine g_i2l rfl ?_
            refine g_lload rfl rfl ?_
            refine g_ladd rfl (by omega) (by omega) ?_
            refine g_iload rfl rfl ?_
            refine g_aload_n rfl rfl ?_
            refine g_getR rfl ms.1 (mr_limb ms) ?_
            refine g_iload_n rfl rfl ?_
            refine g_bipush rfl ?_
            refine g_iadd rfl (by omega) (by omega) ?_
            refine g_iald (i := b + 17) rfl (mt_limb ms) (by omega) (by omega) ?_
            refine g_top (v2 := aI (V2 (o + 1) (b + 17))) (congrArg aI (by rfl)) ?_
            refine g_top (v2 := aI ((nb : Int))) (congrArg aI (by rw [mf2.2 _ (by omega), m1.2.2.2.1 _ (by omega)]; exact hnb)) ?_
            refine g_icmp_ge rfl (fun c65 => ?_) (fun c65 => ?_)
            · skip
              refine g_lconst0 rfl ?_
              exact j93 _ (by rw [show V (o + 1) (b + j) = 0 from (by obtain ⟨n, n1, n2, n3, n4⟩ := xb.c.2.2; exact n3 j (by have q : V (o + 1) (b + 17) = n := n2; omega) (by omega))]; omega) (by omega)
            · skip
              refine g_aload_n rfl rfl ?_
              refine g_getR rfl ms.1 (mr_limb ms) ?_
              refine g_iload_n rfl rfl ?_
              refine g_iload rfl rfl ?_
              refine g_iadd rfl (by omega) (by omega) ?_
              refine g_iald (i := a + i) rfl (mt_limb ms) (by omega) (by omega) ?_
              refine g_top (v2 := aI (V2 (o + 1) (a + i))) (congrArg aI (by rfl)) ?_
              refine g_top (v2 := aI (V (o + 1) (a + i))) (congrArg aI (by rw [mf2.2 _ (by omega), m1.2.2.2.1 _ (by omega)])) ?_
              refine g_i2l rfl ?_
              refine g_aload_n rfl rfl ?_
              refine g_getR rfl ms.1 (mr_limb ms) ?_
              refine g_iload_n rfl rfl ?_
              refine g_iload rfl rfl ?_
              refine g_iadd rfl (by omega) (by omega) ?_
              refine g_iald (i := b + j) rfl (mt_limb ms) (by omega) (by omega) ?_
              refine g_top (v2 := aI (V2 (o + 1) (b + j))) (congrArg aI (by rfl)) ?_
              have ha5 := xa.l i (by omega)
              have hb5 := xb.l j (by omega)
              change 0 ≤ V (o + 1) (a + i) ∧ V (o + 1) (a + i) < 16777216 at ha5
              change 0 ≤ V (o + 1) (b + j) ∧ V (o + 1) (b + j) < 16777216 at hb5
              have hm5 := mmul_b ha5 hb5
              refine g_top (v2 := aI (V (o + 1) (b + j))) (congrArg aI (by rw [mf2.2 _ (by omega), m1.2.2.2.1 _ (by omega)])) ?_
              refine g_i2l rfl ?_
              refine g_lmul rfl (by omega) (by omega) ?_
              refine g_goto rfl ?_
              exact j93 _ (by rfl) (by omega)
      refine g_iload rfl rfl ?_
      refine g_aload_n rfl rfl ?_
      refine g_getR rfl ms.1 (mr_limb ms) ?_
      refine g_iload_n rfl rfl ?_
      refine g_bipush rfl ?_
      refine g_iadd rfl (by omega) (by omega) ?_
      refine g_iald (i := a + 17) rfl (mt_limb ms) (by omega) (by omega) ?_
      refine g_top (v2 := aI (W (o + 1) (a + 17))) (congrArg aI (by rfl)) ?_
      refine g_top (v2 := aI ((na : Int))) (congrArg aI (by rw [mf.2 _ (by omega), m1.2.2.2.1 _ (by omega)]; exact hna)) ?_
      refine g_icmp_ge rfl (fun c19 => ?_) (fun c19 => ?_)
      · skip
        have e0 : i = na := by omega
        rw [e0] at hu
        have ecut := mv_cut (f := mr V o a) (n := na) (by omega) (by obtain ⟨n, n1, n2, n3, n4⟩ := xa.c.2.2; intro k h1 h2; exact n3 k (by have q : V (o + 1) (a + 17) = n := n2; omega) h2)
        rw [← ecut, xa.v, xb.v] at hu
        have lx := lcmp_v x
        have ly := lcmp_v y
        refine g_aload_n rfl rfl ?_
        refine g_iload_n rfl rfl ?_
        refine g_aload_n rfl rfl ?_
        refine g_iload_n rfl rfl ?_
        refine g_callVI [aI ((a : Int))] [aI ((18 * F : Int)), aO (some o)] rfl rfl rfl rfl (Nat.le_of_ble_eq_true rfl) ms.1 (m_sign (by omega) ms W a xa.b) ?_
        rintro _ _ ⟨rfl, rfl⟩
        refine g_top (v2 := aI (lcmp x 0)) (congrArg aI (by rw [mf.2 _ (by omega), m1.2.2.2.1 _ (by omega)]; exact xa.s)) ?_
        refine g_aload_n rfl rfl ?_
        refine g_iload_n rfl rfl ?_
        refine g_callVI [aI ((b : Int))] [aI (lcmp x 0), aI ((18 * F : Int)), aO (some o)] rfl rfl rfl rfl (Nat.le_of_ble_eq_true rfl) ms.1 (m_sign (by omega) ms W b xb.b) ?_
        rintro _ _ ⟨rfl, rfl⟩
        refine g_top (v2 := aI (lcmp y 0)) (congrArg aI (by rw [mf.2 _ (by omega), m1.2.2.2.1 _ (by omega)]; exact xb.s)) ?_
        refine g_imulW rfl ?_
        refine g_top (v2 := aI (lcmp x 0 * lcmp y 0)) (congrArg aI (by rcases lx with ⟨_, e⟩ | ⟨_, e⟩ | ⟨_, e⟩ <;> rcases ly with ⟨_, e2⟩ | ⟨_, e2⟩ | ⟨_, e2⟩ <;> rw [e, e2] <;> rfl)) ?_
        refine g_callVN [aI ((18 * F : Int)), aI (lcmp x 0 * lcmp y 0)] [] rfl rfl rfl rfl (Nat.le_of_ble_eq_true rfl) ms.1 (m_trim (by omega) ms W (18 * F) (by omega) (lcmp x 0 * lcmp y 0) _ hl hu) ?_
        rintro _ ⟨V3, rfl, m3, r3⟩
        refine g_iload_n rfl rfl ?_
        refine g_iret rfl ?_
        obtain ⟨f1, f2⟩ := fin_m hF hF7 m1 (mf.trans m3) (z := x * y) (RW_of r3 (by rw [Int.natAbs_mul, Int.natCast_mul]) (fun _ => lcmp_mul x y))
        exact ⟨18 * F, rfl, V3, rfl, f1, f2⟩
      · skip
        refine g_lconst0 rfl ?_
        refine g_lstore (l1 := [(5, aJ 0), (4, aI ((i : Int))), (3, aI ((18 * F : Int))), (0, aO (some o)), (1, aI ((a : Int))), (2, aI ((b : Int)))]) rfl rfl ?_
        refine g_iconst rfl ?_
        refine g_istore (l1 := [(7, aI 0), (5, aJ 0), (4, aI ((i : Int))), (3, aI ((18 * F : Int))), (0, aO (some o)), (1, aI ((a : Int))), (2, aI ((b : Int)))]) rfl rfl ?_
        exact l28 (by omega) _ 0 0 W (by omega) (by omega) (by exact mf) (by exact hl) (by show _ + 0 * _ = _ + _ * 0 * _; simp) (Nat.lt_succ_self _)
  refine g_aload_n rfl rfl ?_
  refine g_callVI [] [] rfl rfl rfl rfl (Nat.le_of_ble_eq_true rfl) ms.1 (m_fresh (by omega) ms V F hF hF7) ?_
  rintro _ _ ⟨⟨V1, rfl, m1⟩, rfl⟩
  refine g_istore_n (l1 := [(3, aI ((18 * F : Int))), (0, aO (some o)), (1, aI ((a : Int))), (2, aI ((b : Int)))]) rfl rfl ?_
  refine g_iconst rfl ?_
  refine g_istore (l1 := [(4, aI 0), (3, aI ((18 * F : Int))), (0, aO (some o)), (1, aI ((a : Int))), (2, aI ((b : Int)))]) rfl rfl ?_
  exact l8 V1 (by exact m1) _ 0 V1 (by omega) (by exact MF.refl _ _ _) (by intro m hm; show 0 ≤ V1 (o + 1) (18 * F + m) ∧ V1 (o + 1) (18 * F + m) < 16777216; rw [m1.2.2.2.2 m (by omega)]; omega) (by rw [mv_zero (f := mr V1 o (18 * F)) (fun m hm => m1.2.2.2.2 m (by omega))]; show _ = 0 * _; simp) (Nat.lt_succ_self _)
theorem r_mul {w : aW} {d : Nat} (hd : 2 ≤ d) {h : aH} {o : Nat} (ms : MS h o) (V : Nat → Nat → Int) (hF : 0 ≤ V o 1 ∧ V o 1 < 700) {a b : Nat} {x y : Int} {j k : Nat} (xa : RB V o a x j) (xb : RB V o b y k) (hm : j + k ≤ 382) : WP w d 254 [aO (some o), aI (a : Int), aI (b : Int)] (hw h V) (RI (fun r h1 => ∃ p : Nat, r = p ∧ ∃ V1, h1 = hw h V1 ∧ Gm V V1 o 1 ∧ RB V1 o p (x * y) (j + k))) := by
  obtain ⟨F, hFF⟩ : ∃ F : Nat, V o 1 = F := ⟨(V o 1).toNat, by omega⟩
  have hb := bd_mul xa.2 xb.2
  have hP : (x.natAbs : Int) * (y.natAbs : Int) < 16777216 ^ 16 := by
    rw [← Int.natCast_mul, ← Int.natAbs_mul, M16]
    have q1 := pw_le hm
    have q2 : (2 : Int) ^ 384 = 4 * 2 ^ 382 := by decide
    have := pw_pos 382
    omega
  refine (m_mul hd ms V F hFF (by omega) xa.1 xb.1 hP).imp ?_
  rintro _ h1 ⟨_, rfl, p, rfl, V1, rfl, g, v⟩
  exact ⟨_, rfl, p, rfl, V1, rfl, g, v, hb⟩
theorem r_num {w : aW} {d : Nat} (hd : 2 ≤ d) {h : aH} {o : Nat} (ms : MS h o) (V : Nat → Nat → Int) (hF : 0 ≤ V o 1 ∧ V o 1 < 700) (v : Int) (hv : -4611686018427387904 ≤ v ∧ v ≤ 4611686018427387904) (m : Nat) (hb : -2 ^ m ≤ v ∧ v ≤ 2 ^ m) : WP w d 244 [aO (some o), aJ v] (hw h V) (RI (fun r h1 => ∃ p : Nat, r = p ∧ ∃ V1, h1 = hw h V1 ∧ Gm V V1 o 1 ∧ RB V1 o p v m)) := by
  obtain ⟨F, hFF⟩ : ∃ F : Nat, V o 1 = F := ⟨(V o 1).toNat, by omega⟩
  refine (m_num hd ms V F hFF (by omega) v hv).imp ?_
  rintro _ h1 ⟨_, rfl, p, rfl, V1, rfl, g, v⟩
  exact ⟨_, rfl, p, rfl, V1, rfl, g, v, hb⟩
