/-! the reference's whole numbers, on: printed by wip/whole/c2.py -/
/-- a register taken -/
def MFr (V V1 : Nat → Nat → Int) (o F : Nat) : Prop := (∀ q, q ≠ o → q ≠ o + 1 → V1 q = V q) ∧ (∀ f, f ≠ 1 → V1 o f = V o f) ∧ V1 o 1 = (F : Int) + 1 ∧ (∀ x, (x < 18 * F ∨ 18 * F + 18 ≤ x) → V1 (o + 1) x = V (o + 1) x) ∧ ∀ j < 18, V1 (o + 1) (18 * F + j) = 0
theorem m_fresh {w : aW} {d : Nat} (hd : 1 ≤ d) {h : aH} {o : Nat} (ms : MS h o) (V : Nat → Nat → Int) (F : Nat) (hF : V o 1 = F) (hF7 : F < 700) : WP w d 243 [aO (some o)] (hw h V) (RI (fun r h1 => (∃ V1, h1 = hw h V1 ∧ MFr V V1 o F) ∧ r = ((18 * F : Nat) : Int))) := by
  obtain ⟨d, rfl⟩ : ∃ d1, d = d1 + 1 := ⟨d - 1, by omega⟩
  refine WP.enter (cd := cd_X12_fresh) rfl ?_
  have hls : largs 0 [aO (some o)] = [(0, aO (some o))] := rfl
  rw [hls]
  clear hls
  have l20 : ∀ (fuel : Nat) (i : Nat) (V1 : Nat → Nat → Int), (i ≤ 18) → (∀ q, q ≠ o → q ≠ o + 1 → V1 q = V q) → (∀ f, f ≠ 1 → V1 o f = V o f) → (V1 o 1 = (F : Int) + 1) → (∀ x, (x < 18 * F ∨ 18 * F + 18 ≤ x) → V1 (o + 1) x = V (o + 1) x) → (∀ j < i, V1 (o + 1) (18 * F + j) = 0) → 18 - i < fuel → Wk w d cd_X12_fresh 20 [(2, aI ((i : Int))), (1, aI ((18 * F : Int))), (0, aO (some o))] [] (hw h V1) (RI (fun r h1 => (∃ V1, h1 = hw h V1 ∧ MFr V V1 o F) ∧ r = ((18 * F : Nat) : Int))) := by
    intro fuel
    induction fuel with
    | zero => intros; omega
    | succ fuel ih20 =>
      intro i V1 hi hf hf2 hf3 hx hz hfuel
      refine g_iload_n rfl rfl ?_
      refine g_bipush rfl ?_
      refine g_icmp_ge rfl (fun c23 => ?_) (fun c23 => ?_)
      · skip
        refine g_iload_n rfl rfl ?_
        refine g_iret rfl ?_
        exact ⟨⟨V1, rfl, hf, hf2, hf3, hx, fun j hj => hz j (by omega)⟩, rfl⟩
      · skip
        refine g_aload_n rfl rfl ?_
        refine g_getR rfl ms.1 (mr_limb ms) ?_
        refine g_iload_n rfl rfl ?_
        refine g_iload_n rfl rfl ?_
        refine g_iadd rfl (by omega) (by omega) ?_
        refine g_iconst rfl ?_
        refine g_iast (i := (18 * F) + i) rfl (mt_limb ms) (by omega) (by omega) ?_
        refine g_hp (h2 := hw h (vset V1 (o + 1) ((18 * F) + i) 0)) rfl ?_
        refine g_iinc (l1 := [(2, aI ((i : Int) + 1)), (1, aI ((18 * F : Int))), (0, aO (some o))]) rfl rfl (by omega) (by omega) rfl ?_
        refine g_goto rfl ?_
        exact ih20 (i + 1) _ (by omega) (by intro q h1 h2; funext j; rw [vset_ne _ _ _ _ (by omega), hf q h1 h2]) (by intro f h1; rw [vset_ne _ _ _ _ (by omega), hf2 f h1]) (by rw [vset_ne _ _ _ _ (by omega)]; exact hf3) (by intro x h1; rw [vset_ne _ _ _ _ (by omega)]; exact hx x h1) (by intro j hj; by_cases e : j = i; (rw [e, vset_eq]); (rw [vset_ne _ _ _ _ (by omega)]; exact hz j (by omega))) (by omega)
  refine g_bipush rfl ?_
  refine g_aload_n rfl rfl ?_
  refine g_getI rfl ms.1 ?_
  refine g_top (v2 := aI ((F : Int))) (congrArg aI (by show V o 1 = ((F : Int)); rw [hF])) ?_
  refine g_imul rfl (by omega) (by omega) ?_
  refine g_top (v2 := aI ((18 * F : Int))) (congrArg aI (by omega)) ?_
  refine g_istore_n (l1 := [(1, aI ((18 * F : Int))), (0, aO (some o))]) rfl rfl ?_
  refine g_aload_n rfl rfl ?_
  refine g_dup rfl rfl ?_
  refine g_getI rfl ms.1 ?_
  refine g_top (v2 := aI ((F : Int))) (congrArg aI (by show V o 1 = ((F : Int)); rw [hF])) ?_
  refine g_iconst rfl ?_
  refine g_iadd rfl (by omega) (by omega) ?_
  refine g_putI rfl ms.1 ?_
  refine g_hp (h2 := hw h (vset V o 1 (((F : Int)) + 1))) rfl ?_
  refine g_iconst rfl ?_
  refine g_istore_n (l1 := [(2, aI 0), (1, aI ((18 * F : Int))), (0, aO (some o))]) rfl rfl ?_
  exact l20 _ 0 _ (by omega) (by intro q h1 h2; funext j; rw [vset_ne _ _ _ _ (by omega)]) (by intro f h1; rw [vset_ne _ _ _ _ (by omega)]) (by exact vset_eq _ _ _ _) (by intro x _; rw [vset_ne _ _ _ _ (by omega)]) (by intro j hj; omega) (Nat.lt_succ_self _)
theorem m_sign {w : aW} {d : Nat} (hd : 1 ≤ d) {h : aH} {o : Nat} (ms : MS h o) (V : Nat → Nat → Int) (a : Nat) (ha : a + 18 ≤ 12600) : WP w d 245 [aO (some o), aI ((a : Int))] (hw h V) (RI (fun r h1 => h1 = hw h V ∧ r = V (o + 1) (a + 16))) := by
  obtain ⟨d, rfl⟩ : ∃ d1, d = d1 + 1 := ⟨d - 1, by omega⟩
  refine WP.enter (cd := cd_X12_sign) rfl ?_
  have hls : largs 0 [aO (some o), aI ((a : Int))] = [(0, aO (some o)), (1, aI ((a : Int)))] := rfl
  rw [hls]
  clear hls
  refine g_aload_n rfl rfl ?_
  refine g_getR rfl ms.1 (mr_limb ms) ?_
  refine g_iload_n rfl rfl ?_
  refine g_bipush rfl ?_
  refine g_iadd rfl (by omega) (by omega) ?_
  refine g_iald (i := a + 16) rfl (mt_limb ms) (by omega) (by omega) ?_
  refine g_top (v2 := aI (V (o + 1) (a + 16))) (congrArg aI (by rfl)) ?_
  refine g_iret rfl ?_
  exact ⟨rfl, rfl⟩
theorem m_compareSizes {w : aW} {d : Nat} (hd : 1 ≤ d) {h : aH} {o : Nat} (ms : MS h o) (V : Nat → Nat → Int) (a : Nat) (b : Nat) (ha : a + 18 ≤ 12600) (hb : b + 18 ≤ 12600) {x y : Int} (ca : CN (mr V o a) x) (cb : CN (mr V o b) y) : WP w d 246 [aO (some o), aI ((a : Int)), aI ((b : Int))] (hw h V) (RI (fun r h1 => h1 = hw h V ∧ r = lcmp x y)) := by
  obtain ⟨d, rfl⟩ : ∃ d1, d = d1 + 1 := ⟨d - 1, by omega⟩
  refine WP.enter (cd := cd_X12_compareSizes) rfl ?_
  obtain ⟨n, n1, n3, n4, -⟩ := ca.2.2
  obtain ⟨nb, b1, b3, b4, -⟩ := cb.2.2
  change V (o + 1) (a + 17) = _ at n3
  change V (o + 1) (b + 17) = _ at b3
  have hls : largs 0 [aO (some o), aI ((a : Int)), aI ((b : Int))] = [(0, aO (some o)), (1, aI ((a : Int))), (2, aI ((b : Int)))] := rfl
  rw [hls]
  clear hls
  have l60 : ∀ (fuel : Nat) (m : Nat), (m ≤ 16) → (∀ j, m ≤ j → j < 16 → V (o + 1) (a + j) = V (o + 1) (b + j)) → m < fuel → Wk w d cd_X12_compareSizes 60 [(3, aI ((m : Int) - 1)), (0, aO (some o)), (1, aI ((a : Int))), (2, aI ((b : Int)))] [] (hw h V) (RI (fun r h1 => h1 = hw h V ∧ r = lcmp x y)) := by
    intro fuel
    induction fuel with
    | zero => intros; omega
    | succ fuel ih60 =>
      intro m hm he hfuel
      refine g_iload_n rfl rfl ?_
      refine g_if_lt rfl (fun c61 => ?_) (fun c61 => ?_)
      · skip
        refine g_iconst rfl ?_
        refine g_iret rfl ?_
        refine ⟨rfl, ?_⟩
        rw [← ca.2.1, ← cb.2.1, mv_congr (f := mr V o a) (g := mr V o b) (fun j hj => he j (by omega) hj)]
        unfold lcmp
        rw [if_neg (by omega), if_pos rfl]
      · skip
        refine g_aload_n rfl rfl ?_
        refine g_getR rfl ms.1 (mr_limb ms) ?_
        refine g_iload_n rfl rfl ?_
        refine g_iload_n rfl rfl ?_
        refine g_iadd rfl (by omega) (by omega) ?_
        refine g_iald (i := (a + (m - 1))) rfl (mt_limb ms) (by omega) (by omega) ?_
        refine g_top (v2 := aI (V (o + 1) (a + (m - 1)))) (congrArg aI (by rfl)) ?_
        refine g_aload_n rfl rfl ?_
        refine g_getR rfl ms.1 (mr_limb ms) ?_
        refine g_iload_n rfl rfl ?_
        refine g_iload_n rfl rfl ?_
        refine g_iadd rfl (by omega) (by omega) ?_
        refine g_iald (i := (b + (m - 1))) rfl (mt_limb ms) (by omega) (by omega) ?_
        refine g_top (v2 := aI (V (o + 1) (b + (m - 1)))) (congrArg aI (by rfl)) ?_
        refine g_icmp_eq rfl (fun c80 => ?_) (fun c80 => ?_)
        · skip
          refine g_iinc (l1 := [(3, aI ((m : Int) - 1 + (-1))), (0, aO (some o)), (1, aI ((a : Int))), (2, aI ((b : Int)))]) rfl rfl (by omega) (by omega) rfl ?_
          rw [show ((m : Int) - 1 + (-1) : Int) = ((m - 1 : Nat) : Int) - 1 by omega]
          refine g_goto rfl ?_
          exact ih60 (m - 1) (by omega) (by intro j h1 h2; by_cases e : j = m - 1; (rw [e]; exact c80); (exact he j (by omega) h2)) (by omega)
        · skip
          refine g_aload_n rfl rfl ?_
          refine g_getR rfl ms.1 (mr_limb ms) ?_
          refine g_iload_n rfl rfl ?_
          refine g_iload_n rfl rfl ?_
          refine g_iadd rfl (by omega) (by omega) ?_
          refine g_iald (i := (a + (m - 1))) rfl (mt_limb ms) (by omega) (by omega) ?_
          refine g_top (v2 := aI (V (o + 1) (a + (m - 1)))) (congrArg aI (by rfl)) ?_
          refine g_aload_n rfl rfl ?_
          refine g_getR rfl ms.1 (mr_limb ms) ?_
          refine g_iload_n rfl rfl ?_
          refine g_iload_n rfl rfl ?_
          refine g_iadd rfl (by omega) (by omega) ?_
          refine g_iald (i := (b + (m - 1))) rfl (mt_limb ms) (by omega) (by omega) ?_
          refine g_top (v2 := aI (V (o + 1) (b + (m - 1)))) (congrArg aI (by rfl)) ?_
          refine g_icmp_ge rfl (fun c99 => ?_) (fun c99 => ?_)
          · skip
            refine g_iconst rfl ?_
            refine g_iret rfl ?_
            refine ⟨rfl, ?_⟩
            rw [← ca.2.1, ← cb.2.1]
            unfold lcmp
            first
              | rw [if_pos (mv_lt ca.1 cb.1 (show m - 1 < 16 by omega) (fun j h1 h2 => he j (by omega) h2) (show V (o + 1) (a + (m - 1)) < V (o + 1) (b + (m - 1)) by omega))]
              | (have := mv_lt cb.1 ca.1 (show m - 1 < 16 by omega) (fun j h1 h2 => (he j (by omega) h2).symm) (show V (o + 1) (b + (m - 1)) < V (o + 1) (a + (m - 1)) by omega)
                 rw [if_neg (by omega), if_neg (by omega)])
          · skip
            refine g_iconst rfl ?_
            refine g_goto rfl ?_
            refine g_iret rfl ?_
            refine ⟨rfl, ?_⟩
            rw [← ca.2.1, ← cb.2.1]
            unfold lcmp
            first
              | rw [if_pos (mv_lt ca.1 cb.1 (show m - 1 < 16 by omega) (fun j h1 h2 => he j (by omega) h2) (show V (o + 1) (a + (m - 1)) < V (o + 1) (b + (m - 1)) by omega))]
              | (have := mv_lt cb.1 ca.1 (show m - 1 < 16 by omega) (fun j h1 h2 => (he j (by omega) h2).symm) (show V (o + 1) (b + (m - 1)) < V (o + 1) (a + (m - 1)) by omega)
                 rw [if_neg (by omega), if_neg (by omega)])
  refine g_aload_n rfl rfl ?_
  refine g_getR rfl ms.1 (mr_limb ms) ?_
  refine g_iload_n rfl rfl ?_
  refine g_bipush rfl ?_
  refine g_iadd rfl (by omega) (by omega) ?_
  refine g_iald (i := a + 17) rfl (mt_limb ms) (by omega) (by omega) ?_
  refine g_top (v2 := aI (V (o + 1) (a + 17))) (congrArg aI (by rfl)) ?_
  refine g_aload_n rfl rfl ?_
  refine g_getR rfl ms.1 (mr_limb ms) ?_
  refine g_iload_n rfl rfl ?_
  refine g_bipush rfl ?_
  refine g_iadd rfl (by omega) (by omega) ?_
  refine g_iald (i := b + 17) rfl (mt_limb ms) (by omega) (by omega) ?_
  refine g_top (v2 := aI (V (o + 1) (b + 17))) (congrArg aI (by rfl)) ?_
  refine g_icmp_eq rfl (fun c18 => ?_) (fun c18 => ?_)
  · skip
    refine g_aload_n rfl rfl ?_
    refine g_getR rfl ms.1 (mr_limb ms) ?_
    refine g_iload_n rfl rfl ?_
    refine g_bipush rfl ?_
    refine g_iadd rfl (by omega) (by omega) ?_
    refine g_iald (i := a + 17) rfl (mt_limb ms) (by omega) (by omega) ?_
    refine g_top (v2 := aI (V (o + 1) (a + 17))) (congrArg aI (by rfl)) ?_
    refine g_top (v2 := aI ((n : Int))) (congrArg aI (by exact n3)) ?_
    refine g_iconst rfl ?_
    refine g_isub rfl (by omega) (by omega) ?_
    refine g_istore_n (l1 := [(3, aI (((n : Int)) - 1)), (0, aO (some o)), (1, aI ((a : Int))), (2, aI ((b : Int)))]) rfl rfl ?_
    exact l60 _ n (by omega) (by intro j h1 h2; rw [show V (o + 1) (a + j) = 0 from n4 j h1 h2, show V (o + 1) (b + j) = 0 from b4 j (by omega) h2]) (Nat.lt_succ_self _)
  · skip
    refine g_aload_n rfl rfl ?_
    refine g_getR rfl ms.1 (mr_limb ms) ?_
    refine g_iload_n rfl rfl ?_
    refine g_bipush rfl ?_
    refine g_iadd rfl (by omega) (by omega) ?_
    refine g_iald (i := a + 17) rfl (mt_limb ms) (by omega) (by omega) ?_
    refine g_top (v2 := aI (V (o + 1) (a + 17))) (congrArg aI (by rfl)) ?_
    refine g_aload_n rfl rfl ?_
    refine g_getR rfl ms.1 (mr_limb ms) ?_
    refine g_iload_n rfl rfl ?_
    refine g_bipush rfl ?_
    refine g_iadd rfl (by omega) (by omega) ?_
    refine g_iald (i := b + 17) rfl (mt_limb ms) (by omega) (by omega) ?_
    refine g_top (v2 := aI (V (o + 1) (b + 17))) (congrArg aI (by rfl)) ?_
    refine g_icmp_ge rfl (fun c39 => ?_) (fun c39 => ?_)
    · skip
      refine g_iconst rfl ?_
      refine g_iret rfl ?_
      refine ⟨rfl, ?_⟩
      unfold lcmp
      first
        | rw [if_pos (ca.lt_of cb (show V (o + 1) (a + 17) < V (o + 1) (b + 17) by omega))]
        | (have := cb.lt_of ca (show V (o + 1) (b + 17) < V (o + 1) (a + 17) by omega)
           rw [if_neg (by omega), if_neg (by omega)])
    · skip
      refine g_iconst rfl ?_
      refine g_goto rfl ?_
      refine g_iret rfl ?_
      refine ⟨rfl, ?_⟩
      unfold lcmp
      first
        | rw [if_pos (ca.lt_of cb (show V (o + 1) (a + 17) < V (o + 1) (b + 17) by omega))]
        | (have := cb.lt_of ca (show V (o + 1) (b + 17) < V (o + 1) (a + 17) by omega)
           rw [if_neg (by omega), if_neg (by omega)])
theorem m_set {w : aW} {d : Nat} (hd : 1 ≤ d) {h : aH} {o : Nat} (ms : MS h o) (V : Nat → Nat → Int) (r : Nat) (a : Nat) (hr : r + 18 ≤ 12600) (ha : a + 18 ≤ 12600) (hra : r + 18 ≤ a ∨ a + 18 ≤ r) : WP w d 259 [aO (some o), aI ((r : Int)), aI ((a : Int))] (hw h V) (RN (fun h1 => ∃ V1, h1 = hw h V1 ∧ MF V V1 o r ∧ ∀ k < 18, mr V1 o r k = mr V o a k)) := by
  obtain ⟨d, rfl⟩ : ∃ d1, d = d1 + 1 := ⟨d - 1, by omega⟩
  refine WP.enter (cd := cd_X12_set) rfl ?_
  have hls : largs 0 [aO (some o), aI ((r : Int)), aI ((a : Int))] = [(0, aO (some o)), (1, aI ((r : Int))), (2, aI ((a : Int)))] := rfl
  rw [hls]
  clear hls
  have l2 : ∀ (fuel : Nat) (i : Nat) (V1 : Nat → Nat → Int), (i ≤ 18) → (MF V V1 o r) → (∀ j < i, V1 (o + 1) (r + j) = V (o + 1) (a + j)) → 18 - i < fuel → Wk w d cd_X12_set 2 [(3, aI ((i : Int))), (0, aO (some o)), (1, aI ((r : Int))), (2, aI ((a : Int)))] [] (hw h V1) (RN (fun h1 => ∃ V1, h1 = hw h V1 ∧ MF V V1 o r ∧ ∀ k < 18, mr V1 o r k = mr V o a k)) := by
    intro fuel
    induction fuel with
    | zero => intros; omega
    | succ fuel ih2 =>
      intro i V1 hi mf hz hfuel
      refine g_iload_n rfl rfl ?_
      refine g_bipush rfl ?_
      refine g_icmp_ge rfl (fun c5 => ?_) (fun c5 => ?_)
      · skip
        refine g_vret rfl ?_
        exact ⟨V1, rfl, mf, fun k hk => hz k (by omega)⟩
      · skip
        refine g_aload_n rfl rfl ?_
        refine g_getR rfl ms.1 (mr_limb ms) ?_
        refine g_iload_n rfl rfl ?_
        refine g_iload_n rfl rfl ?_
        refine g_iadd rfl (by omega) (by omega) ?_
        refine g_aload_n rfl rfl ?_
        refine g_getR rfl ms.1 (mr_limb ms) ?_
        refine g_iload_n rfl rfl ?_
        refine g_iload_n rfl rfl ?_
        refine g_iadd rfl (by omega) (by omega) ?_
        refine g_iald (i := a + i) rfl (mt_limb ms) (by omega) (by omega) ?_
        refine g_top (v2 := aI (V1 (o + 1) (a + i))) (congrArg aI (by rfl)) ?_
        refine g_top (v2 := aI (V (o + 1) (a + i))) (congrArg aI (by exact mf.2 _ (by omega))) ?_
        refine g_iast (i := r + i) rfl (mt_limb ms) (by omega) (by omega) ?_
        refine g_hp (h2 := hw h (vset V1 (o + 1) (r + i) (V (o + 1) (a + i)))) rfl ?_
        refine g_iinc (l1 := [(3, aI ((i : Int) + 1)), (0, aO (some o)), (1, aI ((r : Int))), (2, aI ((a : Int)))]) rfl rfl (by omega) (by omega) rfl ?_
        refine g_goto rfl ?_
        exact ih2 (i + 1) _ (by omega) (by exact mf.trans (MF.set _ (by omega))) (by intro j hj; by_cases e : j = i; (rw [e, vset_eq]); (rw [vset_ne _ _ _ _ (by omega)]; exact hz j (by omega))) (by omega)
  refine g_iconst rfl ?_
  refine g_istore_n (l1 := [(3, aI 0), (0, aO (some o)), (1, aI ((r : Int))), (2, aI ((a : Int)))]) rfl rfl ?_
  exact l2 _ 0 V (by omega) (by exact MF.refl _ _ _) (by intro j hj; omega) (Nat.lt_succ_self _)
theorem mhalf {x k : Int} (hx : 0 ≤ x ∧ x < 16777216) (hk : k = 0 ∨ k = 1) : ior (ishr x 1) (ishl k 23) = x / 2 + k * 8388608 := by
  have e1 : ishr x 1 = x / 2 := rfl
  have e2 : ishl k 23 = w32 (k * 8388608) := rfl
  rw [ior_nat, Nat.or_comm, ← ior_nat, e1, e2, ior_add (i := 23) (a := k.toNat) (b := (x / 2).toNat) (by rw [w32_mod]; show _ = ((8388608 * _ : Nat) : Int); omega) (by omega) (by show _ < 8388608; omega), show (2 : Nat) ^ 23 = 8388608 by decide]
  unfold w32
  omega
theorem mv_halves {f g : Nat → Int} (n : Nat) (hg : ∀ j < n, g j = f j / 2 + (if j < 15 then f (j + 1) % 2 else 0) * 8388608) (hn : n ≤ 16) : 2 * mv g n = mv f n - f 0 % 2 * (if n = 0 then 0 else 1) + (if 0 < n ∧ n < 16 then f n % 2 else 0) * 16777216 ^ n := by
  induction n with
  | zero => simp [mv]
  | succ n ih =>
    rw [mv_succ, mv_succ, Int.mul_add, ih (fun j hj => hg j (by omega)) (by omega), hg n (by omega), mp_succ]
    have h1 := Int.mul_ediv_add_emod (f n) 2
    rw [if_neg (show ¬ n + 1 = 0 by omega)]
    clear ih hg
    by_cases q : n = 0
    · subst q
      rw [if_pos rfl, if_neg (by omega), if_pos (by omega), if_pos (by omega), Int.pow_zero]
      omega
    · rw [if_neg q]
      generalize (16777216 : Int) ^ n = P at *
      by_cases q2 : n < 15
      · rw [if_pos q2, if_pos (by omega), if_pos (by omega)]
        clear hn q q2
        generalize f n / 2 = y at *
        generalize f n % 2 = z at *
        generalize f n = x at *
        generalize f (n + 1) % 2 = t at *
        subst h1
        grind
      · rw [if_neg q2, if_pos (by omega), if_neg (by omega)]
        clear hn q q2
        generalize f n / 2 = y at *
        generalize f n % 2 = z at *
        generalize f n = x at *
        subst h1
        grind
theorem mv_half {f g : Nat → Int} (hg : ∀ j < 16, g j = f j / 2 + (if j < 15 then f (j + 1) % 2 else 0) * 8388608) : mv g 16 = mv f 16 / 2 := by
  have h := mv_halves 16 hg (by omega)
  rw [if_neg (by decide), if_neg (by decide)] at h
  have := mv_cons f 15
  omega
theorem m_halve {w : aW} {d : Nat} (hd : 2 ≤ d) {h : aH} {o : Nat} (ms : MS h o) (V : Nat → Nat → Int) (r : Nat) (hr : r + 18 ≤ 12600) (ml : ML (mr V o r)) : WP w d 260 [aO (some o), aI ((r : Int))] (hw h V) (RN (fun h1 => ∃ V1, h1 = hw h V1 ∧ MF V V1 o r ∧ RC V1 o r (mv (mr V o r) 16 / 2) (V (o + 1) (r + 16)))) := by
  obtain ⟨d, rfl⟩ : ∃ d1, d = d1 + 1 := ⟨d - 1, by omega⟩
  refine WP.enter (cd := cd_X12_halve) rfl ?_
  have hls : largs 0 [aO (some o), aI ((r : Int))] = [(0, aO (some o)), (1, aI ((r : Int)))] := rfl
  rw [hls]
  clear hls
  have l2 : ∀ (fuel : Nat) (i : Nat) (V1 : Nat → Nat → Int), (i ≤ 16) → (MF V V1 o r) → (∀ j, i ≤ j → V1 (o + 1) (r + j) = V (o + 1) (r + j)) → (∀ j < i, V1 (o + 1) (r + j) = V (o + 1) (r + j) / 2 + (if j < 15 then V (o + 1) (r + (j + 1)) % 2 else 0) * 8388608) → 16 - i < fuel → Wk w d cd_X12_halve 2 [(2, aI ((i : Int))), (0, aO (some o)), (1, aI ((r : Int)))] [] (hw h V1) (RN (fun h1 => ∃ V1, h1 = hw h V1 ∧ MF V V1 o r ∧ RC V1 o r (mv (mr V o r) 16 / 2) (V (o + 1) (r + 16)))) := by
    intro fuel
    induction fuel with
    | zero => intros; omega
    | succ fuel ih2 =>
      intro i V1 hi mf hlo hz hfuel
      have j32 : ∀ (k : Int), (k = if i < 15 then V (o + 1) (r + (i + 1)) % 2 else 0) → (i < 16) → Wk w d cd_X12_halve 32 [(2, aI ((i : Int))), (0, aO (some o)), (1, aI ((r : Int)))] [aI k] (hw h V1) (RN (fun h1 => ∃ V1, h1 = hw h V1 ∧ MF V V1 o r ∧ RC V1 o r (mv (mr V o r) 16 / 2) (V (o + 1) (r + 16)))) := by
        intro k hk hi16
        have hm0 := ml i hi16
        change 0 ≤ V (o + 1) (r + i) ∧ V (o + 1) (r + i) < 16777216 at hm0
        have hk01 : k = 0 ∨ k = 1 := by rw [hk]; split <;> omega
        refine g_istore_n (l1 := [(3, aI k), (2, aI ((i : Int))), (0, aO (some o)), (1, aI ((r : Int)))]) rfl rfl ?_
        refine g_aload_n rfl rfl ?_
        refine g_getR rfl ms.1 (mr_limb ms) ?_
        refine g_iload_n rfl rfl ?_
        refine g_iload_n rfl rfl ?_
        refine g_iadd rfl (by omega) (by omega) ?_
        refine g_aload_n rfl rfl ?_
        refine g_getR rfl ms.1 (mr_limb ms) ?_
        refine g_iload_n rfl rfl ?_
        refine g_iload_n rfl rfl ?_
        refine g_iadd rfl (by omega) (by omega) ?_
        refine g_iald (i := r + i) rfl (mt_limb ms) (by omega) (by omega) ?_
        refine g_top (v2 := aI (V1 (o + 1) (r + i))) (congrArg aI (by rfl)) ?_
        refine g_top (v2 := aI (V (o + 1) (r + i))) (congrArg aI (by exact hlo i (Nat.le_refl _))) ?_
        refine g_iconst rfl ?_
        refine g_ishr rfl ?_
        refine g_iload_n rfl rfl ?_
        refine g_bipush rfl ?_
        refine g_ishl rfl ?_
        refine g_ior rfl ?_
        refine g_top (v2 := aI (V (o + 1) (r + i) / 2 + (if i < 15 then V (o + 1) (r + (i + 1)) % 2 else 0) * 8388608)) (congrArg aI (by rw [mhalf hm0 hk01, hk])) ?_
        refine g_iast (i := r + i) rfl (mt_limb ms) (by omega) (by omega) ?_
        refine g_hp (h2 := hw h (vset V1 (o + 1) (r + i) (V (o + 1) (r + i) / 2 + (if i < 15 then V (o + 1) (r + (i + 1)) % 2 else 0) * 8388608))) rfl ?_
        refine g_iinc (l1 := [(2, aI ((i : Int) + 1)), (3, aI k), (0, aO (some o)), (1, aI ((r : Int)))]) rfl rfl (by omega) (by omega) rfl ?_
        refine g_goto rfl ?_
        refine g_ls [0, 2, 3] rfl rfl ?_
        exact ih2 (i + 1) _ (by omega) (by exact mf.trans (MF.set _ (by omega))) (by intro j hj; rw [vset_ne _ _ _ _ (by omega)]; exact hlo j (by omega)) (by intro j hj; by_cases e : j = i; (rw [e, vset_eq]); (rw [vset_ne _ _ _ _ (by omega)]; exact hz j (by omega))) (by omega)
      refine g_iload_n rfl rfl ?_
      refine g_bipush rfl ?_
      refine g_icmp_ge rfl (fun c5 => ?_) (fun c5 => ?_)
      · skip
        refine g_aload_n rfl rfl ?_
        refine g_iload_n rfl rfl ?_
        refine g_aload_n rfl rfl ?_
        refine g_getR rfl ms.1 (mr_limb ms) ?_
        refine g_iload_n rfl rfl ?_
        refine g_bipush rfl ?_
        refine g_iadd rfl (by omega) (by omega) ?_
        refine g_iald (i := r + 16) rfl (mt_limb ms) (by omega) (by omega) ?_
        refine g_top (v2 := aI (V1 (o + 1) (r + 16))) (congrArg aI (by rfl)) ?_
        have e16 : i = 16 := by omega
        rw [e16] at hz
        refine g_top (v2 := aI (V (o + 1) (r + 16))) (congrArg aI (by exact hlo 16 (by omega))) ?_
        refine g_callVN [aI ((r : Int)), aI (V (o + 1) (r + 16))] [] rfl rfl rfl rfl (Nat.le_of_ble_eq_true rfl) ms.1 (m_trim (by omega) ms V1 r hr (V (o + 1) (r + 16)) _ (fun j hj => by show 0 ≤ V1 (o + 1) (r + j) ∧ V1 (o + 1) (r + j) < 16777216; rw [hz j hj]; have h0 := ml j hj; change 0 ≤ V (o + 1) (r + j) ∧ V (o + 1) (r + j) < 16777216 at h0; split <;> omega) (mv_half (f := mr V o r) (g := mr V1 o r) hz)) ?_
        rintro _ ⟨W1, rfl, mf1, rc1⟩
        refine g_vret rfl ?_
        exact ⟨W1, rfl, mf.trans mf1, rc1⟩
      · skip
        refine g_iload_n rfl rfl ?_
        refine g_iconst rfl ?_
        refine g_iadd rfl (by omega) (by omega) ?_
        refine g_bipush rfl ?_
        refine g_icmp_ge rfl (fun c13 => ?_) (fun c13 => ?_)
        · skip
          refine g_iconst rfl ?_
          exact j32 _ (by rw [if_neg (by omega)]) (by omega)
        · skip
          refine g_aload_n rfl rfl ?_
          refine g_getR rfl ms.1 (mr_limb ms) ?_
          refine g_iload_n rfl rfl ?_
          refine g_iload_n rfl rfl ?_
          refine g_iadd rfl (by omega) (by omega) ?_
          refine g_iconst rfl ?_
          refine g_iadd rfl (by omega) (by omega) ?_
          refine g_iald (i := (r + (i + 1))) rfl (mt_limb ms) (by omega) (by omega) ?_
          refine g_top (v2 := aI (V1 (o + 1) (r + (i + 1)))) (congrArg aI (by rfl)) ?_
          refine g_top (v2 := aI (V (o + 1) (r + (i + 1)))) (congrArg aI (by exact hlo (i + 1) (by omega))) ?_
          refine g_iconst rfl ?_
          refine g_iand rfl ?_
          refine g_top (v2 := aI (V (o + 1) (r + (i + 1)) % 2)) (congrArg aI (by exact iand_one _)) ?_
          refine g_goto rfl ?_
          exact j32 _ (by rw [if_pos (by omega)]) (by omega)
  refine g_iconst rfl ?_
  refine g_istore_n (l1 := [(2, aI 0), (0, aO (some o)), (1, aI ((r : Int)))]) rfl rfl ?_
  exact l2 _ 0 V (by omega) (by exact MF.refl _ _ _) (by intro j _; rfl) (by intro j hj; omega) (Nat.lt_succ_self _)
theorem mtwice {x k : Int} (hx : 0 ≤ x ∧ x < 16777216) (hk : k = 0 ∨ k = 1) : ior (ishl x 1) k = x * 2 + k := by
  rw [twice_limb hk]
  unfold w32
  omega
theorem shift_step {V V1 : Nat → Nat → Int} {o r i : Nat} {k more : Int} (hu : mv (mr V1 o r) i + k * 16777216 ^ i = 2 * mv (mr V o r) i + more) : mv (mr (vset V1 (o + 1) (r + i) ((V (o + 1) (r + i) * 2 + k) % 16777216)) o r) (i + 1) + (V (o + 1) (r + i) * 2 + k) / 16777216 * 16777216 ^ (i + 1) = 2 * mv (mr V o r) (i + 1) + more := by
  rw [mv_set1, mv_succ, mp_succ]
  have hd := mdig (V (o + 1) (r + i) * 2 + k) (16777216 ^ i)
  have hd2 : (V (o + 1) (r + i) * 2 + k) * 16777216 ^ i = 2 * (mr V o r i * 16777216 ^ i) + k * 16777216 ^ i := by rw [Int.add_mul, Int.mul_comm (V (o + 1) (r + i)) 2, Int.mul_assoc]
  omega
theorem m_shift {w : aW} {d : Nat} (hd : 2 ≤ d) {h : aH} {o : Nat} (ms : MS h o) (V : Nat → Nat → Int) (r : Nat) (hr : r + 18 ≤ 12600) (more : Int) (hmore : more = 0 ∨ more = 1) (ml : ML (mr V o r)) (hs : 2 * mv (mr V o r) 16 + more < 16777216 ^ 16) : WP w d 261 [aO (some o), aI ((r : Int)), aI more] (hw h V) (RN (fun h1 => ∃ V1, h1 = hw h V1 ∧ MF V V1 o r ∧ RC V1 o r (2 * mv (mr V o r) 16 + more) 1)) := by
  obtain ⟨d, rfl⟩ : ∃ d1, d = d1 + 1 := ⟨d - 1, by omega⟩
  refine WP.enter (cd := cd_X12_shift) rfl ?_
  have hls : largs 0 [aO (some o), aI ((r : Int)), aI more] = [(0, aO (some o)), (1, aI ((r : Int))), (2, aI more)] := rfl
  rw [hls]
  clear hls
  have l5 : ∀ (fuel : Nat) (i : Nat) (k : Int) (V1 : Nat → Nat → Int), (i ≤ 16) → (k = 0 ∨ k = 1) → (MF V V1 o r) → (∀ j, i ≤ j → V1 (o + 1) (r + j) = V (o + 1) (r + j)) → (∀ j < i, 0 ≤ V1 (o + 1) (r + j) ∧ V1 (o + 1) (r + j) < 16777216) → (mv (mr V1 o r) i + k * 16777216 ^ i = 2 * mv (mr V o r) i + more) → 16 - i < fuel → Wk w d cd_X12_shift 5 [(4, aI ((i : Int))), (3, aI k), (0, aO (some o)), (1, aI ((r : Int))), (2, aI more)] [] (hw h V1) (RN (fun h1 => ∃ V1, h1 = hw h V1 ∧ MF V V1 o r ∧ RC V1 o r (2 * mv (mr V o r) 16 + more) 1)) := by
    intro fuel
    induction fuel with
    | zero => intros; omega
    | succ fuel ih5 =>
      intro i k V1 hi hk mf hlo hl hu hfuel
      have hm0 := fun q => ml i q
      change i < 16 → 0 ≤ V (o + 1) (r + i) ∧ V (o + 1) (r + i) < 16777216 at hm0
      refine g_iload rfl rfl ?_
      refine g_bipush rfl ?_
      refine g_icmp_ge rfl (fun c9 => ?_) (fun c9 => ?_)
      · skip
        have e16 : i = 16 := by omega
        rw [e16] at hu hl
        have hlb := (mv_b (f := mr V1 o r) hl)
        have k0 : k = 0 := by
          rcases hk with q | q
          · exact q
          · rw [q] at hu
            omega
        rw [k0, Int.zero_mul, Int.add_zero] at hu
        refine g_aload_n rfl rfl ?_
        refine g_iload_n rfl rfl ?_
        refine g_iconst rfl ?_
        refine g_callVN [aI ((r : Int)), aI 1] [] rfl rfl rfl rfl (Nat.le_of_ble_eq_true rfl) ms.1 (m_trim (by omega) ms V1 r hr 1 _ (fun j hj => hl j hj) hu) ?_
        rintro _ ⟨W1, rfl, mf1, rc1⟩
        refine g_vret rfl ?_
        exact ⟨W1, rfl, mf.trans mf1, rc1⟩
      · skip
        refine g_aload_n rfl rfl ?_
        refine g_getR rfl ms.1 (mr_limb ms) ?_
        refine g_iload_n rfl rfl ?_
        refine g_iload rfl rfl ?_
        refine g_iadd rfl (by omega) (by omega) ?_
        refine g_iald (i := r + i) rfl (mt_limb ms) (by omega) (by omega) ?_
        refine g_top (v2 := aI (V1 (o + 1) (r + i))) (congrArg aI (by rfl)) ?_
        have hm1 := hm0 (by omega)
        refine g_top (v2 := aI (V (o + 1) (r + i))) (congrArg aI (by exact hlo i (Nat.le_refl _))) ?_
        refine g_iconst rfl ?_
        refine g_ishl rfl ?_
        refine g_iload_n rfl rfl ?_
        refine g_ior rfl ?_
        refine g_top (v2 := aI (V (o + 1) (r + i) * 2 + k)) (congrArg aI (by exact mtwice hm1 hk)) ?_
        refine g_istore (l1 := [(5, aI (V (o + 1) (r + i) * 2 + k)), (4, aI ((i : Int))), (3, aI k), (0, aO (some o)), (1, aI ((r : Int))), (2, aI more)]) rfl rfl ?_
        refine g_aload_n rfl rfl ?_
        refine g_getR rfl ms.1 (mr_limb ms) ?_
        refine g_iload_n rfl rfl ?_
        refine g_iload rfl rfl ?_
        refine g_iadd rfl (by omega) (by omega) ?_
        refine g_iload rfl rfl ?_
        refine g_ldcI rfl rfl ?_
        refine g_iand rfl ?_
        refine g_top (v2 := aI ((V (o + 1) (r + i) * 2 + k) % 16777216)) (congrArg aI (by exact iand_24 _)) ?_
        refine g_iast (i := r + i) rfl (mt_limb ms) (by omega) (by omega) ?_
        refine g_hp (h2 := hw h (vset V1 (o + 1) (r + i) ((V (o + 1) (r + i) * 2 + k) % 16777216))) rfl ?_
        refine g_iload rfl rfl ?_
        refine g_bipush rfl ?_
        refine g_ishr rfl ?_
        refine g_top (v2 := aI ((V (o + 1) (r + i) * 2 + k) / 16777216)) (congrArg aI (by exact ishr_24 _)) ?_
        refine g_istore_n (l1 := [(3, aI ((V (o + 1) (r + i) * 2 + k) / 16777216)), (5, aI (V (o + 1) (r + i) * 2 + k)), (4, aI ((i : Int))), (0, aO (some o)), (1, aI ((r : Int))), (2, aI more)]) rfl rfl ?_
        refine g_iinc (l1 := [(4, aI ((i : Int) + 1)), (3, aI ((V (o + 1) (r + i) * 2 + k) / 16777216)), (5, aI (V (o + 1) (r + i) * 2 + k)), (0, aO (some o)), (1, aI ((r : Int))), (2, aI more)]) rfl rfl (by omega) (by omega) rfl ?_
        refine g_goto rfl ?_
        refine g_ls [0, 1, 3, 4, 5] rfl rfl ?_
        exact ih5 (i + 1) ((V (o + 1) (r + i) * 2 + k) / 16777216) _ (by omega) (by omega) (by exact mf.trans (MF.set _ (by omega))) (by intro j hj; rw [vset_ne _ _ _ _ (by omega)]; exact hlo j (by omega)) (by intro j hj; by_cases e : j = i; (rw [e, vset_eq]; omega); (rw [vset_ne _ _ _ _ (by omega)]; exact hl j (by omega))) (by exact shift_step hu) (by omega)
  refine g_iload_n rfl rfl ?_
  refine g_istore_n (l1 := [(3, aI more), (0, aO (some o)), (1, aI ((r : Int))), (2, aI more)]) rfl rfl ?_
  refine g_iconst rfl ?_
  refine g_istore (l1 := [(4, aI 0), (3, aI more), (0, aO (some o)), (1, aI ((r : Int))), (2, aI more)]) rfl rfl ?_
  exact l5 _ 0 more V (by omega) (by exact hmore) (by exact MF.refl _ _ _) (by intro j _; rfl) (by intro j hj; omega) (by show 0 + more * 1 = 2 * 0 + more; omega) (Nat.lt_succ_self _)
