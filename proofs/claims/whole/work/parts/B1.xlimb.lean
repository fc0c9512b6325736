/-! the class's whole numbers: sums and products of limbs: printed by wip/whole/b1.py -/
/-- a whole number's object and its row -/
def WO (h : aH) (p : Nat) : Prop := (hT h p).1 = 20 ∧ hR h p 0 = some (p + 1) ∧ hT h (p + 1) = (1, 12)
/-- row q of the memory is written anew: it holds z -/
def UP (V : Nat → Nat → Int) (q : Nat) (V1 : Nat → Nat → Int) (z : Int) : Prop := (∀ p, p ≠ q → V1 p = V p) ∧ (∀ j < 12, r32 (V1 q j)) ∧ uv (V1 q) 12 = z % b12
theorem lushr_32 {s : Int} (h1 : 0 ≤ s) (h2 : s < 18446744073709551616) : lushr s 32 = s / 4294967296 := by
  unfold lushr
  have e : ((32 : Int) % 64).toNat = 32 := rfl
  rw [e, Int.emod_eq_of_lt h1 h2]
  show w64 (s / 4294967296) = _
  unfold w64
  omega
theorem lushr_32w {s : Int} (h1 : 0 ≤ s) (h2 : s < 18446744073709551616) : lushr (w64 s) 32 = s / 4294967296 := by
  unfold lushr
  have e : ((32 : Int) % 64).toNat = 32 := rfl
  have e2 : w64 s % 18446744073709551616 = s := by unfold w64; omega
  rw [e, e2]
  show w64 (s / 4294967296) = _
  unfold w64
  omega
theorem lshr_32 (s : Int) : lshr s 32 = s / 4294967296 := lshr_nat s (y := 32) (by omega)
theorem uv_vset1 (V : Nat → Nat → Int) (q i : Nat) (v : Int) : uv (vset V q i v q) (i + 1) = uv (V q) i + v % 4294967296 * 4294967296 ^ i := by
  rw [uv_succ, vset_eq, uv_congr (f := vset V q i v q) (g := V q) (n := i) (fun j hj => vset_ne _ _ _ _ (by omega))]
theorem UP.lv {V V1 : Nat → Nat → Int} {q : Nat} {z : Int} (u : UP V q V1 z) (h1 : -2147483648 * 4294967296 ^ 11 ≤ z) (h2 : z < 2147483648 * 4294967296 ^ 11) : LV (V1 q) z := LV_of u.2.1 u.2.2 h1 h2
theorem x_raise_step {V V1 : Nat → Nat → Int} {a b i : Nat} {k : Int} (hu : uv (V1 (a + 1)) i + k * 4294967296 ^ i = uv (V (a + 1)) i + uv (V (b + 1)) i) : uv (vset V1 (a + 1) i (w32 (k + (V (a + 1) i % 4294967296 + V (b + 1) i % 4294967296))) (a + 1)) (i + 1) + (k + (V (a + 1) i % 4294967296 + V (b + 1) i % 4294967296)) / 4294967296 * 4294967296 ^ (i + 1) = uv (V (a + 1)) (i + 1) + uv (V (b + 1)) (i + 1) := by
  rw [uv_vset1, uv_succ, uv_succ, bp_succ, w32_mod]
  have hd := dig_step (k + (V (a + 1) i % 4294967296 + V (b + 1) i % 4294967296)) (4294967296 ^ i)
  have hd2 : (k + (V (a + 1) i % 4294967296 + V (b + 1) i % 4294967296)) * 4294967296 ^ i = k * 4294967296 ^ i + (V (a + 1) i % 4294967296 * 4294967296 ^ i + V (b + 1) i % 4294967296 * 4294967296 ^ i) := by rw [Int.add_mul, Int.add_mul]
  omega
theorem x_raise {w : aW} {d : Nat} (hd : 1 ≤ d) {h : aH} {c : Nat} (cs : CS h c) (V : Nat → Nat → Int) (a b : Nat) (wa : WO h a) (wb : WO h b) (hab : a ≠ b) : WP w d 161 [aO (some (c + 1)), aO (some a), aO (some b)] (hw h V) (RN (fun h1 => ∃ V1, h1 = hw h V1 ∧ UP V (a + 1) V1 (uv (V (a + 1)) 12 + uv (V (b + 1)) 12))) := by
  obtain ⟨d, rfl⟩ : ∃ d1, d = d1 + 1 := ⟨d - 1, by omega⟩
  refine WP.enter (cd := cd_X7_raise) rfl ?_
  have hls : largs 0 [aO (some (c + 1)), aO (some a), aO (some b)] = [(0, aO (some (c + 1))), (1, aO (some a)), (2, aO (some b))] := rfl
  rw [hls]
  clear hls
  have l5 : ∀ (fuel : Nat) (i : Nat) (k : Int) (V1 : Nat → Nat → Int), (i ≤ 12) → (0 ≤ k ∧ k ≤ 1) → (∀ q, q ≠ a + 1 → V1 q = V q) → (∀ j, i ≤ j → V1 (a + 1) j = V (a + 1) j) → (∀ j < i, r32 (V1 (a + 1) j)) → (uv (V1 (a + 1)) i + k * 4294967296 ^ i = uv (V (a + 1)) i + uv (V (b + 1)) i) → 12 - i < fuel → Wk w d cd_X7_raise 5 [(5, aI ((i : Int))), (3, aJ k), (0, aO (some (c + 1))), (1, aO (some a)), (2, aO (some b))] [] (hw h V1) (RN (fun h1 => ∃ V1, h1 = hw h V1 ∧ UP V (a + 1) V1 (uv (V (a + 1)) 12 + uv (V (b + 1)) 12))) := by
    intro fuel
    induction fuel with
    | zero => intros; omega
    | succ fuel ih5 =>
      intro i k V1 hi hk hf hlo hr hu hfuel
      refine g_iload rfl rfl ?_
      refine g_bipush rfl ?_
      refine g_icmp_ge rfl (fun c9 => ?_) (fun c9 => ?_)
      · skip
        refine g_vret rfl ?_
        refine ⟨V1, rfl, hf, fun j hj => hr j (by omega), ?_⟩
        have e12 : i = 12 := by omega
        rw [e12] at hu
        exact mod_b12 hu
      · skip
        refine g_lload_n rfl rfl ?_
        refine g_aload_n rfl rfl ?_
        refine g_getR rfl wa.1 wa.2.1 ?_
        refine g_iload rfl rfl ?_
        refine g_iald (i := i) rfl wa.2.2 (by omega) (by omega) ?_
        refine g_top (v2 := aI (V1 (a + 1) i)) (congrArg aI (by rfl)) ?_
        refine g_i2l rfl ?_
        refine g_ldc2 rfl ?_
        refine g_land rfl ?_
        refine g_top (v2 := aJ (V (a + 1) i % 4294967296)) (congrArg aJ (by rw [hlo i (Nat.le_refl _)]; exact land_low _)) ?_
        refine g_aload_n rfl rfl ?_
        refine g_getR rfl wb.1 wb.2.1 ?_
        refine g_iload rfl rfl ?_
        refine g_iald (i := i) rfl wb.2.2 (by omega) (by omega) ?_
        refine g_top (v2 := aI (V1 (b + 1) i)) (congrArg aI (by rfl)) ?_
        refine g_i2l rfl ?_
        refine g_ldc2 rfl ?_
        refine g_land rfl ?_
        refine g_top (v2 := aJ (V (b + 1) i % 4294967296)) (congrArg aJ (by rw [hf (b + 1) (by omega)]; exact land_low _)) ?_
        refine g_ladd rfl (by omega) (by omega) ?_
        refine g_ladd rfl (by omega) (by omega) ?_
        refine g_lstore_n (l1 := [(3, aJ (k + ((V (a + 1) i % 4294967296) + (V (b + 1) i % 4294967296)))), (5, aI ((i : Int))), (0, aO (some (c + 1))), (1, aO (some a)), (2, aO (some b))]) rfl rfl ?_
        refine g_aload_n rfl rfl ?_
        refine g_getR rfl wa.1 wa.2.1 ?_
        refine g_iload rfl rfl ?_
        refine g_lload_n rfl rfl ?_
        refine g_l2i rfl ?_
        refine g_iast (i := i) rfl wa.2.2 (by omega) (by omega) ?_
        refine g_hp (h2 := hw h (vset V1 (a + 1) i (w32 (k + ((V (a + 1) i % 4294967296) + (V (b + 1) i % 4294967296)))))) rfl ?_
        refine g_lload_n rfl rfl ?_
        refine g_bipush rfl ?_
        refine g_lushr rfl ?_
        refine g_top (v2 := aJ ((k + (V (a + 1) i % 4294967296 + V (b + 1) i % 4294967296)) / 4294967296)) (congrArg aJ (by exact lushr_32 (by omega) (by omega))) ?_
        refine g_lstore_n (l1 := [(3, aJ ((k + (V (a + 1) i % 4294967296 + V (b + 1) i % 4294967296)) / 4294967296)), (5, aI ((i : Int))), (0, aO (some (c + 1))), (1, aO (some a)), (2, aO (some b))]) rfl rfl ?_
        refine g_iinc (l1 := [(5, aI ((i : Int) + 1)), (3, aJ ((k + (V (a + 1) i % 4294967296 + V (b + 1) i % 4294967296)) / 4294967296)), (0, aO (some (c + 1))), (1, aO (some a)), (2, aO (some b))]) rfl rfl (by omega) (by omega) rfl ?_
        refine g_goto rfl ?_
        exact ih5 (i + 1) ((k + (V (a + 1) i % 4294967296 + V (b + 1) i % 4294967296)) / 4294967296) _ (by omega) (by omega) (by intro q hq; funext j; rw [vset_ne _ _ _ _ (by omega), hf q hq]) (by intro j hj; rw [vset_ne _ _ _ _ (by omega), hlo j (by omega)]) (by intro j hj; by_cases e : j = i; (rw [e, vset_eq]; exact w32_r _); (rw [vset_ne _ _ _ _ (by omega)]; exact hr j (by omega))) (by exact x_raise_step hu) (by omega)
  refine g_lconst0 rfl ?_
  refine g_lstore_n (l1 := [(3, aJ 0), (0, aO (some (c + 1))), (1, aO (some a)), (2, aO (some b))]) rfl rfl ?_
  refine g_iconst rfl ?_
  refine g_istore (l1 := [(5, aI 0), (3, aJ 0), (0, aO (some (c + 1))), (1, aO (some a)), (2, aO (some b))]) rfl rfl ?_
  exact l5 _ 0 0 V (by omega) (by omega) (by intro q _; rfl) (by intro j _; rfl) (by intro j hj; omega) (by show (0 : Int) + 0 * _ = 0 + 0; omega) (Nat.lt_succ_self _)
theorem x_lessen_step {V V1 : Nat → Nat → Int} {a b i : Nat} {k : Int} (hu : uv (V1 (a + 1)) i + k * 4294967296 ^ i = uv (V (a + 1)) i - uv (V (b + 1)) i) : uv (vset V1 (a + 1) i (w32 (k + (V (a + 1) i % 4294967296 - V (b + 1) i % 4294967296))) (a + 1)) (i + 1) + (k + (V (a + 1) i % 4294967296 - V (b + 1) i % 4294967296)) / 4294967296 * 4294967296 ^ (i + 1) = uv (V (a + 1)) (i + 1) - uv (V (b + 1)) (i + 1) := by
  rw [uv_vset1, uv_succ, uv_succ, bp_succ, w32_mod]
  have hd := dig_step (k + (V (a + 1) i % 4294967296 - V (b + 1) i % 4294967296)) (4294967296 ^ i)
  have hd2 : (k + (V (a + 1) i % 4294967296 - V (b + 1) i % 4294967296)) * 4294967296 ^ i = k * 4294967296 ^ i + (V (a + 1) i % 4294967296 * 4294967296 ^ i - V (b + 1) i % 4294967296 * 4294967296 ^ i) := by rw [Int.add_mul, Int.sub_mul]
  omega
theorem x_lessen {w : aW} {d : Nat} (hd : 1 ≤ d) {h : aH} {c : Nat} (cs : CS h c) (V : Nat → Nat → Int) (a b : Nat) (wa : WO h a) (wb : WO h b) (hab : a ≠ b) : WP w d 162 [aO (some (c + 1)), aO (some a), aO (some b)] (hw h V) (RN (fun h1 => ∃ V1, h1 = hw h V1 ∧ UP V (a + 1) V1 (uv (V (a + 1)) 12 - uv (V (b + 1)) 12))) := by
  obtain ⟨d, rfl⟩ : ∃ d1, d = d1 + 1 := ⟨d - 1, by omega⟩
  refine WP.enter (cd := cd_X7_lessen) rfl ?_
  have hls : largs 0 [aO (some (c + 1)), aO (some a), aO (some b)] = [(0, aO (some (c + 1))), (1, aO (some a)), (2, aO (some b))] := rfl
  rw [hls]
  clear hls
  have l5 : ∀ (fuel : Nat) (i : Nat) (k : Int) (V1 : Nat → Nat → Int), (i ≤ 12) → (-1 ≤ k ∧ k ≤ 0) → (∀ q, q ≠ a + 1 → V1 q = V q) → (∀ j, i ≤ j → V1 (a + 1) j = V (a + 1) j) → (∀ j < i, r32 (V1 (a + 1) j)) → (uv (V1 (a + 1)) i + k * 4294967296 ^ i = uv (V (a + 1)) i - uv (V (b + 1)) i) → 12 - i < fuel → Wk w d cd_X7_lessen 5 [(5, aI ((i : Int))), (3, aJ k), (0, aO (some (c + 1))), (1, aO (some a)), (2, aO (some b))] [] (hw h V1) (RN (fun h1 => ∃ V1, h1 = hw h V1 ∧ UP V (a + 1) V1 (uv (V (a + 1)) 12 - uv (V (b + 1)) 12))) := by
    intro fuel
    induction fuel with
    | zero => intros; omega
    | succ fuel ih5 =>
      intro i k V1 hi hk hf hlo hr hu hfuel
      refine g_iload rfl rfl ?_
      refine g_bipush rfl ?_
      refine g_icmp_ge rfl (fun c9 => ?_) (fun c9 => ?_)
      · skip
        refine g_vret rfl ?_
        refine ⟨V1, rfl, hf, fun j hj => hr j (by omega), ?_⟩
        have e12 : i = 12 := by omega
        rw [e12] at hu
        exact mod_b12 hu
      · skip
        refine g_lload_n rfl rfl ?_
        refine g_aload_n rfl rfl ?_
        refine g_getR rfl wa.1 wa.2.1 ?_
        refine g_iload rfl rfl ?_
        refine g_iald (i := i) rfl wa.2.2 (by omega) (by omega) ?_
        refine g_top (v2 := aI (V1 (a + 1) i)) (congrArg aI (by rfl)) ?_
        refine g_i2l rfl ?_
        refine g_ldc2 rfl ?_
        refine g_land rfl ?_
        refine g_top (v2 := aJ (V (a + 1) i % 4294967296)) (congrArg aJ (by rw [hlo i (Nat.le_refl _)]; exact land_low _)) ?_
        refine g_aload_n rfl rfl ?_
        refine g_getR rfl wb.1 wb.2.1 ?_
        refine g_iload rfl rfl ?_
        refine g_iald (i := i) rfl wb.2.2 (by omega) (by omega) ?_
        refine g_top (v2 := aI (V1 (b + 1) i)) (congrArg aI (by rfl)) ?_
        refine g_i2l rfl ?_
        refine g_ldc2 rfl ?_
        refine g_land rfl ?_
        refine g_top (v2 := aJ (V (b + 1) i % 4294967296)) (congrArg aJ (by rw [hf (b + 1) (by omega)]; exact land_low _)) ?_
        refine g_lsub rfl (by omega) (by omega) ?_
        refine g_ladd rfl (by omega) (by omega) ?_
        refine g_lstore_n (l1 := [(3, aJ (k + ((V (a + 1) i % 4294967296) - (V (b + 1) i % 4294967296)))), (5, aI ((i : Int))), (0, aO (some (c + 1))), (1, aO (some a)), (2, aO (some b))]) rfl rfl ?_
        refine g_aload_n rfl rfl ?_
        refine g_getR rfl wa.1 wa.2.1 ?_
        refine g_iload rfl rfl ?_
        refine g_lload_n rfl rfl ?_
        refine g_l2i rfl ?_
        refine g_iast (i := i) rfl wa.2.2 (by omega) (by omega) ?_
        refine g_hp (h2 := hw h (vset V1 (a + 1) i (w32 (k + ((V (a + 1) i % 4294967296) - (V (b + 1) i % 4294967296)))))) rfl ?_
        refine g_lload_n rfl rfl ?_
        refine g_bipush rfl ?_
        refine g_lshr rfl ?_
        refine g_top (v2 := aJ ((k + (V (a + 1) i % 4294967296 - V (b + 1) i % 4294967296)) / 4294967296)) (congrArg aJ (by exact lshr_32 _)) ?_
        refine g_lstore_n (l1 := [(3, aJ ((k + (V (a + 1) i % 4294967296 - V (b + 1) i % 4294967296)) / 4294967296)), (5, aI ((i : Int))), (0, aO (some (c + 1))), (1, aO (some a)), (2, aO (some b))]) rfl rfl ?_
        refine g_iinc (l1 := [(5, aI ((i : Int) + 1)), (3, aJ ((k + (V (a + 1) i % 4294967296 - V (b + 1) i % 4294967296)) / 4294967296)), (0, aO (some (c + 1))), (1, aO (some a)), (2, aO (some b))]) rfl rfl (by omega) (by omega) rfl ?_
        refine g_goto rfl ?_
        exact ih5 (i + 1) ((k + (V (a + 1) i % 4294967296 - V (b + 1) i % 4294967296)) / 4294967296) _ (by omega) (by omega) (by intro q hq; funext j; rw [vset_ne _ _ _ _ (by omega), hf q hq]) (by intro j hj; rw [vset_ne _ _ _ _ (by omega), hlo j (by omega)]) (by intro j hj; by_cases e : j = i; (rw [e, vset_eq]; exact w32_r _); (rw [vset_ne _ _ _ _ (by omega)]; exact hr j (by omega))) (by exact x_lessen_step hu) (by omega)
  refine g_lconst0 rfl ?_
  refine g_lstore_n (l1 := [(3, aJ 0), (0, aO (some (c + 1))), (1, aO (some a)), (2, aO (some b))]) rfl rfl ?_
  refine g_iconst rfl ?_
  refine g_istore (l1 := [(5, aI 0), (3, aJ 0), (0, aO (some (c + 1))), (1, aO (some a)), (2, aO (some b))]) rfl rfl ?_
  exact l5 _ 0 0 V (by omega) (by omega) (by intro q _; rfl) (by intro j _; rfl) (by intro j hj; omega) (by show (0 : Int) + 0 * _ = 0 - 0; omega) (Nat.lt_succ_self _)
theorem addp_w {f : Nat → Int} {i j : Nat} (h : i + j = 12) : uv f 12 = uv f j + uv (fun m => f (j + m)) i * 4294967296 ^ j := by
  rw [show (12 : Nat) = j + i by omega]
  exact uv_split f j i
theorem addp_zero {f g a : Nat → Int} {U0 W w P k : Int} {i : Nat} (hF : a i % 4294967296 = 0) (hk : k = 0) (hu : uv f 12 = (U0 + uv a i * W) % b12) (hu2 : uv g 12 + k * P = uv f 12 + a i % 4294967296 * w * 4294967296 ^ i) : uv g 12 = (U0 + uv a (i + 1) * W) % b12 := by
  rw [hF, hk] at hu2
  rw [show uv a (i + 1) = uv a i + a i % 4294967296 * 4294967296 ^ i from rfl, hF, Int.zero_mul, Int.add_zero, ← hu]
  rw [Int.zero_mul, Int.zero_mul, Int.zero_mul] at hu2
  omega
theorem x_addProduct {w : aW} {d : Nat} (hd : 1 ≤ d) {h : aH} {c : Nat} (cs : CS h c) (V : Nat → Nat → Int) (p a b : Nat) (wp : WO h p) (wa : WO h a) (wb : WO h b) (hpa : p ≠ a) (hpb : p ≠ b) (hr0 : ∀ m < 12, r32 (V (p + 1) m)) : WP w d 163 [aO (some (c + 1)), aO (some p), aO (some a), aO (some b)] (hw h V) (RN (fun h1 => ∃ V1, h1 = hw h V1 ∧ UP V (p + 1) V1 (uv (V (p + 1)) 12 + uv (V (a + 1)) 12 * uv (V (b + 1)) 12))) := by
  obtain ⟨d, rfl⟩ : ∃ d1, d = d1 + 1 := ⟨d - 1, by omega⟩
  refine WP.enter (cd := cd_X7_addProduct) rfl ?_
  have hls : largs 0 [aO (some (c + 1)), aO (some p), aO (some a), aO (some b)] = [(0, aO (some (c + 1))), (1, aO (some p)), (2, aO (some a)), (3, aO (some b))] := rfl
  rw [hls]
  clear hls
  have l3 : ∀ (fuel : Nat) (i : Nat) (V1 : Nat → Nat → Int), (i ≤ 12) → (∀ q, q ≠ p + 1 → V1 q = V q) → (∀ m < 12, r32 (V1 (p + 1) m)) → (uv (V1 (p + 1)) 12 = (uv (V (p + 1)) 12 + uv (V (a + 1)) i * uv (V (b + 1)) 12) % b12) → 12 - i < fuel → Wk w d cd_X7_addProduct 3 [(4, aI ((i : Int))), (0, aO (some (c + 1))), (1, aO (some p)), (2, aO (some a)), (3, aO (some b))] [] (hw h V1) (RN (fun h1 => ∃ V1, h1 = hw h V1 ∧ UP V (p + 1) V1 (uv (V (p + 1)) 12 + uv (V (a + 1)) 12 * uv (V (b + 1)) 12))) := by
    intro fuel
    induction fuel with
    | zero => intros; omega
    | succ fuel ih3 =>
      intro i V1 hi hf hr hu hfuel
      have l30 : (i < 12) → ∀ (fuel : Nat) (j : Nat) (k : Int) (V2 : Nat → Nat → Int), (i + j ≤ 12) → (0 ≤ k ∧ k < 4294967296) → (V (a + 1) i % 4294967296 = 0 → k = 0) → (∀ q, q ≠ p + 1 → V2 q = V q) → (∀ m < 12, r32 (V2 (p + 1) m)) → (uv (V2 (p + 1)) 12 + k * 4294967296 ^ (i + j) = uv (V1 (p + 1)) 12 + (V (a + 1) i % 4294967296) * uv (V (b + 1)) j * 4294967296 ^ i) → 12 - j < fuel → Wk w d cd_X7_addProduct 30 [(9, aI ((j : Int))), (7, aJ k), (5, aJ (V (a + 1) i % 4294967296)), (4, aI ((i : Int))), (0, aO (some (c + 1))), (1, aO (some p)), (2, aO (some a)), (3, aO (some b))] [] (hw h V2) (RN (fun h1 => ∃ V1, h1 = hw h V1 ∧ UP V (p + 1) V1 (uv (V (p + 1)) 12 + uv (V (a + 1)) 12 * uv (V (b + 1)) 12))) := by
        intro hi12 fuel
        induction fuel with
        | zero => intros; omega
        | succ fuel ih30 =>
          intro j k V2 hj hk h0 hf2 hr2 hu2 hfuel
          refine g_lload rfl rfl ?_
          refine g_lconst0 rfl ?_
          refine g_lc_eq rfl rfl (fun c33 => ?_) (fun c33 => ?_)
          · skip
            refine g_iinc (l1 := [(4, aI ((i : Int) + 1)), (9, aI ((j : Int))), (7, aJ k), (5, aJ (V (a + 1) i % 4294967296)), (0, aO (some (c + 1))), (1, aO (some p)), (2, aO (some a)), (3, aO (some b))]) rfl rfl (by omega) (by omega) rfl ?_
            refine g_goto rfl ?_
            refine g_ls [0, 4, 5, 6, 7] rfl rfl ?_
            exact ih3 (i + 1) _ (by omega) (by exact hf2) (by exact hr2) (by first | exact addp_zero c33 (h0 c33) hu hu2 | exact addp_end (X := uv (fun m => V (b + 1) (j + m)) i) (by omega) hu hu2 (uv_b _ _) (addp_w (by omega))) (by omega)
          · skip
            refine g_iload rfl rfl ?_
            refine g_iload rfl rfl ?_
            refine g_iadd rfl (by omega) (by omega) ?_
            refine g_bipush rfl ?_
            refine g_icmp_ge rfl (fun c44 => ?_) (fun c44 => ?_)
            · skip
              refine g_iinc (l1 := [(4, aI ((i : Int) + 1)), (9, aI ((j : Int))), (7, aJ k), (5, aJ (V (a + 1) i % 4294967296)), (0, aO (some (c + 1))), (1, aO (some p)), (2, aO (some a)), (3, aO (some b))]) rfl rfl (by omega) (by omega) rfl ?_
              refine g_goto rfl ?_
              refine g_ls [0, 4, 5, 6, 7] rfl rfl ?_
              exact ih3 (i + 1) _ (by omega) (by exact hf2) (by exact hr2) (by first | exact addp_zero c33 (h0 c33) hu hu2 | exact addp_end (X := uv (fun m => V (b + 1) (j + m)) i) (by omega) hu hu2 (uv_b _ _) (addp_w (by omega))) (by omega)
            · skip
              refine g_lload rfl rfl ?_
              refine g_aload_n rfl rfl ?_
              refine g_getR rfl wp.1 wp.2.1 ?_
              refine g_iload rfl rfl ?_
              refine g_iload rfl rfl ?_
              refine g_iadd rfl (by omega) (by omega) ?_
              refine g_iald (i := i + j) rfl wp.2.2 (by omega) (by omega) ?_
              refine g_top (v2 := aI (V2 (p + 1) (i + j))) (congrArg aI (by rfl)) ?_
              refine g_i2l rfl ?_
              refine g_ldc2 rfl ?_
              refine g_land rfl ?_
              refine g_top (v2 := aJ (V2 (p + 1) (i + j) % 4294967296)) (congrArg aJ (by exact land_low _)) ?_
              refine g_lload rfl rfl ?_
              refine g_aload_n rfl rfl ?_
              refine g_getR rfl wb.1 wb.2.1 ?_
              refine g_iload rfl rfl ?_
              refine g_iald (i := j) rfl wb.2.2 (by omega) (by omega) ?_
              refine g_top (v2 := aI (V2 (b + 1) j)) (congrArg aI (by rfl)) ?_
              refine g_i2l rfl ?_
              refine g_ldc2 rfl ?_
              refine g_land rfl ?_
              refine g_top (v2 := aJ (V (b + 1) j % 4294967296)) (congrArg aJ (by rw [hf2 (b + 1) (by omega)]; exact land_low _)) ?_
              refine g_lmulW rfl ?_
              refine g_laddW rfl ?_
              refine g_laddW rfl ?_
              have hm := mulW (x := V (a + 1) i % 4294967296) (y := V (b + 1) j % 4294967296) (by omega) (by omega) (by omega) (by omega)
              refine g_top (v2 := aJ (w64 (k + (V2 (p + 1) (i + j) % 4294967296 + (V (a + 1) i % 4294967296) * (V (b + 1) j % 4294967296))))) (congrArg aJ (by unfold w64; omega)) ?_
              refine g_lstore (l1 := [(7, aJ (w64 (k + (V2 (p + 1) (i + j) % 4294967296 + (V (a + 1) i % 4294967296) * (V (b + 1) j % 4294967296))))), (9, aI ((j : Int))), (5, aJ (V (a + 1) i % 4294967296)), (4, aI ((i : Int))), (0, aO (some (c + 1))), (1, aO (some p)), (2, aO (some a)), (3, aO (some b))]) rfl rfl ?_
              refine g_aload_n rfl rfl ?_
              refine g_getR rfl wp.1 wp.2.1 ?_
              refine g_iload rfl rfl ?_
              refine g_iload rfl rfl ?_
              refine g_iadd rfl (by omega) (by omega) ?_
              refine g_lload rfl rfl ?_
              refine g_l2i rfl ?_
              refine g_iast (i := i + j) rfl wp.2.2 (by omega) (by omega) ?_
              refine g_hp (h2 := hw h (vset V2 (p + 1) (i + j) (w32 (w64 (k + (V2 (p + 1) (i + j) % 4294967296 + (V (a + 1) i % 4294967296) * (V (b + 1) j % 4294967296))))))) rfl ?_
              refine g_lload rfl rfl ?_
              refine g_bipush rfl ?_
              refine g_lushr rfl ?_
              refine g_top (v2 := aJ ((k + (V2 (p + 1) (i + j) % 4294967296 + (V (a + 1) i % 4294967296) * (V (b + 1) j % 4294967296))) / 4294967296)) (congrArg aJ (by exact lushr_32w (by omega) (by omega))) ?_
              refine g_lstore (l1 := [(7, aJ ((k + (V2 (p + 1) (i + j) % 4294967296 + (V (a + 1) i % 4294967296) * (V (b + 1) j % 4294967296))) / 4294967296)), (9, aI ((j : Int))), (5, aJ (V (a + 1) i % 4294967296)), (4, aI ((i : Int))), (0, aO (some (c + 1))), (1, aO (some p)), (2, aO (some a)), (3, aO (some b))]) rfl rfl ?_
              refine g_iinc (l1 := [(9, aI ((j : Int) + 1)), (7, aJ ((k + (V2 (p + 1) (i + j) % 4294967296 + (V (a + 1) i % 4294967296) * (V (b + 1) j % 4294967296))) / 4294967296)), (5, aJ (V (a + 1) i % 4294967296)), (4, aI ((i : Int))), (0, aO (some (c + 1))), (1, aO (some p)), (2, aO (some a)), (3, aO (some b))]) rfl rfl (by omega) (by omega) rfl ?_
              refine g_goto rfl ?_
              exact ih30 (j + 1) ((k + (V2 (p + 1) (i + j) % 4294967296 + (V (a + 1) i % 4294967296) * (V (b + 1) j % 4294967296))) / 4294967296) _ (by omega) (by omega) (by intro u; exact absurd u c33) (by intro q hq; funext m; rw [vset_ne _ _ _ _ (by omega), hf2 q hq]) (by intro m hm; by_cases e : m = i + j; (rw [e, vset_eq]; exact w32_r _); (rw [vset_ne _ _ _ _ (by omega)]; exact hr2 m hm)) (by rw [uv_succ]; exact addp_step (f := V2 (p + 1)) (by omega) (fun m hm => vset_ne _ _ _ _ (by omega)) (by rw [vset_eq, w32_mod, w64_mod]) hu2) (by omega)
      refine g_iload rfl rfl ?_
      refine g_bipush rfl ?_
      refine g_icmp_ge rfl (fun c7 => ?_) (fun c7 => ?_)
      · skip
        refine g_vret rfl ?_
        refine ⟨V1, rfl, hf, hr, ?_⟩
        have e12 : i = 12 := by omega
        rw [e12] at hu
        exact hu
      · skip
        refine g_aload_n rfl rfl ?_
        refine g_getR rfl wa.1 wa.2.1 ?_
        refine g_iload rfl rfl ?_
        refine g_iald (i := i) rfl wa.2.2 (by omega) (by omega) ?_
        refine g_top (v2 := aI (V1 (a + 1) i)) (congrArg aI (by rfl)) ?_
        refine g_i2l rfl ?_
        refine g_ldc2 rfl ?_
        refine g_land rfl ?_
        refine g_top (v2 := aJ (V (a + 1) i % 4294967296)) (congrArg aJ (by rw [hf (a + 1) (by omega)]; exact land_low _)) ?_
        refine g_lstore (l1 := [(5, aJ (V (a + 1) i % 4294967296)), (4, aI ((i : Int))), (0, aO (some (c + 1))), (1, aO (some p)), (2, aO (some a)), (3, aO (some b))]) rfl rfl ?_
        refine g_lconst0 rfl ?_
        refine g_lstore (l1 := [(7, aJ 0), (5, aJ (V (a + 1) i % 4294967296)), (4, aI ((i : Int))), (0, aO (some (c + 1))), (1, aO (some p)), (2, aO (some a)), (3, aO (some b))]) rfl rfl ?_
        refine g_iconst rfl ?_
        refine g_istore (l1 := [(9, aI 0), (7, aJ 0), (5, aJ (V (a + 1) i % 4294967296)), (4, aI ((i : Int))), (0, aO (some (c + 1))), (1, aO (some p)), (2, aO (some a)), (3, aO (some b))]) rfl rfl ?_
        exact l30 (by omega) _ 0 0 V1 (by omega) (by omega) (by intro _; rfl) (by exact hf) (by exact hr) (by show _ + 0 * _ = _ + _ * 0 * _; simp) (Nat.lt_succ_self _)
  refine g_iconst rfl ?_
  refine g_istore (l1 := [(4, aI 0), (0, aO (some (c + 1))), (1, aO (some p)), (2, aO (some a)), (3, aO (some b))]) rfl rfl ?_
  exact l3 _ 0 V (by omega) (by intro q _; rfl) (by exact hr0) (by show _ = (_ + 0 * _) % _; rw [Int.zero_mul, Int.add_zero]; exact (Int.emod_eq_of_lt (uv_b _ _).1 (uv_b _ _).2).symm) (Nat.lt_succ_self _)
theorem x_isZero {w : aW} {d : Nat} (hd : 1 ≤ d) {h : aH} {c : Nat} (cs : CS h c) (V : Nat → Nat → Int) (a : Nat) (wa : WO h a) {z : Int} (lv : LV (V (a + 1)) z) : WP w d 171 [aO (some (c + 1)), aO (some a)] (hw h V) (RI (fun x h1 => h1 = hw h V ∧ x = if z = 0 then 1 else 0)) := by
  obtain ⟨d, rfl⟩ : ∃ d1, d = d1 + 1 := ⟨d - 1, by omega⟩
  refine WP.enter (cd := cd_X7_isZero) rfl ?_
  have hls : largs 0 [aO (some (c + 1)), aO (some a)] = [(0, aO (some (c + 1))), (1, aO (some a))] := rfl
  rw [hls]
  clear hls
  have l2 : ∀ (fuel : Nat) (i : Nat), (i ≤ 12) → (∀ j < i, V (a + 1) j = 0) → 12 - i < fuel → Wk w d cd_X7_isZero 2 [(2, aI ((i : Int))), (0, aO (some (c + 1))), (1, aO (some a))] [] (hw h V) (RI (fun x h1 => h1 = hw h V ∧ x = if z = 0 then 1 else 0)) := by
    intro fuel
    induction fuel with
    | zero => intros; omega
    | succ fuel ih2 =>
      intro i hi hz hfuel
      refine g_iload_n rfl rfl ?_
      refine g_bipush rfl ?_
      refine g_icmp_ge rfl (fun c5 => ?_) (fun c5 => ?_)
      · skip
        refine g_iconst rfl ?_
        refine g_zret rfl (by omega) ?_
        refine ⟨rfl, ?_⟩
        rw [if_pos (lv.zero.mpr fun j hj => hz j (by omega))]
      · skip
        refine g_aload_n rfl rfl ?_
        refine g_getR rfl wa.1 wa.2.1 ?_
        refine g_iload_n rfl rfl ?_
        refine g_iald (i := i) rfl wa.2.2 (by omega) (by omega) ?_
        refine g_top (v2 := aI (V (a + 1) i)) (congrArg aI (by rfl)) ?_
        refine g_if_eq rfl (fun c14 => ?_) (fun c14 => ?_)
        · skip
          refine g_iinc (l1 := [(2, aI ((i : Int) + 1)), (0, aO (some (c + 1))), (1, aO (some a))]) rfl rfl (by omega) (by omega) rfl ?_
          refine g_goto rfl ?_
          exact ih2 (i + 1) (by omega) (by intro j hj; by_cases e : j = i; (rw [e]; exact c14); (exact hz j (by omega))) (by omega)
        · skip
          refine g_iconst rfl ?_
          refine g_zret rfl (by omega) ?_
          refine ⟨rfl, ?_⟩
          rw [if_neg (fun e => c14 (lv.zero.mp e i (by omega)))]
  refine g_iconst rfl ?_
  refine g_istore_n (l1 := [(2, aI 0), (0, aO (some (c + 1))), (1, aO (some a))]) rfl rfl ?_
  exact l2 _ 0 (by omega) (by intro j hj; omega) (Nat.lt_succ_self _)
theorem x_sign {w : aW} {d : Nat} (hd : 2 ≤ d) {h : aH} {c : Nat} (cs : CS h c) (V : Nat → Nat → Int) (a : Nat) (wa : WO h a) {z : Int} (lv : LV (V (a + 1)) z) : WP w d 172 [aO (some (c + 1)), aO (some a)] (hw h V) (RI (fun x h1 => h1 = hw h V ∧ x = lcmp z 0)) := by
  obtain ⟨d, rfl⟩ : ∃ d1, d = d1 + 1 := ⟨d - 1, by omega⟩
  refine WP.enter (cd := cd_X7_sign) rfl ?_
  have hls : largs 0 [aO (some (c + 1)), aO (some a)] = [(0, aO (some (c + 1))), (1, aO (some a))] := rfl
  rw [hls]
  clear hls
  refine g_aload_n rfl rfl ?_
  refine g_getR rfl wa.1 wa.2.1 ?_
  refine g_bipush rfl ?_
  refine g_iald (i := 11) rfl wa.2.2 (by omega) (by omega) ?_
  refine g_top (v2 := aI (V (a + 1) 11)) (congrArg aI (by rfl)) ?_
  refine g_if_ge rfl (fun c7 => ?_) (fun c7 => ?_)
  · skip
    refine g_aload_n rfl rfl ?_
    refine g_aload_n rfl rfl ?_
    refine g_callVI [aO (some a)] [] rfl rfl rfl rfl (Nat.le_of_ble_eq_true rfl) (cs.kd 1 (by omega) rfl) (x_isZero (by omega) cs V a wa lv) ?_
    rintro x1 _ ⟨rfl, rfl⟩
    refine g_b_eq rfl (fun c17 => ?_) (fun c17 => ?_)
    · skip
      refine g_iconst rfl ?_
      refine g_iret rfl ?_
      refine ⟨rfl, ?_⟩
      have hn : ¬ z < 0 := fun e => by have := lv.neg.mp e; omega
      unfold lcmp
      rw [if_neg hn]
      first | rw [if_pos c17] | rw [if_neg c17]
    · skip
      refine g_iconst rfl ?_
      refine g_goto rfl ?_
      refine g_iret rfl ?_
      refine ⟨rfl, ?_⟩
      have hn : ¬ z < 0 := fun e => by have := lv.neg.mp e; omega
      unfold lcmp
      rw [if_neg hn]
      first | rw [if_pos c17] | rw [if_neg c17]
  · skip
    refine g_iconst rfl ?_
    refine g_iret rfl ?_
    refine ⟨rfl, ?_⟩
    unfold lcmp
    rw [if_pos (lv.neg.mpr c7)]
theorem x_order {w : aW} {d : Nat} (hd : 1 ≤ d) {h : aH} {c : Nat} (cs : CS h c) (V : Nat → Nat → Int) (a b : Nat) (wa : WO h a) (wb : WO h b) {x y : Int} (la : LV (V (a + 1)) x) (lb : LV (V (b + 1)) y) : WP w d 174 [aO (some (c + 1)), aO (some a), aO (some b)] (hw h V) (RI (fun r h1 => h1 = hw h V ∧ r = lcmp x y)) := by
  obtain ⟨d, rfl⟩ : ∃ d1, d = d1 + 1 := ⟨d - 1, by omega⟩
  refine WP.enter (cd := cd_X7_order) rfl ?_
  have hls : largs 0 [aO (some (c + 1)), aO (some a), aO (some b)] = [(0, aO (some (c + 1))), (1, aO (some a)), (2, aO (some b))] := rfl
  rw [hls]
  clear hls
  have l44 : (V (a + 1) 11 = V (b + 1) 11) → ∀ (fuel : Nat) (m : Nat), (m ≤ 11) → (∀ j, m ≤ j → j < 11 → V (a + 1) j % 4294967296 = V (b + 1) j % 4294967296) → m < fuel → Wk w d cd_X7_order 44 [(4, aI ((m : Int) - 1)), (0, aO (some (c + 1))), (1, aO (some a)), (2, aO (some b))] [] (hw h V) (RI (fun r h1 => h1 = hw h V ∧ r = lcmp x y)) := by
    intro h11 fuel
    induction fuel with
    | zero => intros; omega
    | succ fuel ih44 =>
      intro m hm he hfuel
      refine g_iload rfl rfl ?_
      refine g_if_lt rfl (fun c46 => ?_) (fun c46 => ?_)
      · skip
        refine g_iconst rfl ?_
        refine g_iret rfl ?_
        refine ⟨rfl, ?_⟩
        rw [← la.2, ← lb.2, sv_eq (fun j hj => he j (by omega) hj) h11]
        unfold lcmp
        rw [if_neg (by omega), if_pos rfl]
      · skip
        refine g_aload_n rfl rfl ?_
        refine g_getR rfl wa.1 wa.2.1 ?_
        refine g_iload rfl rfl ?_
        refine g_iald (i := (m - 1)) rfl wa.2.2 (by omega) (by omega) ?_
        refine g_top (v2 := aI (V (a + 1) (m - 1))) (congrArg aI (by rfl)) ?_
        refine g_i2l rfl ?_
        refine g_ldc2 rfl ?_
        refine g_land rfl ?_
        refine g_top (v2 := aJ (V (a + 1) (m - 1) % 4294967296)) (congrArg aJ (by exact land_low _)) ?_
        refine g_lstore (l1 := [(5, aJ (V (a + 1) (m - 1) % 4294967296)), (4, aI ((m : Int) - 1)), (0, aO (some (c + 1))), (1, aO (some a)), (2, aO (some b))]) rfl rfl ?_
        refine g_aload_n rfl rfl ?_
        refine g_getR rfl wb.1 wb.2.1 ?_
        refine g_iload rfl rfl ?_
        refine g_iald (i := (m - 1)) rfl wb.2.2 (by omega) (by omega) ?_
        refine g_top (v2 := aI (V (b + 1) (m - 1))) (congrArg aI (by rfl)) ?_
        refine g_i2l rfl ?_
        refine g_ldc2 rfl ?_
        refine g_land rfl ?_
        refine g_top (v2 := aJ (V (b + 1) (m - 1) % 4294967296)) (congrArg aJ (by exact land_low _)) ?_
        refine g_lstore (l1 := [(7, aJ (V (b + 1) (m - 1) % 4294967296)), (5, aJ (V (a + 1) (m - 1) % 4294967296)), (4, aI ((m : Int) - 1)), (0, aO (some (c + 1))), (1, aO (some a)), (2, aO (some b))]) rfl rfl ?_
        refine g_lload rfl rfl ?_
        refine g_lload rfl rfl ?_
        refine g_lc_eq rfl rfl (fun c81 => ?_) (fun c81 => ?_)
        · skip
          refine g_iinc (l1 := [(4, aI ((m : Int) - 1 + (-1))), (7, aJ (V (b + 1) (m - 1) % 4294967296)), (5, aJ (V (a + 1) (m - 1) % 4294967296)), (0, aO (some (c + 1))), (1, aO (some a)), (2, aO (some b))]) rfl rfl (by omega) (by omega) rfl ?_
          rw [show ((m : Int) - 1 + (-1) : Int) = ((m - 1 : Nat) : Int) - 1 by omega]
          refine g_goto rfl ?_
          refine g_ls [0, 3, 4, 5] rfl rfl ?_
          exact ih44 (m - 1) (by omega) (by intro j h1 h2; by_cases e : j = m - 1; (rw [e]; exact c81); (exact he j (by omega) h2)) (by omega)
        · skip
          refine g_lload rfl rfl ?_
          refine g_lload rfl rfl ?_
          refine g_lc_ge rfl rfl (fun c89 => ?_) (fun c89 => ?_)
          · skip
            refine g_iconst rfl ?_
            refine g_iret rfl ?_
            refine ⟨rfl, ?_⟩
            rw [← la.2, ← lb.2]
            unfold lcmp
            have hee : ∀ j, m - 1 < j → j < 11 → V (a + 1) j % 4294967296 = V (b + 1) j % 4294967296 := fun j h1 h2 => he j (by omega) h2
            first
              | rw [if_pos (sv_lt_low (i := m - 1) (by omega) hee (by omega) h11)]
              | (have := sv_lt_low (f := V (b + 1)) (g := V (a + 1)) (i := m - 1) (by omega) (fun j h1 h2 => (hee j h1 h2).symm) (by omega) h11.symm
                 rw [if_neg (by omega), if_neg (by omega)])
          · skip
            refine g_iconst rfl ?_
            refine g_goto rfl ?_
            refine g_iret rfl ?_
            refine ⟨rfl, ?_⟩
            rw [← la.2, ← lb.2]
            unfold lcmp
            have hee : ∀ j, m - 1 < j → j < 11 → V (a + 1) j % 4294967296 = V (b + 1) j % 4294967296 := fun j h1 h2 => he j (by omega) h2
            first
              | rw [if_pos (sv_lt_low (i := m - 1) (by omega) hee (by omega) h11)]
              | (have := sv_lt_low (f := V (b + 1)) (g := V (a + 1)) (i := m - 1) (by omega) (fun j h1 h2 => (hee j h1 h2).symm) (by omega) h11.symm
                 rw [if_neg (by omega), if_neg (by omega)])
  refine g_bipush rfl ?_
  refine g_istore_n (l1 := [(3, aI 11), (0, aO (some (c + 1))), (1, aO (some a)), (2, aO (some b))]) rfl rfl ?_
  refine g_aload_n rfl rfl ?_
  refine g_getR rfl wa.1 wa.2.1 ?_
  refine g_iload_n rfl rfl ?_
  refine g_iald (i := 11) rfl wa.2.2 (by omega) (by omega) ?_
  refine g_top (v2 := aI (V (a + 1) 11)) (congrArg aI (by rfl)) ?_
  refine g_aload_n rfl rfl ?_
  refine g_getR rfl wb.1 wb.2.1 ?_
  refine g_iload_n rfl rfl ?_
  refine g_iald (i := 11) rfl wb.2.2 (by omega) (by omega) ?_
  refine g_top (v2 := aI (V (b + 1) 11)) (congrArg aI (by rfl)) ?_
  refine g_icmp_eq rfl (fun c15 => ?_) (fun c15 => ?_)
  · skip
    refine g_iload_n rfl rfl ?_
    refine g_iconst rfl ?_
    refine g_isub rfl (by omega) (by omega) ?_
    refine g_istore (l1 := [(4, aI (11 - 1)), (3, aI 11), (0, aO (some (c + 1))), (1, aO (some a)), (2, aO (some b))]) rfl rfl ?_
    refine g_ls [0, 2, 3, 4] rfl rfl ?_
    exact l44 (by exact c15) _ 11 (by omega) (by intro j h1 h2; omega) (Nat.lt_succ_self _)
  · skip
    refine g_aload_n rfl rfl ?_
    refine g_getR rfl wa.1 wa.2.1 ?_
    refine g_iload_n rfl rfl ?_
    refine g_iald (i := 11) rfl wa.2.2 (by omega) (by omega) ?_
    refine g_top (v2 := aI (V (a + 1) 11)) (congrArg aI (by rfl)) ?_
    refine g_aload_n rfl rfl ?_
    refine g_getR rfl wb.1 wb.2.1 ?_
    refine g_iload_n rfl rfl ?_
    refine g_iald (i := 11) rfl wb.2.2 (by omega) (by omega) ?_
    refine g_top (v2 := aI (V (b + 1) 11)) (congrArg aI (by rfl)) ?_
    refine g_icmp_ge rfl (fun c30 => ?_) (fun c30 => ?_)
    · skip
      refine g_iconst rfl ?_
      refine g_iret rfl ?_
      refine ⟨rfl, ?_⟩
      rw [← la.2, ← lb.2]
      unfold lcmp
      first
        | rw [if_pos (sv_lt_top (by omega))]
        | rw [if_neg (by have := sv_lt_top (f := V (b + 1)) (g := V (a + 1)) (by omega); omega), if_neg (by have := sv_lt_top (f := V (b + 1)) (g := V (a + 1)) (by omega); omega)]
    · skip
      refine g_iconst rfl ?_
      refine g_goto rfl ?_
      refine g_iret rfl ?_
      refine ⟨rfl, ?_⟩
      rw [← la.2, ← lb.2]
      unfold lcmp
      first
        | rw [if_pos (sv_lt_top (by omega))]
        | rw [if_neg (by have := sv_lt_top (f := V (b + 1)) (g := V (a + 1)) (by omega); omega), if_neg (by have := sv_lt_top (f := V (b + 1)) (g := V (a + 1)) (by omega); omega)]
theorem lcmp_0 {x y : Int} : lcmp x y = 0 ↔ x = y := by unfold lcmp; split <;> (try split) <;> omega
theorem lcmp_gt {x y : Int} : 0 < lcmp x y ↔ y < x := by unfold lcmp; split <;> (try split) <;> omega
theorem lcmp_lt {x y : Int} : lcmp x y < 0 ↔ x < y := by unfold lcmp; split <;> (try split) <;> omega
theorem x_areEqual {w : aW} {d : Nat} (hd : 2 ≤ d) {h : aH} {c : Nat} (cs : CS h c) (V : Nat → Nat → Int) (a b : Nat) (wa : WO h a) (wb : WO h b) {x y : Int} (la : LV (V (a + 1)) x) (lb : LV (V (b + 1)) y) : WP w d 175 [aO (some (c + 1)), aO (some a), aO (some b)] (hw h V) (RI (fun r h1 => h1 = hw h V ∧ r = if x = y then 1 else 0)) := by
  obtain ⟨d, rfl⟩ : ∃ d1, d = d1 + 1 := ⟨d - 1, by omega⟩
  refine WP.enter (cd := cd_X7_areEqual) rfl ?_
  have hls : largs 0 [aO (some (c + 1)), aO (some a), aO (some b)] = [(0, aO (some (c + 1))), (1, aO (some a)), (2, aO (some b))] := rfl
  rw [hls]
  clear hls
  refine g_aload_n rfl rfl ?_
  refine g_aload_n rfl rfl ?_
  refine g_aload_n rfl rfl ?_
  refine g_callVI [aO (some a), aO (some b)] [] rfl rfl rfl rfl (Nat.le_of_ble_eq_true rfl) (cs.kd 1 (by omega) rfl) (x_order (by omega) cs V a b wa wb la lb) ?_
  rintro x1 _ ⟨rfl, rfl⟩
  have h0 := @lcmp_0 x y
  refine g_if_ne rfl (fun c6 => ?_) (fun c6 => ?_)
  · skip
    refine g_iconst rfl ?_
    refine g_zret rfl (by omega) ?_
    refine ⟨rfl, ?_⟩
    first | rw [if_pos (h0.mp c6)] | rw [if_neg (fun e => c6 (h0.mpr e))]
  · skip
    refine g_iconst rfl ?_
    refine g_goto rfl ?_
    refine g_zret rfl (by omega) ?_
    refine ⟨rfl, ?_⟩
    first | rw [if_pos (h0.mp c6)] | rw [if_neg (fun e => c6 (h0.mpr e))]
theorem LV_long {f : Nat → Int} {z : Int} (h : LV f z) (hz : r64 z) : w64 (f 1 * 4294967296 + f 0 % 4294967296) = z := by
  have h1 := h.uvm
  have e : uv f 12 = f 0 % 4294967296 + 4294967296 * (f 1 % 4294967296 + 4294967296 * uv (fun j => f (j + 1 + 1)) 10) := by
    rw [uv_cons, uv_cons (fun j => f (j + 1)) 10]
  have h2 : z % 18446744073709551616 = (f 0 % 4294967296 + 4294967296 * (f 1 % 4294967296)) % 18446744073709551616 := by
    have hB : b12 = 18446744073709551616 * 4294967296 ^ 10 := by decide
    rw [e, hB] at h1
    have h3 := Int.emod_emod_of_dvd z (show (18446744073709551616 : Int) ∣ 18446744073709551616 * 4294967296 ^ 10 from ⟨_, rfl⟩)
    rw [← h1] at h3
    omega
  unfold w64
  unfold r64 at hz
  omega
theorem x_longOf {w : aW} {d : Nat} (hd : 1 ≤ d) {h : aH} {c : Nat} (cs : CS h c) (V : Nat → Nat → Int) (a : Nat) (wa : WO h a) {z : Int} (lv : LV (V (a + 1)) z) (hz : r64 z) : WP w d 177 [aO (some (c + 1)), aO (some a)] (hw h V) (RJ (fun x h1 => h1 = hw h V ∧ x = z)) := by
  obtain ⟨d, rfl⟩ : ∃ d1, d = d1 + 1 := ⟨d - 1, by omega⟩
  refine WP.enter (cd := cd_X7_longOf) rfl ?_
  have hls : largs 0 [aO (some (c + 1)), aO (some a)] = [(0, aO (some (c + 1))), (1, aO (some a))] := rfl
  rw [hls]
  clear hls
  refine g_aload_n rfl rfl ?_
  refine g_getR rfl wa.1 wa.2.1 ?_
  refine g_iconst rfl ?_
  refine g_iald (i := 1) rfl wa.2.2 (by omega) (by omega) ?_
  refine g_top (v2 := aI (V (a + 1) 1)) (congrArg aI (by rfl)) ?_
  refine g_i2l rfl ?_
  refine g_bipush rfl ?_
  refine g_lshl rfl ?_
  refine g_aload_n rfl rfl ?_
  refine g_getR rfl wa.1 wa.2.1 ?_
  refine g_iconst rfl ?_
  refine g_iald (i := 0) rfl wa.2.2 (by omega) (by omega) ?_
  refine g_top (v2 := aI (V (a + 1) 0)) (congrArg aI (by rfl)) ?_
  refine g_i2l rfl ?_
  refine g_ldc2 rfl ?_
  refine g_land rfl ?_
  refine g_lor rfl ?_
  refine g_lret rfl ?_
  refine ⟨rfl, ?_⟩
  rw [long_of]
  exact LV_long lv hz
