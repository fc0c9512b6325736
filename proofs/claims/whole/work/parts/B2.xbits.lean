/-! the class's whole numbers, on: bits: printed by wip/whole/b2.py -/
theorem mod_pow_succ (x : Int) (b : Nat) : x % 2 ^ (b + 1) = x % 2 ^ b + 2 ^ b * (x / 2 ^ b % 2) := by
  have hp : (0 : Int) < 2 ^ b := Int.pow_pos (by decide)
  have e : (2 : Int) ^ (b + 1) = 2 ^ b * 2 := Int.pow_succ _ _
  have h1 := Int.mul_ediv_add_emod x (2 ^ b)
  have h2 := Int.mul_ediv_add_emod (x / 2 ^ b) 2
  have h3 := Int.emod_nonneg x (show (2 : Int) ^ b ≠ 0 by omega)
  have h4 := Int.emod_lt_of_pos x hp
  rw [e]
  generalize hy : x / 2 ^ b = y at *
  generalize x % 2 ^ b = r at *
  generalize (2 : Int) ^ b = P at *
  have h5 : x = P * 2 * (y / 2) + (r + P * (y % 2)) := by
    rw [← h1]
    generalize y / 2 = q at *
    generalize y % 2 = s at *
    grind
  have h6 : y % 2 = 0 ∨ y % 2 = 1 := by omega
  rw [h5, Int.mul_add_emod_self_left, Int.emod_eq_of_lt]
  · rcases h6 with q | q <;> rw [q] <;> omega
  · rcases h6 with q | q <;> rw [q] <;> omega
theorem bit_out {x : Int} {b : Nat} (h : x / 2 ^ b % 2 = 0) : x % 2 ^ (b + 1) = x % 2 ^ b := by
  rw [mod_pow_succ, h, Int.mul_zero, Int.add_zero]
theorem bit_in {x : Int} {b : Nat} (h : ¬ x / 2 ^ b % 2 = 0) : 2 ^ (b + 1 - 1) ≤ x % 2 ^ (b + 1) ∧ x % 2 ^ (b + 1) < 2 ^ (b + 1) := by
  have hp : (0 : Int) < 2 ^ b := Int.pow_pos (by decide)
  have hp2 : (0 : Int) < 2 ^ (b + 1) := Int.pow_pos (by decide)
  refine ⟨?_, Int.emod_lt_of_pos _ hp2⟩
  rw [mod_pow_succ, show x / 2 ^ b % 2 = 1 by omega, Int.mul_one, Nat.add_sub_cancel]
  have := Int.emod_nonneg x (show (2 : Int) ^ b ≠ 0 by omega)
  omega
/-- how many bits -/
def BL (u : Int) (n : Nat) : Prop := u < 2 ^ n ∧ (n = 0 ∨ 2 ^ (n - 1) ≤ u)
theorem BL_top {f : Nat → Int} {m k : Nat} (hm : m < 12) (hz : ∀ j, m + 1 ≤ j → j < 12 → f j = 0) (h0 : r32 (f m)) (hn : f m ≠ 0) (h1 : k = 0 → f m % 4294967296 % 2 ^ 32 = 0) (h2 : 0 < k → 2 ^ (k - 1) ≤ f m % 4294967296 % 2 ^ 32 ∧ f m % 4294967296 % 2 ^ 32 < 2 ^ k) : BL (uv f 12) (32 * m + k) := by
  have e0 : f m % 4294967296 % 2 ^ 32 = f m % 4294967296 := by rw [show (2 : Int) ^ 32 = 4294967296 by decide, Int.emod_emod]
  rw [e0] at h1 h2
  have hk : 0 < k := by
    refine Nat.pos_of_ne_zero fun u => ?_
    have := h1 u
    unfold r32 at h0
    omega
  obtain ⟨h3, h4⟩ := h2 hk
  have hs0 := uv_split f (m + 1) (11 - m)
  rw [show m + 1 + (11 - m) = 12 by omega, uv_zero (f := fun j => f (m + 1 + j)) (n := 11 - m) (fun j hj => hz _ (by omega) (by omega)), Int.zero_mul, Int.add_zero] at hs0
  have hs : uv f 12 = uv f m + f m % 4294967296 * 4294967296 ^ m := by rw [hs0]; rfl
  have hb := uv_b f m
  have hP : (4294967296 : Int) ^ m = 2 ^ (32 * m) := by
    rw [show (4294967296 : Int) = 2 ^ 32 by decide, ← Int.pow_mul]
  have hp := bp_pos m
  refine ⟨?_, Or.inr ?_⟩
  · have h5 := Int.mul_le_mul_of_nonneg_right (show f m % 4294967296 + 1 ≤ 2 ^ k by omega) (Int.le_of_lt hp)
    rw [Int.pow_add, hs, ← hP, Int.mul_comm (4294967296 ^ m) (2 ^ k)]
    rw [Int.add_mul] at h5
    omega
  · have h5 := Int.mul_le_mul_of_nonneg_right h3 (Int.le_of_lt hp)
    rw [show 32 * m + k - 1 = 32 * m + (k - 1) by omega, Int.pow_add, hs, ← hP, Int.mul_comm (4294967296 ^ m) (2 ^ (k - 1))]
    omega
theorem BL_zero {f : Nat → Int} (hz : ∀ j < 12, f j = 0) : BL (uv f 12) 0 := by
  rw [uv_zero hz]
  exact ⟨by decide, Or.inl rfl⟩
theorem x_bits {w : aW} {d : Nat} (hd : 1 ≤ d) {h : aH} {c : Nat} (cs : CS h c) (V : Nat → Nat → Int) (a : Nat) (wa : WO h a) (hr : ∀ j < 12, r32 (V (a + 1) j)) : WP w d 178 [aO (some (c + 1)), aO (some a)] (hw h V) (RI (fun x h1 => h1 = hw h V ∧ ∃ n : Nat, x = n ∧ n ≤ 384 ∧ BL (uv (V (a + 1)) 12) n)) := by
  obtain ⟨d, rfl⟩ : ∃ d1, d = d1 + 1 := ⟨d - 1, by omega⟩
  refine WP.enter (cd := cd_X7_bits) rfl ?_
  have hls : largs 0 [aO (some (c + 1)), aO (some a)] = [(0, aO (some (c + 1))), (1, aO (some a))] := rfl
  rw [hls]
  clear hls
  have l3 : ∀ (fuel : Nat) (m : Nat), (m ≤ 12) → (∀ j, m ≤ j → j < 12 → V (a + 1) j = 0) → m < fuel → Wk w d cd_X7_bits 3 [(2, aI ((m : Int) - 1)), (0, aO (some (c + 1))), (1, aO (some a))] [] (hw h V) (RI (fun x h1 => h1 = hw h V ∧ ∃ n : Nat, x = n ∧ n ≤ 384 ∧ BL (uv (V (a + 1)) 12) n)) := by
    intro fuel
    induction fuel with
    | zero => intros; omega
    | succ fuel ih3 =>
      intro m hm hz hfuel
      have l24 : (0 < m) → (V (a + 1) (m - 1) ≠ 0) → ∀ (fuel : Nat) (b : Nat) (f : Nat), (b ≤ 32) → (f ≤ b) → (f = 0 → V (a + 1) (m - 1) % 4294967296 % 2 ^ b = 0) → (0 < f → 2 ^ (f - 1) ≤ V (a + 1) (m - 1) % 4294967296 % 2 ^ b ∧ V (a + 1) (m - 1) % 4294967296 % 2 ^ b < 2 ^ f) → 32 - b < fuel → Wk w d cd_X7_bits 24 [(5, aI ((b : Int))), (4, aI ((f : Int))), (2, aI ((m : Int) - 1)), (3, aI (V (a + 1) (m - 1))), (0, aO (some (c + 1))), (1, aO (some a))] [] (hw h V) (RI (fun x h1 => h1 = hw h V ∧ ∃ n : Nat, x = n ∧ n ≤ 384 ∧ BL (uv (V (a + 1)) 12) n)) := by
        intro hm1 c15 fuel
        induction fuel with
        | zero => intros; omega
        | succ fuel ih24 =>
          intro b f hb hfb hf0 hf1 hfuel
          have j49 : ∀ (f2 : Nat), (b < 32) → (f2 ≤ b + 1) → (f2 = 0 → V (a + 1) (m - 1) % 4294967296 % 2 ^ (b + 1) = 0) → (0 < f2 → 2 ^ (f2 - 1) ≤ V (a + 1) (m - 1) % 4294967296 % 2 ^ (b + 1) ∧ V (a + 1) (m - 1) % 4294967296 % 2 ^ (b + 1) < 2 ^ f2) → Wk w d cd_X7_bits 49 [(5, aI ((b : Int))), (2, aI ((m : Int) - 1)), (3, aI (V (a + 1) (m - 1))), (0, aO (some (c + 1))), (1, aO (some a))] [aI ((f2 : Int))] (hw h V) (RI (fun x h1 => h1 = hw h V ∧ ∃ n : Nat, x = n ∧ n ≤ 384 ∧ BL (uv (V (a + 1)) 12) n)) := by
            intro f2 hb32 hfb2 hf02 hf12
            refine g_istore (l1 := [(4, aI ((f2 : Int))), (5, aI ((b : Int))), (2, aI ((m : Int) - 1)), (3, aI (V (a + 1) (m - 1))), (0, aO (some (c + 1))), (1, aO (some a))]) rfl rfl ?_
            refine g_iinc (l1 := [(5, aI ((b : Int) + 1)), (4, aI ((f2 : Int))), (2, aI ((m : Int) - 1)), (3, aI (V (a + 1) (m - 1))), (0, aO (some (c + 1))), (1, aO (some a))]) rfl rfl (by omega) (by omega) rfl ?_
            refine g_goto rfl ?_
            exact ih24 (b + 1) f2 (by omega) (by exact hfb2) (by exact hf02) (by exact hf12) (by omega)
          refine g_iload rfl rfl ?_
          refine g_bipush rfl ?_
          refine g_icmp_ge rfl (fun c28 => ?_) (fun c28 => ?_)
          · skip
            have e32 : b = 32 := by omega
            rw [e32] at hf0 hf1
            refine g_bipush rfl ?_
            refine g_iload_n rfl rfl ?_
            refine g_imul rfl (by omega) (by omega) ?_
            refine g_iload rfl rfl ?_
            refine g_iadd rfl (by omega) (by omega) ?_
            refine g_iret rfl ?_
            refine ⟨rfl, 32 * (m - 1) + f, by omega, by omega, BL_top (by omega) (fun j h1 h2 => hz j (by omega) h2) (hr _ (by omega)) c15 hf0 hf1⟩
          · skip
            refine g_iload_n rfl rfl ?_
            refine g_iload rfl rfl ?_
            refine g_iushr rfl ?_
            refine g_iconst rfl ?_
            refine g_iand rfl ?_
            refine g_if_eq rfl (fun c37 => ?_) (fun c37 => ?_)
            · skip
              refine g_iload rfl rfl ?_
              refine g_ls [0, 2, 3, 4, 5] rfl rfl ?_
              exact j49 f (by omega) (by omega) (by intro u; rw [bit_out (by rw [← iushr_bit _ (by omega)]; omega)]; exact hf0 u) (by intro u; rw [bit_out (by rw [← iushr_bit _ (by omega)]; omega)]; exact hf1 u)
            · skip
              refine g_iload rfl rfl ?_
              refine g_iconst rfl ?_
              refine g_iadd rfl (by omega) (by omega) ?_
              refine g_goto rfl ?_
              refine g_ls [0, 2, 3, 4, 5] rfl rfl ?_
              exact j49 (b + 1) (by omega) (by omega) (by intro u; omega) (by intro _; exact bit_in (by rw [← iushr_bit _ (by omega)]; omega))
      refine g_iload_n rfl rfl ?_
      refine g_if_lt rfl (fun c4 => ?_) (fun c4 => ?_)
      · skip
        refine g_iconst rfl ?_
        refine g_iret rfl ?_
        exact ⟨rfl, 0, rfl, by omega, BL_zero fun j hj => hz j (by omega) hj⟩
      · skip
        refine g_aload_n rfl rfl ?_
        refine g_getR rfl wa.1 wa.2.1 ?_
        refine g_iload_n rfl rfl ?_
        refine g_iald (i := (m - 1)) rfl wa.2.2 (by omega) (by omega) ?_
        refine g_top (v2 := aI (V (a + 1) (m - 1))) (congrArg aI (by rfl)) ?_
        refine g_istore_n (l1 := [(3, aI (V (a + 1) (m - 1))), (2, aI ((m : Int) - 1)), (0, aO (some (c + 1))), (1, aO (some a))]) rfl rfl ?_
        refine g_iload_n rfl rfl ?_
        refine g_if_eq rfl (fun c15 => ?_) (fun c15 => ?_)
        · skip
          refine g_iinc (l1 := [(2, aI ((m : Int) - 1 + (-1))), (3, aI (V (a + 1) (m - 1))), (0, aO (some (c + 1))), (1, aO (some a))]) rfl rfl (by omega) (by omega) rfl ?_
          rw [show ((m : Int) - 1 + (-1) : Int) = ((m - 1 : Nat) : Int) - 1 by omega]
          refine g_goto rfl ?_
          refine g_ls [0, 2, 3] rfl rfl ?_
          exact ih3 (m - 1) (by omega) (by intro j h1 h2; by_cases e : j = m - 1; (rw [e]; exact c15); (exact hz j (by omega) h2)) (by omega)
        · skip
          refine g_iconst rfl ?_
          refine g_istore (l1 := [(4, aI 0), (3, aI (V (a + 1) (m - 1))), (2, aI ((m : Int) - 1)), (0, aO (some (c + 1))), (1, aO (some a))]) rfl rfl ?_
          refine g_iconst rfl ?_
          refine g_istore (l1 := [(5, aI 0), (4, aI 0), (3, aI (V (a + 1) (m - 1))), (2, aI ((m : Int) - 1)), (0, aO (some (c + 1))), (1, aO (some a))]) rfl rfl ?_
          refine g_ls [0, 1, 3, 2, 4, 5] rfl rfl ?_
          exact l24 (by omega) (by exact c15) _ 0 0 (by omega) (by omega) (by intro _; exact Int.emod_one _) (by intro u; omega) (Nat.lt_succ_self _)
  refine g_bipush rfl ?_
  refine g_istore_n (l1 := [(2, aI 11), (0, aO (some (c + 1))), (1, aO (some a))]) rfl rfl ?_
  exact l3 _ 12 (by omega) (by intro j h1 h2; omega) (Nat.lt_succ_self _)
theorem halve_step {f g g2 : Nat → Int} {m : Nat} {k : Int} (hm : 0 < m ∧ m ≤ 12) (h1 : ∀ j, m - 1 < j → g2 j = g j) (h2 : g2 (m - 1) = w32 (k * 2147483648 + f (m - 1) % 4294967296 / 2)) (hk : k = 0 ∨ k = 1) (hh : hv f m = 2 * hv g m + k) : hv f (m - 1) = 2 * hv g2 (m - 1) + f (m - 1) % 2 := by
  rw [hv_step f (show m - 1 < 12 by omega), hv_step g2 (show m - 1 < 12 by omega), h2, w32_mod, show m - 1 + 1 = m by omega, hv_congr (f := g2) (g := g) (fun j hj => h1 j (by omega)), hh]
  omega
theorem x_halve {w : aW} {d : Nat} (hd : 1 ≤ d) {h : aH} {c : Nat} (cs : CS h c) (V : Nat → Nat → Int) (a : Nat) (wa : WO h a) : WP w d 179 [aO (some (c + 1)), aO (some a)] (hw h V) (RN (fun h1 => ∃ V1, h1 = hw h V1 ∧ UP V (a + 1) V1 (uv (V (a + 1)) 12 / 2))) := by
  obtain ⟨d, rfl⟩ : ∃ d1, d = d1 + 1 := ⟨d - 1, by omega⟩
  refine WP.enter (cd := cd_X7_halve) rfl ?_
  have hls : largs 0 [aO (some (c + 1)), aO (some a)] = [(0, aO (some (c + 1))), (1, aO (some a))] := rfl
  rw [hls]
  clear hls
  have l5 : ∀ (fuel : Nat) (m : Nat) (k : Int) (V1 : Nat → Nat → Int), (m ≤ 12) → (k = 0 ∨ k = 1) → (∀ q, q ≠ a + 1 → V1 q = V q) → (∀ j < m, V1 (a + 1) j = V (a + 1) j) → (∀ j < 12, m ≤ j → r32 (V1 (a + 1) j)) → (hv (V (a + 1)) m = 2 * hv (V1 (a + 1)) m + k) → m < fuel → Wk w d cd_X7_halve 5 [(3, aI ((m : Int) - 1)), (2, aI k), (0, aO (some (c + 1))), (1, aO (some a))] [] (hw h V1) (RN (fun h1 => ∃ V1, h1 = hw h V1 ∧ UP V (a + 1) V1 (uv (V (a + 1)) 12 / 2))) := by
    intro fuel
    induction fuel with
    | zero => intros; omega
    | succ fuel ih5 =>
      intro m k V1 hm hk hf hlo hr hh hfuel
      refine g_iload_n rfl rfl ?_
      refine g_if_lt rfl (fun c6 => ?_) (fun c6 => ?_)
      · skip
        refine g_vret rfl ?_
        refine ⟨V1, rfl, hf, fun j hj => hr j hj (by omega), ?_⟩
        have e0 : m = 0 := by omega
        rw [e0, hv_0, hv_0] at hh
        have hb := uv_b (V1 (a + 1)) 12
        rw [hh, show (2 * uv (V1 (a + 1)) 12 + k) / 2 = uv (V1 (a + 1)) 12 by omega]
        exact (Int.emod_eq_of_lt hb.1 hb.2).symm
      · skip
        refine g_aload_n rfl rfl ?_
        refine g_getR rfl wa.1 wa.2.1 ?_
        refine g_iload_n rfl rfl ?_
        refine g_iald (i := (m - 1)) rfl wa.2.2 (by omega) (by omega) ?_
        refine g_top (v2 := aI (V1 (a + 1) (m - 1))) (congrArg aI (by rfl)) ?_
        refine g_top (v2 := aI (V (a + 1) (m - 1))) (congrArg aI (by exact hlo (m - 1) (by omega))) ?_
        refine g_istore (l1 := [(4, aI (V (a + 1) (m - 1))), (3, aI ((m : Int) - 1)), (2, aI k), (0, aO (some (c + 1))), (1, aO (some a))]) rfl rfl ?_
        refine g_aload_n rfl rfl ?_
        refine g_getR rfl wa.1 wa.2.1 ?_
        refine g_iload_n rfl rfl ?_
        refine g_iload rfl rfl ?_
        refine g_iconst rfl ?_
        refine g_iushr rfl ?_
        refine g_iload_n rfl rfl ?_
        refine g_bipush rfl ?_
        refine g_ishl rfl ?_
        refine g_ior rfl ?_
        refine g_top (v2 := aI (w32 (k * 2147483648 + V (a + 1) (m - 1) % 4294967296 / 2))) (congrArg aI (by exact half_limb hk)) ?_
        refine g_iast (i := (m - 1)) rfl wa.2.2 (by omega) (by omega) ?_
        refine g_hp (h2 := hw h (vset V1 (a + 1) ((m - 1)) (w32 (k * 2147483648 + V (a + 1) (m - 1) % 4294967296 / 2)))) rfl ?_
        refine g_iload rfl rfl ?_
        refine g_iconst rfl ?_
        refine g_iand rfl ?_
        refine g_top (v2 := aI (V (a + 1) (m - 1) % 2)) (congrArg aI (by exact iand_one _)) ?_
        refine g_istore_n (l1 := [(2, aI (V (a + 1) (m - 1) % 2)), (4, aI (V (a + 1) (m - 1))), (3, aI ((m : Int) - 1)), (0, aO (some (c + 1))), (1, aO (some a))]) rfl rfl ?_
        refine g_iinc (l1 := [(3, aI ((m : Int) - 1 + (-1))), (2, aI (V (a + 1) (m - 1) % 2)), (4, aI (V (a + 1) (m - 1))), (0, aO (some (c + 1))), (1, aO (some a))]) rfl rfl (by omega) (by omega) rfl ?_
        rw [show ((m : Int) - 1 + (-1) : Int) = ((m - 1 : Nat) : Int) - 1 by omega]
        refine g_goto rfl ?_
        refine g_ls [0, 1, 3, 4] rfl rfl ?_
        exact ih5 (m - 1) (V (a + 1) (m - 1) % 2) _ (by omega) (by omega) (by intro q hq; funext j; rw [vset_ne _ _ _ _ (by omega), hf q hq]) (by intro j hj; rw [vset_ne _ _ _ _ (by omega), hlo j (by omega)]) (by intro j h1 h2; by_cases e : j = m - 1; (rw [e, vset_eq]; exact w32_r _); (rw [vset_ne _ _ _ _ (by omega)]; exact hr j h1 (by omega))) (by exact halve_step (f := V (a + 1)) (g := V1 (a + 1)) (by omega) (fun j hj => vset_ne _ _ _ _ (by omega)) (vset_eq _ _ _ _) hk hh) (by omega)
  refine g_iconst rfl ?_
  refine g_istore_n (l1 := [(2, aI 0), (0, aO (some (c + 1))), (1, aO (some a))]) rfl rfl ?_
  refine g_bipush rfl ?_
  refine g_istore_n (l1 := [(3, aI 11), (2, aI 0), (0, aO (some (c + 1))), (1, aO (some a))]) rfl rfl ?_
  exact l5 _ 12 0 V (by omega) (by exact Or.inl rfl) (by intro q _; rfl) (by intro j _; rfl) (by intro j _ _; omega) (by rfl) (Nat.lt_succ_self _)
theorem twice_step {V1 V2 : Nat → Nat → Int} {a i : Nat} {k : Int} (hk : k = 0 ∨ k = 1) (hu : uv (V2 (a + 1)) i + k * 4294967296 ^ i = 2 * uv (V1 (a + 1)) i) : uv (vset V2 (a + 1) i (w32 (V1 (a + 1) i * 2 + k)) (a + 1)) (i + 1) + V1 (a + 1) i % 4294967296 / 2147483648 * 4294967296 ^ (i + 1) = 2 * uv (V1 (a + 1)) (i + 1) := by
  rw [uv_vset1, uv_succ, bp_succ, w32_mod]
  have h1 : (V1 (a + 1) i * 2 + k) % 4294967296 = 2 * (V1 (a + 1) i % 4294967296) + k - 4294967296 * (V1 (a + 1) i % 4294967296 / 2147483648) := by omega
  rw [h1]
  generalize V1 (a + 1) i % 4294967296 = x at *
  generalize x / 2147483648 = y at *
  generalize (4294967296 : Int) ^ i = P at *
  grind
theorem twice_all {f g : Nat → Int} {u k : Int} {t : Nat} (hu : uv f 12 = u * 2 ^ t % b12) (h : uv g 12 + k * 4294967296 ^ 12 = 2 * uv f 12) : uv g 12 = u * 2 ^ (t + 1) % b12 := by
  have h1 := mod_b12 (f := g) (k := k) h
  rw [h1, hu, Int.pow_succ, ← Int.mul_assoc, Int.mul_comm 2]
  rw [Int.mul_emod, Int.emod_emod, ← Int.mul_emod]
theorem x_doubleOften {w : aW} {d : Nat} (hd : 1 ≤ d) {h : aH} {c : Nat} (cs : CS h c) (V : Nat → Nat → Int) (a : Nat) (wa : WO h a) (n : Int) (hn : n ≤ 1000) (hr0 : ∀ j < 12, r32 (V (a + 1) j)) : WP w d 180 [aO (some (c + 1)), aO (some a), aI n] (hw h V) (RN (fun h1 => ∃ V1, h1 = hw h V1 ∧ UP V (a + 1) V1 (uv (V (a + 1)) 12 * 2 ^ n.toNat))) := by
  obtain ⟨d, rfl⟩ : ∃ d1, d = d1 + 1 := ⟨d - 1, by omega⟩
  refine WP.enter (cd := cd_X7_doubleOften) rfl ?_
  have hls : largs 0 [aO (some (c + 1)), aO (some a), aI n] = [(0, aO (some (c + 1))), (1, aO (some a)), (2, aI n)] := rfl
  rw [hls]
  clear hls
  have l2 : ∀ (fuel : Nat) (t : Nat) (V1 : Nat → Nat → Int), ((t : Int) ≤ n ∨ t = 0) → (∀ q, q ≠ a + 1 → V1 q = V q) → (∀ j < 12, r32 (V1 (a + 1) j)) → (uv (V1 (a + 1)) 12 = uv (V (a + 1)) 12 * 2 ^ t % b12) → n.toNat - t < fuel → Wk w d cd_X7_doubleOften 2 [(3, aI ((t : Int))), (0, aO (some (c + 1))), (1, aO (some a)), (2, aI n)] [] (hw h V1) (RN (fun h1 => ∃ V1, h1 = hw h V1 ∧ UP V (a + 1) V1 (uv (V (a + 1)) 12 * 2 ^ n.toNat))) := by
    intro fuel
    induction fuel with
    | zero => intros; omega
    | succ fuel ih2 =>
      intro t V1 ht hf hr hu hfuel
      have l13 : ((t : Int) < n) → ∀ (fuel : Nat) (i : Nat) (k : Int) (V2 : Nat → Nat → Int), (i ≤ 12) → (k = 0 ∨ k = 1) → (∀ q, q ≠ a + 1 → V2 q = V q) → (∀ j, i ≤ j → V2 (a + 1) j = V1 (a + 1) j) → (∀ j < i, r32 (V2 (a + 1) j)) → (uv (V2 (a + 1)) i + k * 4294967296 ^ i = 2 * uv (V1 (a + 1)) i) → 12 - i < fuel → Wk w d cd_X7_doubleOften 13 [(5, aI ((i : Int))), (4, aI k), (3, aI ((t : Int))), (0, aO (some (c + 1))), (1, aO (some a)), (2, aI n)] [] (hw h V2) (RN (fun h1 => ∃ V1, h1 = hw h V1 ∧ UP V (a + 1) V1 (uv (V (a + 1)) 12 * 2 ^ n.toNat))) := by
        intro htn fuel
        induction fuel with
        | zero => intros; omega
        | succ fuel ih13 =>
          intro i k V2 hi hk hf2 hlo hr2 hu2 hfuel
          refine g_iload rfl rfl ?_
          refine g_bipush rfl ?_
          refine g_icmp_ge rfl (fun c17 => ?_) (fun c17 => ?_)
          · skip
            refine g_iinc (l1 := [(3, aI ((t : Int) + 1)), (5, aI ((i : Int))), (4, aI k), (0, aO (some (c + 1))), (1, aO (some a)), (2, aI n)]) rfl rfl (by omega) (by omega) rfl ?_
            refine g_goto rfl ?_
            refine g_ls [0, 3, 4, 5] rfl rfl ?_
            exact ih2 (t + 1) _ (by omega) (by exact hf2) (by intro j hj; exact hr2 j (by omega)) (by rw [show i = 12 by omega] at hu2; exact twice_all hu hu2) (by omega)
          · skip
            refine g_aload_n rfl rfl ?_
            refine g_getR rfl wa.1 wa.2.1 ?_
            refine g_iload rfl rfl ?_
            refine g_iald (i := i) rfl wa.2.2 (by omega) (by omega) ?_
            refine g_top (v2 := aI (V2 (a + 1) i)) (congrArg aI (by rfl)) ?_
            refine g_top (v2 := aI (V1 (a + 1) i)) (congrArg aI (by exact hlo i (Nat.le_refl _))) ?_
            refine g_istore (l1 := [(6, aI (V1 (a + 1) i)), (5, aI ((i : Int))), (4, aI k), (3, aI ((t : Int))), (0, aO (some (c + 1))), (1, aO (some a)), (2, aI n)]) rfl rfl ?_
            refine g_aload_n rfl rfl ?_
            refine g_getR rfl wa.1 wa.2.1 ?_
            refine g_iload rfl rfl ?_
            refine g_iload rfl rfl ?_
            refine g_iconst rfl ?_
            refine g_ishl rfl ?_
            refine g_iload rfl rfl ?_
            refine g_ior rfl ?_
            refine g_top (v2 := aI (w32 (V1 (a + 1) i * 2 + k))) (congrArg aI (by exact twice_limb hk)) ?_
            refine g_iast (i := i) rfl wa.2.2 (by omega) (by omega) ?_
            refine g_hp (h2 := hw h (vset V2 (a + 1) i (w32 (V1 (a + 1) i * 2 + k)))) rfl ?_
            refine g_iload rfl rfl ?_
            refine g_bipush rfl ?_
            refine g_iushr rfl ?_
            refine g_top (v2 := aI (V1 (a + 1) i % 4294967296 / 2147483648)) (congrArg aI (by exact iushr_31 _)) ?_
            refine g_istore (l1 := [(4, aI (V1 (a + 1) i % 4294967296 / 2147483648)), (6, aI (V1 (a + 1) i)), (5, aI ((i : Int))), (3, aI ((t : Int))), (0, aO (some (c + 1))), (1, aO (some a)), (2, aI n)]) rfl rfl ?_
            refine g_iinc (l1 := [(5, aI ((i : Int) + 1)), (4, aI (V1 (a + 1) i % 4294967296 / 2147483648)), (6, aI (V1 (a + 1) i)), (3, aI ((t : Int))), (0, aO (some (c + 1))), (1, aO (some a)), (2, aI n)]) rfl rfl (by omega) (by omega) rfl ?_
            refine g_goto rfl ?_
            refine g_ls [0, 1, 3, 4, 5, 6] rfl rfl ?_
            exact ih13 (i + 1) (V1 (a + 1) i % 4294967296 / 2147483648) _ (by omega) (by omega) (by intro q hq; funext j; rw [vset_ne _ _ _ _ (by omega), hf2 q hq]) (by intro j hj; rw [vset_ne _ _ _ _ (by omega), hlo j (by omega)]) (by intro j hj; by_cases e : j = i; (rw [e, vset_eq]; exact w32_r _); (rw [vset_ne _ _ _ _ (by omega)]; exact hr2 j (by omega))) (by exact twice_step hk hu2) (by omega)
      refine g_iload_n rfl rfl ?_
      refine g_iload_n rfl rfl ?_
      refine g_icmp_ge rfl (fun c4 => ?_) (fun c4 => ?_)
      · skip
        refine g_vret rfl ?_
        refine ⟨V1, rfl, hf, hr, ?_⟩
        rw [hu, show n.toNat = t by omega]
      · skip
        refine g_iconst rfl ?_
        refine g_istore (l1 := [(4, aI 0), (3, aI ((t : Int))), (0, aO (some (c + 1))), (1, aO (some a)), (2, aI n)]) rfl rfl ?_
        refine g_iconst rfl ?_
        refine g_istore (l1 := [(5, aI 0), (4, aI 0), (3, aI ((t : Int))), (0, aO (some (c + 1))), (1, aO (some a)), (2, aI n)]) rfl rfl ?_
        exact l13 (by omega) _ 0 0 V1 (by omega) (by exact Or.inl rfl) (by exact hf) (by intro j _; rfl) (by intro j _; omega) (by rfl) (Nat.lt_succ_self _)
  refine g_iconst rfl ?_
  refine g_istore_n (l1 := [(3, aI 0), (0, aO (some (c + 1))), (1, aO (some a)), (2, aI n)]) rfl rfl ?_
  exact l2 _ 0 V (by omega) (by intro q _; rfl) (by exact hr0) (by rw [Int.pow_zero, Int.mul_one]; exact (Int.emod_eq_of_lt (uv_b _ _).1 (uv_b _ _).2).symm) (Nat.lt_succ_self _)
theorem x_isEven {w : aW} {d : Nat} (hd : 1 ≤ d) {h : aH} {c : Nat} (cs : CS h c) (V : Nat → Nat → Int) (a : Nat) (wa : WO h a) : WP w d 181 [aO (some (c + 1)), aO (some a)] (hw h V) (RI (fun x h1 => h1 = hw h V ∧ x = if uv (V (a + 1)) 12 % 2 = 0 then 1 else 0)) := by
  obtain ⟨d, rfl⟩ : ∃ d1, d = d1 + 1 := ⟨d - 1, by omega⟩
  refine WP.enter (cd := cd_X7_isEven) rfl ?_
  have hls : largs 0 [aO (some (c + 1)), aO (some a)] = [(0, aO (some (c + 1))), (1, aO (some a))] := rfl
  rw [hls]
  clear hls
  refine g_aload_n rfl rfl ?_
  refine g_getR rfl wa.1 wa.2.1 ?_
  refine g_iconst rfl ?_
  refine g_iald (i := 0) rfl wa.2.2 (by omega) (by omega) ?_
  refine g_top (v2 := aI (V (a + 1) 0)) (congrArg aI (by rfl)) ?_
  refine g_iconst rfl ?_
  refine g_iand rfl ?_
  refine g_top (v2 := aI (uv (V (a + 1)) 12 % 2)) (congrArg aI (by rw [uv_even]; exact iand_one _)) ?_
  refine g_if_ne rfl (fun c8 => ?_) (fun c8 => ?_)
  · skip
    refine g_iconst rfl ?_
    refine g_zret rfl (by omega) ?_
    refine ⟨rfl, ?_⟩
    first | rw [if_pos c8] | rw [if_neg c8]
  · skip
    refine g_iconst rfl ?_
    refine g_goto rfl ?_
    refine g_zret rfl (by omega) ?_
    refine ⟨rfl, ?_⟩
    first | rw [if_pos c8] | rw [if_neg c8]
theorem strip_lt {f : Nat → Int} {g : Nat → Int} {t : Nat} (hp : 0 < uv g 12) (hu : uv g 12 = uv f 12 * 2 ^ t) : t < 384 := by
  refine Nat.not_le.mp fun q => ?_
  have hb := uv_b g 12
  have h1 := ipow_le q
  have h2 : (0 : Int) < 2 ^ t := Int.pow_pos (by decide)
  have h3 : 0 < uv f 12 := by
    refine Int.not_le.mp fun u => ?_
    have := Int.mul_nonneg (show 0 ≤ -uv f 12 by omega) (Int.le_of_lt h2)
    rw [Int.neg_mul] at this
    omega
  have h4 := Int.mul_le_mul_of_nonneg_right (show 1 ≤ uv f 12 by omega) (Int.le_of_lt h2)
  have h5 : (2 : Int) ^ 384 = 4294967296 ^ 12 := by decide
  omega
theorem strip_step {f g : Nat → Int} {u : Int} {t : Nat} (hu : u = uv f 12 * 2 ^ t) (he : uv f 12 % 2 = 0) (h2 : uv g 12 = uv f 12 / 2 % b12) : u = uv g 12 * 2 ^ (t + 1) := by
  have hb := uv_b f 12
  rw [Int.emod_eq_of_lt (by omega) (by show _ < 4294967296 ^ 12; omega)] at h2
  rw [hu, h2, Int.pow_succ, Int.mul_comm (2 ^ t) 2, ← Int.mul_assoc]
  congr 1
  omega
theorem x_stripTwos {w : aW} {d : Nat} (hd : 2 ≤ d) {h : aH} {c : Nat} (cs : CS h c) (V : Nat → Nat → Int) (a : Nat) (wa : WO h a) (hr0 : ∀ j < 12, r32 (V (a + 1) j)) (hp : 0 < uv (V (a + 1)) 12) : WP w d 182 [aO (some (c + 1)), aO (some a)] (hw h V) (RI (fun x h1 => ∃ V1, h1 = hw h V1 ∧ ∃ t : Nat, x = t ∧ t < 384 ∧ (∀ q, q ≠ a + 1 → V1 q = V q) ∧ (∀ j < 12, r32 (V1 (a + 1) j)) ∧ uv (V (a + 1)) 12 = uv (V1 (a + 1)) 12 * 2 ^ t ∧ uv (V1 (a + 1)) 12 % 2 = 1)) := by
  obtain ⟨d, rfl⟩ : ∃ d1, d = d1 + 1 := ⟨d - 1, by omega⟩
  refine WP.enter (cd := cd_X7_stripTwos) rfl ?_
  have hls : largs 0 [aO (some (c + 1)), aO (some a)] = [(0, aO (some (c + 1))), (1, aO (some a))] := rfl
  rw [hls]
  clear hls
  have l2 : ∀ (fuel : Nat) (t : Nat) (V1 : Nat → Nat → Int), (∀ q, q ≠ a + 1 → V1 q = V q) → (∀ j < 12, r32 (V1 (a + 1) j)) → (uv (V (a + 1)) 12 = uv (V1 (a + 1)) 12 * 2 ^ t) → 384 - t < fuel → Wk w d cd_X7_stripTwos 2 [(2, aI ((t : Int))), (0, aO (some (c + 1))), (1, aO (some a))] [] (hw h V1) (RI (fun x h1 => ∃ V1, h1 = hw h V1 ∧ ∃ t : Nat, x = t ∧ t < 384 ∧ (∀ q, q ≠ a + 1 → V1 q = V q) ∧ (∀ j < 12, r32 (V1 (a + 1) j)) ∧ uv (V (a + 1)) 12 = uv (V1 (a + 1)) 12 * 2 ^ t ∧ uv (V1 (a + 1)) 12 % 2 = 1)) := by
    intro fuel
    induction fuel with
    | zero => intros; omega
    | succ fuel ih2 =>
      intro t V1 hf hr hu hfuel
      have ht := strip_lt hp hu
      refine g_iload_n rfl rfl ?_
      refine g_sipush rfl ?_
      refine g_icmp_ge rfl (fun c6 => ?_) (fun c6 => ?_)
      · skip
        refine g_iload_n rfl rfl ?_
        refine g_iret rfl ?_
        exact ⟨V1, rfl, t, rfl, ht, hf, hr, hu, by omega⟩
      · skip
        refine g_aload_n rfl rfl ?_
        refine g_aload_n rfl rfl ?_
        refine g_callVI [aO (some a)] [] rfl rfl rfl rfl (Nat.le_of_ble_eq_true rfl) (cs.kd 1 (by omega) rfl) (x_isEven (by omega) cs V1 a wa) ?_
        rintro x1 _ ⟨rfl, rfl⟩
        refine g_b_eq rfl (fun c14 => ?_) (fun c14 => ?_)
        · skip
          refine g_iload_n rfl rfl ?_
          refine g_iret rfl ?_
          exact ⟨V1, rfl, t, rfl, ht, hf, hr, hu, by omega⟩
        · skip
          refine g_aload_n rfl rfl ?_
          refine g_aload_n rfl rfl ?_
          refine g_callVN [aO (some a)] [] rfl rfl rfl rfl (Nat.le_of_ble_eq_true rfl) (cs.kd 1 (by omega) rfl) (x_halve (by omega) cs V1 a wa) ?_
          rintro _ ⟨V2, rfl, u2⟩
          refine g_iinc (l1 := [(2, aI ((t : Int) + 1)), (0, aO (some (c + 1))), (1, aO (some a))]) rfl rfl (by omega) (by omega) rfl ?_
          refine g_goto rfl ?_
          exact ih2 (t + 1) V2 (by intro q hq; rw [u2.1 q hq, hf q hq]) (by exact u2.2.1) (by exact strip_step hu c14 u2.2.2) (by omega)
  refine g_iconst rfl ?_
  refine g_istore_n (l1 := [(2, aI 0), (0, aO (some (c + 1))), (1, aO (some a))]) rfl rfl ?_
  exact l2 _ 0 V (by intro q _; rfl) (by exact hr0) (by rw [Int.pow_zero, Int.mul_one]) (Nat.lt_succ_self _)
theorem set_uv {f g : Nat → Int} {n : Nat} (hn : n < 384) (h : (2 ^ (n + 1) : Int) ∣ uv f 12) (hg : ∀ m, m ≠ n / 32 → g m = f m) (hgk : g (n / 32) = ior (f (n / 32)) (ishl 1 ((n % 32 : Nat) : Int))) : uv g 12 = uv f 12 + 2 ^ n ∧ r32 (g (n / 32)) := by
  have hs := nat_pow_split (n := n) rfl
  have hd : (2 ^ (n % 32 + 1) * 4294967296 ^ (n / 32) : Int) ∣ uv f 12 := by
    rw [Int.pow_succ, hs] at h
    rw [Int.pow_succ]
    have e : (2 : Int) ^ (n % 32) * 2 * 4294967296 ^ (n / 32) = 2 ^ (n % 32) * 4294967296 ^ (n / 32) * 2 := by grind
    rw [e]
    exact h
  obtain ⟨h1, a, ha⟩ := uv_mult (show n / 32 < 12 by omega) (show n % 32 + 1 ≤ 32 by omega) hd
  have hl := set_limb (show n % 32 < 32 by omega) ha
  rw [hl] at hgk
  have hlt : 2 ^ (n % 32 + 1) * a + 2 ^ (n % 32) < 4294967296 := by
    have h3 : f (n / 32) % 4294967296 < 4294967296 := Int.emod_lt_of_pos _ (by decide)
    have h4 : (4294967296 : Nat) = 2 ^ (n % 32 + 1) * 2 ^ (31 - n % 32) := by rw [← Nat.pow_add, show n % 32 + 1 + (31 - n % 32) = 32 by omega]
    have h5 : a < 2 ^ (31 - n % 32) := by
      refine Nat.lt_of_mul_lt_mul_left (a := 2 ^ (n % 32 + 1)) ?_
      omega
    have h6 := Nat.mul_le_mul_left (2 ^ (n % 32 + 1)) (show a + 1 ≤ 2 ^ (31 - n % 32) by omega)
    rw [Nat.mul_add, Nat.mul_one, Nat.pow_succ] at h6
    have h7 := Nat.two_pow_pos (n % 32)
    rw [Nat.pow_succ] at h4 ⊢
    omega
  refine ⟨?_, by rw [hgk]; exact w32_r _⟩
  rw [uv_upd (show n / 32 < 12 by omega) hg, hgk, w32_mod, ha, hs]
  have hn0 : (0 : Int) ≤ ((2 ^ (n % 32 + 1) * a + 2 ^ (n % 32) : Nat) : Int) := Int.natCast_nonneg _
  rw [Int.emod_eq_of_lt hn0 (by omega), Int.natCast_add, Int.natCast_pow]
  rw [show ((2 ^ (n % 32 + 1) * a : Nat) : Int) + ((2 : Nat) : Int) ^ (n % 32) - ((2 ^ (n % 32 + 1) * a : Nat) : Int) = 2 ^ (n % 32) by show _ + (2 : Int) ^ _ - _ = _; omega]
theorem clear_uv {f g : Nat → Int} {n : Nat} (hn : n < 384) (h : ∃ q, uv f 12 = 2 ^ (n + 1) * q + 2 ^ n) (hg : ∀ m, m ≠ n / 32 → g m = f m) (hgk : g (n / 32) = iand (f (n / 32)) (ixor (ishl 1 ((n % 32 : Nat) : Int)) (-1))) : uv g 12 = uv f 12 - 2 ^ n ∧ r32 (g (n / 32)) := by
  have hs := nat_pow_split (n := n) rfl
  obtain ⟨q, hq⟩ := h
  have hd : (2 ^ (n % 32) * 4294967296 ^ (n / 32) : Int) ∣ uv f 12 := by
    rw [hq, ← hs, Int.pow_succ]
    exact ⟨2 * q + 1, by grind⟩
  obtain ⟨h1, a, ha⟩ := uv_mult (show n / 32 < 12 by omega) (show n % 32 ≤ 32 by omega) hd
  have hodd : a % 2 = 1 := by
    have e : (12 : Nat) = n / 32 + ((11 - n / 32) + 1) := by omega
    have h2 := uv_split f (n / 32) ((11 - n / 32) + 1)
    rw [← e, h1, uv_cons (fun j => f (n / 32 + j)) (11 - n / 32)] at h2
    have h3 : uv f 12 = 0 + (f (n / 32) % 4294967296 + 4294967296 * uv (fun j => f (n / 32 + (j + 1))) (11 - n / 32)) * 4294967296 ^ (n / 32) := h2
    have hB : (4294967296 : Int) = 2 ^ (n % 32) * 2 * 2 ^ (31 - n % 32) := by
      rw [← Int.pow_succ, ← Int.pow_add, show n % 32 + 1 + (31 - n % 32) = 32 by omega]
      decide
    rw [ha, hq, Int.pow_succ, hs] at h3
    generalize uv (fun j => f (n / 32 + (j + 1))) (11 - n / 32) = Y at *
    have hp := bp_pos (n / 32)
    have hr : (0 : Int) < 2 ^ (n % 32) := Int.pow_pos (by decide)
    have h4 : (2 ^ (n % 32) * 4294967296 ^ (n / 32) : Int) * (2 * q + 1) = (2 ^ (n % 32) * 4294967296 ^ (n / 32)) * ((a : Int) + 2 * 2 ^ (31 - n % 32) * Y) := by
      have h5 : (4294967296 : Int) * Y = 2 ^ (n % 32) * 2 * 2 ^ (31 - n % 32) * Y := by rw [← hB]
      rw [h5, Int.natCast_mul, Int.natCast_pow] at h3
      have h6 : ((2 : Nat) : Int) = 2 := rfl
      rw [h6] at h3
      generalize (4294967296 : Int) ^ (n / 32) = P at *
      generalize (2 : Int) ^ (n % 32) = R at *
      generalize (2 : Int) ^ (31 - n % 32) = T at *
      grind
    have h7 := Int.eq_of_mul_eq_mul_left (show (2 ^ (n % 32) * 4294967296 ^ (n / 32) : Int) ≠ 0 by have := Int.mul_pos hr hp; omega) h4
    rw [Int.mul_assoc] at h7
    omega
  have ha2 : f (n / 32) % 4294967296 = ((2 ^ (n % 32 + 1) * (a / 2) + 2 ^ (n % 32) : Nat) : Int) := by
    rw [ha]
    congr 1
    have e : a = 2 * (a / 2) + 1 := by omega
    rw [Nat.pow_succ, Nat.mul_assoc]
    have e2 : 2 ^ (n % 32) * a = 2 ^ (n % 32) * (2 * (a / 2) + 1) := by rw [← e]
    rw [e2, Nat.mul_add, Nat.mul_one]
  have hl := clear_limb (show n % 32 < 32 by omega) ha2
  rw [hl] at hgk
  refine ⟨?_, by rw [hgk]; exact w32_r _⟩
  have h3 : f (n / 32) % 4294967296 < 4294967296 := Int.emod_lt_of_pos _ (by decide)
  rw [uv_upd (show n / 32 < 12 by omega) hg, hgk, w32_mod, ha2, hs]
  rw [ha2] at h3
  have hn0 : (0 : Int) ≤ ((2 ^ (n % 32 + 1) * (a / 2) : Nat) : Int) := Int.natCast_nonneg _
  have hn1 : (0 : Int) ≤ ((2 ^ (n % 32) : Nat) : Int) := Int.natCast_nonneg _
  rw [Int.natCast_add] at h3
  rw [Int.emod_eq_of_lt hn0 (by omega), Int.natCast_add, Int.natCast_pow]
  rw [show ((2 ^ (n % 32 + 1) * (a / 2) : Nat) : Int) - (((2 ^ (n % 32 + 1) * (a / 2) : Nat) : Int) + ((2 : Nat) : Int) ^ (n % 32)) = -2 ^ (n % 32) by show _ - (_ + (2 : Int) ^ _) = _; omega, Int.neg_mul]
  omega
theorem x_setBit {w : aW} {d : Nat} (hd : 1 ≤ d) {h : aH} {c : Nat} (cs : CS h c) (V : Nat → Nat → Int) (a : Nat) (wa : WO h a) (n : Nat) (hn : n < 384) (hr0 : ∀ j < 12, r32 (V (a + 1) j)) (hdv : (2 ^ (n + 1) : Int) ∣ uv (V (a + 1)) 12) : WP w d 185 [aO (some (c + 1)), aO (some a), aI ((n : Int))] (hw h V) (RN (fun h1 => ∃ V1, h1 = hw h V1 ∧ UP V (a + 1) V1 (uv (V (a + 1)) 12 + 2 ^ n))) := by
  obtain ⟨d, rfl⟩ : ∃ d1, d = d1 + 1 := ⟨d - 1, by omega⟩
  refine WP.enter (cd := cd_X7_setBit) rfl ?_
  have hls : largs 0 [aO (some (c + 1)), aO (some a), aI ((n : Int))] = [(0, aO (some (c + 1))), (1, aO (some a)), (2, aI ((n : Int)))] := rfl
  rw [hls]
  clear hls
  refine g_iload_n rfl rfl ?_
  refine g_if_lt_f rfl (by omega) ?_
  refine g_iload_n rfl rfl ?_
  refine g_sipush rfl ?_
  refine g_icmp_ge_f rfl (by omega) ?_
  refine g_aload_n rfl rfl ?_
  refine g_getR rfl wa.1 wa.2.1 ?_
  refine g_iload_n rfl rfl ?_
  refine g_bipush rfl ?_
  refine g_idivN (m := 32) (n := n) rfl (by omega) (by omega) ?_
  refine g_dup2 rfl rfl rfl ?_
  refine g_iald (i := n / 32) rfl wa.2.2 (by omega) (by omega) ?_
  refine g_top (v2 := aI (V (a + 1) (n / 32))) (congrArg aI (by rfl)) ?_
  refine g_iconst rfl ?_
  refine g_iload_n rfl rfl ?_
  refine g_bipush rfl ?_
  refine g_iremN (m := 32) (n := n) rfl (by omega) ?_
  refine g_ishl rfl ?_
  refine g_ior rfl ?_
  refine g_iast (i := n / 32) rfl wa.2.2 (by omega) (by omega) ?_
  refine g_hp (h2 := hw h (vset V (a + 1) (n / 32) (ior (V (a + 1) (n / 32)) (ishl 1 (((n % 32 : Nat) : Int)))))) rfl ?_
  have kk := set_uv (g := vset V (a + 1) (n / 32) (ior (V (a + 1) (n / 32)) (ishl 1 ((n % 32 : Nat) : Int))) (a + 1)) hn hdv (fun m hm => vset_ne _ _ _ _ (by omega)) (vset_eq _ _ _ _)
  refine g_vret rfl ?_
  refine ⟨_, rfl, fun q hq => ?_, fun j hj => ?_, ?_⟩
  · funext j
    rw [vset_ne _ _ _ _ (by omega)]
  · by_cases e : j = n / 32
    · rw [e]; exact kk.2
    · rw [vset_ne _ _ _ _ (by omega)]; exact hr0 j hj
  · rw [kk.1]
    have hb := uv_b (vset V (a + 1) (n / 32) (ior (V (a + 1) (n / 32)) (ishl 1 ((n % 32 : Nat) : Int))) (a + 1)) 12
    rw [kk.1] at hb
    exact (Int.emod_eq_of_lt hb.1 hb.2).symm
theorem x_clearBit {w : aW} {d : Nat} (hd : 1 ≤ d) {h : aH} {c : Nat} (cs : CS h c) (V : Nat → Nat → Int) (a : Nat) (wa : WO h a) (n : Nat) (hn : n < 384) (hr0 : ∀ j < 12, r32 (V (a + 1) j)) (hdv : ∃ q, uv (V (a + 1)) 12 = 2 ^ (n + 1) * q + 2 ^ n) : WP w d 186 [aO (some (c + 1)), aO (some a), aI ((n : Int))] (hw h V) (RN (fun h1 => ∃ V1, h1 = hw h V1 ∧ UP V (a + 1) V1 (uv (V (a + 1)) 12 - 2 ^ n))) := by
  obtain ⟨d, rfl⟩ : ∃ d1, d = d1 + 1 := ⟨d - 1, by omega⟩
  refine WP.enter (cd := cd_X7_clearBit) rfl ?_
  have hls : largs 0 [aO (some (c + 1)), aO (some a), aI ((n : Int))] = [(0, aO (some (c + 1))), (1, aO (some a)), (2, aI ((n : Int)))] := rfl
  rw [hls]
  clear hls
  refine g_iload_n rfl rfl ?_
  refine g_if_lt_f rfl (by omega) ?_
  refine g_iload_n rfl rfl ?_
  refine g_sipush rfl ?_
  refine g_icmp_ge_f rfl (by omega) ?_
  refine g_aload_n rfl rfl ?_
  refine g_getR rfl wa.1 wa.2.1 ?_
  refine g_iload_n rfl rfl ?_
  refine g_bipush rfl ?_
  refine g_idivN (m := 32) (n := n) rfl (by omega) (by omega) ?_
  refine g_dup2 rfl rfl rfl ?_
  refine g_iald (i := n / 32) rfl wa.2.2 (by omega) (by omega) ?_
  refine g_top (v2 := aI (V (a + 1) (n / 32))) (congrArg aI (by rfl)) ?_
  refine g_iconst rfl ?_
  refine g_iload_n rfl rfl ?_
  refine g_bipush rfl ?_
  refine g_iremN (m := 32) (n := n) rfl (by omega) ?_
  refine g_ishl rfl ?_
  refine g_iconst rfl ?_
  refine g_ixor rfl ?_
  refine g_iand rfl ?_
  refine g_iast (i := n / 32) rfl wa.2.2 (by omega) (by omega) ?_
  refine g_hp (h2 := hw h (vset V (a + 1) (n / 32) (iand (V (a + 1) (n / 32)) (ixor (ishl 1 (((n % 32 : Nat) : Int))) ((-1)))))) rfl ?_
  have kk := clear_uv (g := vset V (a + 1) (n / 32) (iand (V (a + 1) (n / 32)) (ixor (ishl 1 ((n % 32 : Nat) : Int)) (-1))) (a + 1)) hn hdv (fun m hm => vset_ne _ _ _ _ (by omega)) (vset_eq _ _ _ _)
  refine g_vret rfl ?_
  refine ⟨_, rfl, fun q hq => ?_, fun j hj => ?_, ?_⟩
  · funext j
    rw [vset_ne _ _ _ _ (by omega)]
  · by_cases e : j = n / 32
    · rw [e]; exact kk.2
    · rw [vset_ne _ _ _ _ (by omega)]; exact hr0 j hj
  · rw [kk.1]
    have hb := uv_b (vset V (a + 1) (n / 32) (iand (V (a + 1) (n / 32)) (ixor (ishl 1 ((n % 32 : Nat) : Int)) (-1))) (a + 1)) 12
    rw [kk.1] at hb
    exact (Int.emod_eq_of_lt hb.1 hb.2).symm
