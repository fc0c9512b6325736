/-! the class's numbers: printed by wip/whole/s41.py -/
theorem lowF_b (n : Int) {d1 : Int} (h0 : d1 ≠ 0) : -(n.natAbs : Int) ≤ (lowF n d1).1 ∧ (lowF n d1).1 ≤ n.natAbs ∧ 0 ≤ (lowF n d1).2 ∧ (lowF n d1).2 ≤ d1.natAbs := by
  have hg := ed_low (n := n) h0
  have b1 := tdiv_le n hg
  have b2 := tdiv_le d1 hg
  have s1 : 0 ≤ d1 → 0 ≤ d1.tdiv (Int.gcd n d1) := fun u => Int.tdiv_nonneg u (by omega)
  have s2 : d1 < 0 → d1.tdiv (Int.gcd n d1) ≤ 0 := fun u => by have := Int.tdiv_nonneg (show 0 ≤ -d1 by omega) (show 0 ≤ (Int.gcd n d1 : Int) by omega); rw [Int.neg_tdiv] at this; omega
  unfold lowF
  split <;> simp only [] <;> omega
theorem gcd_half {a b : Nat} (hb : 0 < b) (hab : b ≤ a) : 2 * (b * (a % b)) ≤ a * b := by
  have h1 : 2 * (a % b) ≤ a := by
    have h2 := Nat.mod_lt a hb
    have h3 := Nat.div_add_mod a b
    have h4 : 0 < a / b := Nat.div_pos hab hb
    have h5 : b * 1 ≤ b * (a / b) := Nat.mul_le_mul_left b h4
    omega
  calc 2 * (b * (a % b)) = 2 * (a % b) * b := by rw [Nat.mul_comm b, Nat.mul_assoc]
    _ ≤ a * b := Nat.mul_le_mul_right b h1
theorem gcd_turn {a b t : Nat} (hb0 : 0 < b) (hb : b < 9223372036854775808) (ha : a < 9223372036854775808) (ht : t = 0 ∨ (b ≤ a ∧ a * b * 2 ^ t ≤ 2 ^ 127)) : t + 1 = 0 ∨ (a % b ≤ b ∧ b * (a % b) * 2 ^ (t + 1) ≤ 2 ^ 127) := by
  have hm := Nat.mod_lt a hb0
  refine Or.inr ⟨by omega, ?_⟩
  rcases ht with rfl | ⟨h1, h2⟩
  · have h3 : b * (a % b) ≤ b * b := Nat.mul_le_mul_left b (by omega)
    have h4 : b * b ≤ 9223372036854775808 * 9223372036854775808 := Nat.mul_le_mul (by omega) (by omega)
    omega
  · have h3 := gcd_half hb0 h1
    have h4 : b * (a % b) * 2 ^ (t + 1) = 2 * (b * (a % b)) * 2 ^ t := by rw [Nat.pow_succ]; ac_rfl
    rw [h4]
    exact Nat.le_trans (Nat.mul_le_mul_right _ h3) h2
theorem c_abs {w : aW} {d : Nat} (hd : 1 ≤ d) (x : Int) (hx : -9223372036854775808 < x ∧ x < 9223372036854775808) (h : aH) : WP w d 385 [aJ x] h (RJ (fun v h1 => h1 = h ∧ v = (x.natAbs : Int))) := by
  obtain ⟨d, rfl⟩ : ∃ d1, d = d1 + 1 := ⟨d - 1, by omega⟩
  refine WP.enter (cd := cd_J9_abs_067f4) rfl ?_
  have hls : largs 0 [aJ x] = [(0, aJ x)] := rfl
  rw [hls]
  clear hls
  refine g_lload_n rfl rfl ?_
  refine g_lconst0 rfl ?_
  refine g_lc_ge rfl rfl (fun c2 => ?_) (fun c2 => ?_)
  · skip
    refine g_lload_n rfl rfl ?_
    refine g_lret rfl ?_
    refine ⟨rfl, ?_⟩
    omega
  · skip
    refine g_lload_n rfl rfl ?_
    refine g_lneg2 rfl (by omega) (by omega) ?_
    refine g_goto rfl ?_
    refine g_lret rfl ?_
    refine ⟨rfl, ?_⟩
    omega
theorem c_gcd {w : aW} {d : Nat} (hd : 2 ≤ d) (x y : Int) (hx : -9223372036854775808 < x ∧ x < 9223372036854775808) (hy : -9223372036854775808 < y ∧ y < 9223372036854775808) (h : aH) : WP w d 24 [aJ x, aJ y] h (RJ (fun v h1 => h1 = h ∧ v = (Int.gcd x y : Int))) := by
  obtain ⟨d, rfl⟩ : ∃ d1, d = d1 + 1 := ⟨d - 1, by omega⟩
  refine WP.enter (cd := cd_X1_commonDivisor) rfl ?_
  have hls : largs 0 [aJ x, aJ y] = [(0, aJ x), (2, aJ y)] := rfl
  rw [hls]
  clear hls
  have l15 : ∀ (fuel : Nat) (t a b : Nat), Nat.gcd a b = Int.gcd x y → a < 9223372036854775808 → b < 9223372036854775808 → t = 0 ∨ (b ≤ a ∧ a * b * 2 ^ t ≤ 2 ^ 127) → t ≤ 200 → b < fuel → Wk w d cd_X1_commonDivisor 15 [(8, aI ((t : Int))), (6, aJ ((b : Int))), (4, aJ ((a : Int))), (0, aJ x), (2, aJ y)] [] h (RJ (fun v h1 => h1 = h ∧ v = (Int.gcd x y : Int))) := by
    intro fuel
    induction fuel with
    | zero => intros; omega
    | succ fuel ih15 =>
      intro t a b hab ha hb ht ht2 hfuel
      refine g_iload rfl rfl ?_
      refine g_sipush rfl ?_
      refine g_icmp_ge rfl (fun c20 => ?_) (fun c20 => ?_)
      · skip
        refine g_lload rfl rfl ?_
        refine g_lret rfl ?_
        refine ⟨rfl, ?_⟩
        by_cases hb0 : b = 0
        · rw [hb0] at hab
          rw [← hab, Nat.gcd_zero_right]
        · exfalso
          rcases ht with ht | ⟨hba, ht⟩
          · omega
          · have h200 : t = 200 := by omega
            have h1 : 1 ≤ a * b := Nat.mul_pos (by omega) (by omega)
            rw [h200] at ht
            have := Nat.mul_le_mul_right (2 ^ 200) h1
            have h3 : (2 : Nat) ^ 127 < 1 * 2 ^ 200 := by decide
            omega
      · skip
        refine g_lload rfl rfl ?_
        refine g_lconst0 rfl ?_
        refine g_lc_eq rfl rfl (fun c26 => ?_) (fun c26 => ?_)
        · skip
          refine g_lload rfl rfl ?_
          refine g_lret rfl ?_
          refine ⟨rfl, ?_⟩
          by_cases hb0 : b = 0
          · rw [hb0] at hab
            rw [← hab, Nat.gcd_zero_right]
          · exfalso
            rcases ht with ht | ⟨hba, ht⟩
            · omega
            · have h200 : t = 200 := by omega
              have h1 : 1 ≤ a * b := Nat.mul_pos (by omega) (by omega)
              rw [h200] at ht
              have := Nat.mul_le_mul_right (2 ^ 200) h1
              have h3 : (2 : Nat) ^ 127 < 1 * 2 ^ 200 := by decide
              omega
        · skip
          refine g_lload rfl rfl ?_
          refine g_lload rfl rfl ?_
          refine g_lrem rfl (by omega) ?_
          refine g_top (v2 := aJ (((a % b : Nat) : Int))) (congrArg aJ (by rw [Int.ofNat_tmod])) ?_
          refine g_lstore (l1 := [(9, aJ (((a % b : Nat) : Int))), (8, aI ((t : Int))), (6, aJ ((b : Int))), (4, aJ ((a : Int))), (0, aJ x), (2, aJ y)]) rfl rfl ?_
          refine g_lload rfl rfl ?_
          refine g_lstore (l1 := [(4, aJ ((b : Int))), (9, aJ (((a % b : Nat) : Int))), (8, aI ((t : Int))), (6, aJ ((b : Int))), (0, aJ x), (2, aJ y)]) rfl rfl ?_
          refine g_lload rfl rfl ?_
          refine g_lstore (l1 := [(6, aJ (((a % b : Nat) : Int))), (4, aJ ((b : Int))), (9, aJ (((a % b : Nat) : Int))), (8, aI ((t : Int))), (0, aJ x), (2, aJ y)]) rfl rfl ?_
          refine g_iinc (l1 := [(8, aI ((t : Int) + 1)), (6, aJ (((a % b : Nat) : Int))), (4, aJ ((b : Int))), (9, aJ (((a % b : Nat) : Int))), (0, aJ x), (2, aJ y)]) rfl rfl (by omega) (by omega) rfl ?_
          refine g_goto rfl ?_
          refine g_ls [0, 1, 2, 4, 5] rfl rfl ?_
          exact ih15 (t + 1) b (a % b) (by rw [← hab, Nat.gcd_comm a b, Nat.gcd_rec b a, Nat.gcd_comm]) (by omega) (by have := Nat.mod_lt a (show 0 < b by omega); omega) (by exact gcd_turn (by omega) hb ha ht) (by omega) (by have := Nat.mod_lt a (show 0 < b by omega); omega)
  refine g_lload_n rfl rfl ?_
  refine g_callSJ [aJ x] [] rfl rfl rfl rfl (Nat.le_of_ble_eq_true rfl) (c_abs (by omega) x (by omega) _) ?_
  rintro _ _ ⟨rfl, rfl⟩
  refine g_lstore (l1 := [(4, aJ ((x.natAbs : Int))), (0, aJ x), (2, aJ y)]) rfl rfl ?_
  refine g_lload_n rfl rfl ?_
  refine g_callSJ [aJ y] [] rfl rfl rfl rfl (Nat.le_of_ble_eq_true rfl) (c_abs (by omega) y (by omega) _) ?_
  rintro _ _ ⟨rfl, rfl⟩
  refine g_lstore (l1 := [(6, aJ ((y.natAbs : Int))), (4, aJ ((x.natAbs : Int))), (0, aJ x), (2, aJ y)]) rfl rfl ?_
  refine g_iconst rfl ?_
  refine g_istore (l1 := [(8, aI 0), (6, aJ ((y.natAbs : Int))), (4, aJ ((x.natAbs : Int))), (0, aJ x), (2, aJ y)]) rfl rfl ?_
  exact l15 _ 0 x.natAbs y.natAbs (by rfl) (by omega) (by omega) (by omega) (by omega) (Nat.lt_succ_self _)
theorem x_has {w : aW} {d : Nat} (hd : 1 ≤ d) {h : aH} {c : Nat} (cs : CS h c) (V : Nat → Nat → Int) (k : Nat) (hk : V (c + 3) 2 = k) (hk2 : k ≤ 200) (a : Int) : WP w d 20 [aO (some (c + 3)), aI a] (hw h V) (RI (fun x h1 => h1 = hw h V ∧ x = if 0 ≤ a ∧ a < k then 1 else 0)) := by
  obtain ⟨d, rfl⟩ : ∃ d1, d = d1 + 1 := ⟨d - 1, by omega⟩
  refine WP.enter (cd := cd_X1_has) rfl ?_
  have hls : largs 0 [aO (some (c + 3)), aI a] = [(0, aO (some (c + 3))), (1, aI a)] := rfl
  rw [hls]
  clear hls
  have j24 : Wk w d cd_X1_has 24 [(0, aO (some (c + 3))), (1, aI a)] [aI (if 0 ≤ a ∧ a < k then 1 else 0)] (hw h V) (RI (fun x h1 => h1 = hw h V ∧ x = if 0 ≤ a ∧ a < k then 1 else 0)) := by
    skip
    refine g_zret rfl (by exact bi_01 _) ?_
    exact ⟨rfl, rfl⟩
  refine g_iload_n rfl rfl ?_
  refine g_if_lt rfl (fun c1 => ?_) (fun c1 => ?_)
  · skip
    refine g_iconst rfl ?_
    refine g_top (v2 := aI (if 0 ≤ a ∧ a < k then 1 else 0)) (congrArg aI (bi_f (by omega))) ?_
    exact j24 
  · skip
    refine g_iload_n rfl rfl ?_
    refine g_aload_n rfl rfl ?_
    refine g_getI rfl (cs.kd 3 (by omega) rfl) ?_
    refine g_top (v2 := aI ((k : Int))) (congrArg aI (by show V (c + 3) 2 = ((k : Int)); rw [hk])) ?_
    refine g_icmp_ge rfl (fun c9 => ?_) (fun c9 => ?_)
    · skip
      refine g_iconst rfl ?_
      refine g_top (v2 := aI (if 0 ≤ a ∧ a < k then 1 else 0)) (congrArg aI (bi_f (by omega))) ?_
      exact j24 
    · skip
      refine g_iload_n rfl rfl ?_
      refine g_sipush rfl ?_
      refine g_icmp_ge rfl (fun c16 => ?_) (fun c16 => ?_)
      · skip
        refine g_iconst rfl ?_
        refine g_top (v2 := aI (if 0 ≤ a ∧ a < k then 1 else 0)) (congrArg aI (bi_f (by omega))) ?_
        exact j24 
      · skip
        refine g_iconst rfl ?_
        refine g_goto rfl ?_
        refine g_top (v2 := aI (if 0 ≤ a ∧ a < k then 1 else 0)) (congrArg aI (bi_t (by omega))) ?_
        exact j24 
theorem x_upOf {w : aW} {d : Nat} (hd : 2 ≤ d) {h : aH} {c : Nat} (cs : CS h c) (V : Nat → Nat → Int) (k : Nat) (hk : V (c + 3) 2 = k) (hk2 : k ≤ 200) (a : Int) : WP w d 21 [aO (some (c + 3)), aI a] (hw h V) (RJ (fun x h1 => h1 = hw h V ∧ x = if 0 ≤ a ∧ a < k then V (c + 4) a.toNat else 0)) := by
  obtain ⟨d, rfl⟩ : ∃ d1, d = d1 + 1 := ⟨d - 1, by omega⟩
  refine WP.enter (cd := cd_X1_upOf) rfl ?_
  have hls : largs 0 [aO (some (c + 3)), aI a] = [(0, aO (some (c + 3))), (1, aI a)] := rfl
  rw [hls]
  clear hls
  refine g_aload_n rfl rfl ?_
  refine g_iload_n rfl rfl ?_
  refine g_callVI [aI a] [] rfl rfl rfl rfl (Nat.le_of_ble_eq_true rfl) (cs.kd 3 (by omega) rfl) (x_has (by omega) cs V k hk hk2 a) ?_
  rintro _ _ ⟨rfl, rfl⟩
  refine g_b_eq rfl (fun c5 => ?_) (fun c5 => ?_)
  · skip
    refine g_lconst0 rfl ?_
    refine g_lret rfl ?_
    refine ⟨rfl, ?_⟩
    first | exact (if_pos (by assumption)).symm | exact (if_neg (by assumption)).symm
  · skip
    refine g_aload_n rfl rfl ?_
    refine g_getR rfl (cs.kd 3 (by omega) rfl) (cs.rf 2 (by omega) rfl) ?_
    refine g_iload_n rfl rfl ?_
    refine g_lald (i := a.toNat) rfl (cs.ar 4 (by omega) rfl) (by omega) (by omega) ?_
    refine g_goto rfl ?_
    refine g_lret rfl ?_
    refine ⟨rfl, ?_⟩
    first | exact (if_pos (by assumption)).symm | exact (if_neg (by assumption)).symm
theorem x_downOf {w : aW} {d : Nat} (hd : 2 ≤ d) {h : aH} {c : Nat} (cs : CS h c) (V : Nat → Nat → Int) (k : Nat) (hk : V (c + 3) 2 = k) (hk2 : k ≤ 200) (a : Int) : WP w d 22 [aO (some (c + 3)), aI a] (hw h V) (RJ (fun x h1 => h1 = hw h V ∧ x = if 0 ≤ a ∧ a < k then V (c + 5) a.toNat else 1)) := by
  obtain ⟨d, rfl⟩ : ∃ d1, d = d1 + 1 := ⟨d - 1, by omega⟩
  refine WP.enter (cd := cd_X1_downOf) rfl ?_
  have hls : largs 0 [aO (some (c + 3)), aI a] = [(0, aO (some (c + 3))), (1, aI a)] := rfl
  rw [hls]
  clear hls
  refine g_aload_n rfl rfl ?_
  refine g_iload_n rfl rfl ?_
  refine g_callVI [aI a] [] rfl rfl rfl rfl (Nat.le_of_ble_eq_true rfl) (cs.kd 3 (by omega) rfl) (x_has (by omega) cs V k hk hk2 a) ?_
  rintro _ _ ⟨rfl, rfl⟩
  refine g_b_eq rfl (fun c5 => ?_) (fun c5 => ?_)
  · skip
    refine g_lconst1 rfl ?_
    refine g_lret rfl ?_
    refine ⟨rfl, ?_⟩
    first | exact (if_pos (by assumption)).symm | exact (if_neg (by assumption)).symm
  · skip
    refine g_aload_n rfl rfl ?_
    refine g_getR rfl (cs.kd 3 (by omega) rfl) (cs.rf 3 (by omega) rfl) ?_
    refine g_iload_n rfl rfl ?_
    refine g_lald (i := a.toNat) rfl (cs.ar 5 (by omega) rfl) (by omega) (by omega) ?_
    refine g_goto rfl ?_
    refine g_lret rfl ?_
    refine ⟨rfl, ?_⟩
    first | exact (if_pos (by assumption)).symm | exact (if_neg (by assumption)).symm
theorem x_reduce {w : aW} {d : Nat} (hd : 3 ≤ d) {h : aH} {c : Nat} (cs : CS h c) (V : Nat → Nat → Int) (n d1 : Int) (hn : -9223372036854775808 ≤ n ∧ n < 9223372036854775808) (hd1 : -9223372036854775808 ≤ d1 ∧ d1 < 9223372036854775808) : WP w d 23 [aO (some (c + 3)), aJ n, aJ d1] (hw h V) (RI (fun x h1 => if n = -9223372036854775808 ∨ d1 = -9223372036854775808 ∨ d1 = 0 then h1 = hw h V ∧ x = 0 else h1 = hw h (vset (vset V (c + 3) 3 (lowF n d1).1) (c + 3) 4 (lowF n d1).2) ∧ x = if smallF (lowF n d1) = true then 1 else 0)) := by
  obtain ⟨d, rfl⟩ : ∃ d1, d = d1 + 1 := ⟨d - 1, by omega⟩
  refine WP.enter (cd := cd_X1_reduce) rfl ?_
  have hls : largs 0 [aO (some (c + 3)), aJ n, aJ d1] = [(0, aO (some (c + 3))), (1, aJ n), (3, aJ d1)] := rfl
  rw [hls]
  clear hls
  have j103 : ∀ (hok : ¬(n = -9223372036854775808 ∨ d1 = -9223372036854775808 ∨ d1 = 0)), Wk w d cd_X1_reduce 103 [(0, aO (some (c + 3))), (1, aJ n), (3, aJ d1)] [aI (if smallF (lowF n d1) = true then 1 else 0)] (hw h (vset (vset V (c + 3) 3 (lowF n d1).1) (c + 3) 4 (lowF n d1).2)) (RI (fun x h1 => if n = -9223372036854775808 ∨ d1 = -9223372036854775808 ∨ d1 = 0 then h1 = hw h V ∧ x = 0 else h1 = hw h (vset (vset V (c + 3) 3 (lowF n d1).1) (c + 3) 4 (lowF n d1).2) ∧ x = if smallF (lowF n d1) = true then 1 else 0)) := by
    intro hok
    refine g_zret rfl (by omega) ?_
    first
      | (rw [if_neg hok]; exact ⟨rfl, rfl⟩)
      | (rw [if_pos (by omega)]; exact ⟨rfl, rfl⟩)
  refine g_lload_n rfl rfl ?_
  refine g_ldc2 rfl ?_
  refine g_lc_eq rfl rfl (fun c4 => ?_) (fun c4 => ?_)
  · skip
    refine g_iconst rfl ?_
    refine g_zret rfl (by omega) ?_
    first
      | (rw [if_neg hok]; exact ⟨rfl, rfl⟩)
      | (rw [if_pos (by omega)]; exact ⟨rfl, rfl⟩)
  · skip
    refine g_lload_n rfl rfl ?_
    refine g_ldc2 rfl ?_
    refine g_lc_eq rfl rfl (fun c12 => ?_) (fun c12 => ?_)
    · skip
      refine g_iconst rfl ?_
      refine g_zret rfl (by omega) ?_
      first
        | (rw [if_neg hok]; exact ⟨rfl, rfl⟩)
        | (rw [if_pos (by omega)]; exact ⟨rfl, rfl⟩)
    · skip
      refine g_lload_n rfl rfl ?_
      refine g_lconst0 rfl ?_
      refine g_lc_ne rfl rfl (fun c18 => ?_) (fun c18 => ?_)
      · skip
        have h0 : d1 ≠ 0 := by omega
        have hg := ed_low (n := n) h0
        have b1 := tdiv_le n hg
        have b2 := tdiv_le d1 hg
        have e1 : w64 (n.tdiv (Int.gcd n d1)) = n.tdiv (Int.gcd n d1) := w64_id (by unfold r64; omega)
        have e2 : w64 (d1.tdiv (Int.gcd n d1)) = d1.tdiv (Int.gcd n d1) := w64_id (by unfold r64; omega)
        have e3 : w64 (-(n.tdiv (Int.gcd n d1))) = -(n.tdiv (Int.gcd n d1)) := w64_id (by unfold r64; omega)
        have hlb := lowF_b n h0
        have s1 : 0 ≤ d1 → 0 ≤ d1.tdiv (Int.gcd n d1) := fun u => Int.tdiv_nonneg u (by omega)
        have s2 : d1 < 0 → d1.tdiv (Int.gcd n d1) ≤ 0 := fun u => by have := Int.tdiv_nonneg (show 0 ≤ -d1 by omega) (show 0 ≤ (Int.gcd n d1 : Int) by omega); rw [Int.neg_tdiv] at this; omega
        refine g_lload_n rfl rfl ?_
        refine g_lload_n rfl rfl ?_
        refine g_callSJ [aJ n, aJ d1] [] rfl rfl rfl rfl (Nat.le_of_ble_eq_true rfl) (c_gcd (by omega) n d1 (by omega) (by omega) _) ?_
        rintro _ _ ⟨rfl, rfl⟩
        refine g_lstore (l1 := [(5, aJ ((Int.gcd n d1 : Int))), (0, aO (some (c + 3))), (1, aJ n), (3, aJ d1)]) rfl rfl ?_
        refine g_lload rfl rfl ?_
        refine g_lconst0 rfl ?_
        refine g_lc_ne_t rfl rfl (by omega) ?_
        refine g_aload_n rfl rfl ?_
        refine g_lload_n rfl rfl ?_
        refine g_lconst0 rfl ?_
        refine g_lc_ge rfl rfl (fun c43 => ?_) (fun c43 => ?_)
        · skip
          refine g_lload_n rfl rfl ?_
          refine g_lload rfl rfl ?_
          refine g_ldiv rfl (by omega) ?_
          refine g_top (v2 := aJ ((lowF n d1).1)) (congrArg aJ (by first | rfl | (unfold lowF; rw [if_neg (by omega)]; exact e1))) ?_
          refine g_putJ rfl (cs.kd 3 (by omega) rfl) ?_
          refine g_aload_n rfl rfl ?_
          refine g_lload_n rfl rfl ?_
          refine g_lload rfl rfl ?_
          refine g_ldiv rfl (by omega) ?_
          refine g_top (v2 := aJ (d1.tdiv (Int.gcd n d1))) (congrArg aJ (by exact e2)) ?_
          refine g_callSJ [aJ (d1.tdiv (Int.gcd n d1))] [aO (some (c + 3))] rfl rfl rfl rfl (Nat.le_of_ble_eq_true rfl) (c_abs (by omega) (d1.tdiv (Int.gcd n d1)) (by omega) _) ?_
          rintro _ _ ⟨rfl, rfl⟩
          refine g_top (v2 := aJ ((lowF n d1).2)) (congrArg aJ (by unfold lowF; split <;> (show _ = _) <;> simp only [] <;> omega)) ?_
          refine g_putJ rfl (cs.kd 3 (by omega) rfl) ?_
          refine g_aload_n rfl rfl ?_
          refine g_getJ rfl (cs.kd 3 (by omega) rfl) ?_
          refine g_top (v2 := aJ ((lowF n d1).1)) (congrArg aJ (by show (vset ((vset V (c + 3) 3 ((lowF n d1).1))) (c + 3) 4 ((lowF n d1).2)) (c + 3) 3 = ((lowF n d1).1); rw [vset_ne _ _ _ _ (by omega), vset_eq])) ?_
          refine g_callSJ [aJ ((lowF n d1).1)] [] rfl rfl rfl rfl (Nat.le_of_ble_eq_true rfl) (c_abs (by omega) ((lowF n d1).1) (by omega) _) ?_
          rintro _ _ ⟨rfl, rfl⟩
          refine g_ldc2 rfl ?_
          refine g_lc_gt rfl rfl (fun c83 => ?_) (fun c83 => ?_)
          · skip
            refine g_iconst rfl ?_
            refine g_top (v2 := aI (if smallF (lowF n d1) = true then 1 else 0)) (congrArg aI (bi_f (by rw [smallF_iff]; omega))) ?_
            refine g_ls [1, 2, 3] rfl rfl ?_
            exact j103 (by omega)
          · skip
            refine g_aload_n rfl rfl ?_
            refine g_getJ rfl (cs.kd 3 (by omega) rfl) ?_
            refine g_top (v2 := aJ ((lowF n d1).2)) (congrArg aJ (by show ((vset ((vset V (c + 3) 3 ((lowF n d1).1))) (c + 3) 4 ((lowF n d1).2))) (c + 3) 4 = ((lowF n d1).2); rw [vset_eq])) ?_
            refine g_ldc2 rfl ?_
            refine g_lc_gt rfl rfl (fun c94 => ?_) (fun c94 => ?_)
            · skip
              refine g_iconst rfl ?_
              refine g_top (v2 := aI (if smallF (lowF n d1) = true then 1 else 0)) (congrArg aI (bi_f (by rw [smallF_iff]; omega))) ?_
              refine g_ls [1, 2, 3] rfl rfl ?_
              exact j103 (by omega)
            · skip
              refine g_iconst rfl ?_
              refine g_goto rfl ?_
              refine g_top (v2 := aI (if smallF (lowF n d1) = true then 1 else 0)) (congrArg aI (bi_t (by rw [smallF_iff]; omega))) ?_
              refine g_ls [1, 2, 3] rfl rfl ?_
              exact j103 (by omega)
        · skip
          refine g_lload_n rfl rfl ?_
          refine g_lload rfl rfl ?_
          refine g_ldiv rfl (by omega) ?_
          refine g_lneg rfl ?_
          refine g_top (v2 := aJ ((lowF n d1).1)) (congrArg aJ (by unfold lowF; rw [if_pos (by omega), e1]; exact e3)) ?_
          refine g_goto rfl ?_
          refine g_top (v2 := aJ ((lowF n d1).1)) (congrArg aJ (by first | rfl | (unfold lowF; rw [if_neg (by omega)]; exact e1))) ?_
          refine g_putJ rfl (cs.kd 3 (by omega) rfl) ?_
          refine g_aload_n rfl rfl ?_
          refine g_lload_n rfl rfl ?_
          refine g_lload rfl rfl ?_
          refine g_ldiv rfl (by omega) ?_
          refine g_top (v2 := aJ (d1.tdiv (Int.gcd n d1))) (congrArg aJ (by exact e2)) ?_
          refine g_callSJ [aJ (d1.tdiv (Int.gcd n d1))] [aO (some (c + 3))] rfl rfl rfl rfl (Nat.le_of_ble_eq_true rfl) (c_abs (by omega) (d1.tdiv (Int.gcd n d1)) (by omega) _) ?_
          rintro _ _ ⟨rfl, rfl⟩
          refine g_top (v2 := aJ ((lowF n d1).2)) (congrArg aJ (by unfold lowF; split <;> (show _ = _) <;> simp only [] <;> omega)) ?_
          refine g_putJ rfl (cs.kd 3 (by omega) rfl) ?_
          refine g_aload_n rfl rfl ?_
          refine g_getJ rfl (cs.kd 3 (by omega) rfl) ?_
          refine g_top (v2 := aJ ((lowF n d1).1)) (congrArg aJ (by show (vset ((vset V (c + 3) 3 ((lowF n d1).1))) (c + 3) 4 ((lowF n d1).2)) (c + 3) 3 = ((lowF n d1).1); rw [vset_ne _ _ _ _ (by omega), vset_eq])) ?_
          refine g_callSJ [aJ ((lowF n d1).1)] [] rfl rfl rfl rfl (Nat.le_of_ble_eq_true rfl) (c_abs (by omega) ((lowF n d1).1) (by omega) _) ?_
          rintro _ _ ⟨rfl, rfl⟩
          refine g_ldc2 rfl ?_
          refine g_lc_gt rfl rfl (fun c83 => ?_) (fun c83 => ?_)
          · skip
            refine g_iconst rfl ?_
            refine g_top (v2 := aI (if smallF (lowF n d1) = true then 1 else 0)) (congrArg aI (bi_f (by rw [smallF_iff]; omega))) ?_
            refine g_ls [1, 2, 3] rfl rfl ?_
            exact j103 (by omega)
          · skip
            refine g_aload_n rfl rfl ?_
            refine g_getJ rfl (cs.kd 3 (by omega) rfl) ?_
            refine g_top (v2 := aJ ((lowF n d1).2)) (congrArg aJ (by show ((vset ((vset V (c + 3) 3 ((lowF n d1).1))) (c + 3) 4 ((lowF n d1).2))) (c + 3) 4 = ((lowF n d1).2); rw [vset_eq])) ?_
            refine g_ldc2 rfl ?_
            refine g_lc_gt rfl rfl (fun c94 => ?_) (fun c94 => ?_)
            · skip
              refine g_iconst rfl ?_
              refine g_top (v2 := aI (if smallF (lowF n d1) = true then 1 else 0)) (congrArg aI (bi_f (by rw [smallF_iff]; omega))) ?_
              refine g_ls [1, 2, 3] rfl rfl ?_
              exact j103 (by omega)
            · skip
              refine g_iconst rfl ?_
              refine g_goto rfl ?_
              refine g_top (v2 := aI (if smallF (lowF n d1) = true then 1 else 0)) (congrArg aI (bi_t (by rw [smallF_iff]; omega))) ?_
              refine g_ls [1, 2, 3] rfl rfl ?_
              exact j103 (by omega)
      · skip
        refine g_iconst rfl ?_
        refine g_zret rfl (by omega) ?_
        first
          | (rw [if_neg hok]; exact ⟨rfl, rfl⟩)
          | (rw [if_pos (by omega)]; exact ⟨rfl, rfl⟩)
def xLow (c : Nat) (V : Nat → Nat → Int) (n d1 : Int) : Nat → Nat → Int := vset (vset V (c + 3) 3 (lowF n d1).1) (c + 3) 4 (lowF n d1).2
/-- what the class does with a fraction brought down -/
def xKeep (c k : Nat) (V : Nat → Nat → Int) (p : Int × Int) : Nat → Nat → Int := vset (vset (vset V (c + 4) k p.1) (c + 5) k p.2) (c + 3) 2 (k + 1)
def badF (n d1 : Int) : Bool := decide (n = -9223372036854775808) || (decide (d1 = -9223372036854775808) || decide (d1 = 0))
theorem badF_iff (n d1 : Int) : badF n d1 = true ↔ n = -9223372036854775808 ∨ d1 = -9223372036854775808 ∨ d1 = 0 := by simp [badF]
theorem badF_no {n d1 : Int} (h : badF n d1 = false) : ¬(n = -9223372036854775808 ∨ d1 = -9223372036854775808 ∨ d1 = 0) := by
  rw [← badF_iff]; simp [h]
theorem x_keep {w : aW} {d : Nat} (hd : 4 ≤ d) {h : aH} {c : Nat} (cs : CS h c) (V : Nat → Nat → Int) (k : Nat) (hk : V (c + 3) 2 = k) (hk2 : k ≤ 200) (n d1 : Int) (hn : -9223372036854775808 ≤ n ∧ n < 9223372036854775808) (hd1 : -9223372036854775808 ≤ d1 ∧ d1 < 9223372036854775808) : WP w d 25 [aO (some (c + 3)), aJ n, aJ d1] (hw h V) (RI (fun x h1 => if badF n d1 = true then h1 = hw h V ∧ x = -4 else if smallF (lowF n d1) = true ∧ k < 200 then h1 = hw h (xKeep c k (xLow c V n d1) (lowF n d1)) ∧ x = k else h1 = hw h (xLow c V n d1) ∧ x = -4)) := by
  obtain ⟨d, rfl⟩ : ∃ d1, d = d1 + 1 := ⟨d - 1, by omega⟩
  refine WP.enter (cd := cd_X1_keep) rfl ?_
  have hls : largs 0 [aO (some (c + 3)), aJ n, aJ d1] = [(0, aO (some (c + 3))), (1, aJ n), (3, aJ d1)] := rfl
  rw [hls]
  clear hls
  refine g_aload_n rfl rfl ?_
  refine g_lload_n rfl rfl ?_
  refine g_lload_n rfl rfl ?_
  refine g_callVI [aJ n, aJ d1] [] rfl rfl rfl rfl (Nat.le_of_ble_eq_true rfl) (cs.kd 3 (by omega) rfl) (x_reduce (by omega) cs V n d1 hn hd1) ?_
  intro x h2 q
  by_cases hbad : badF n d1 = true
  · rw [if_pos ((badF_iff n d1).mp hbad)] at q
    obtain ⟨rfl, rfl⟩ := q
    refine g_if_eq_t rfl rfl ?_
    refine g_bipush rfl ?_
    refine g_iret rfl ?_
    rw [if_pos hbad]
    exact ⟨rfl, rfl⟩
  rw [if_neg (fun u => hbad ((badF_iff n d1).mpr u))] at q
  obtain ⟨rfl, rfl⟩ := q
  refine g_hp (h2 := hw h (xLow c V n d1)) rfl ?_
  refine g_b_eq rfl (fun c6 => ?_) (fun c6 => ?_)
  · skip
    refine g_bipush rfl ?_
    refine g_iret rfl ?_
    rw [if_neg hbad, if_neg (by intro u; first | exact absurd u.1 (by assumption) | omega)]
    exact ⟨rfl, rfl⟩
  · skip
    refine g_aload_n rfl rfl ?_
    refine g_getI rfl (cs.kd 3 (by omega) rfl) ?_
    refine g_top (v2 := aI ((k : Int))) (congrArg aI (by show (xLow c V n d1) (c + 3) 2 = ((k : Int)); rw [(show xLow c V n d1 (c + 3) 2 = (k : Int) by unfold xLow; rw [vset_ne _ _ _ _ (by omega), vset_ne _ _ _ _ (by omega)]; exact hk)])) ?_
    refine g_if_lt_f rfl (by omega) ?_
    refine g_aload_n rfl rfl ?_
    refine g_getI rfl (cs.kd 3 (by omega) rfl) ?_
    refine g_top (v2 := aI ((k : Int))) (congrArg aI (by show (xLow c V n d1) (c + 3) 2 = ((k : Int)); rw [(show xLow c V n d1 (c + 3) 2 = (k : Int) by unfold xLow; rw [vset_ne _ _ _ _ (by omega), vset_ne _ _ _ _ (by omega)]; exact hk)])) ?_
    refine g_sipush rfl ?_
    refine g_icmp_lt rfl (fun c23 => ?_) (fun c23 => ?_)
    · skip
      refine g_aload_n rfl rfl ?_
      refine g_getR rfl (cs.kd 3 (by omega) rfl) (cs.rf 2 (by omega) rfl) ?_
      refine g_aload_n rfl rfl ?_
      refine g_getI rfl (cs.kd 3 (by omega) rfl) ?_
      refine g_top (v2 := aI ((k : Int))) (congrArg aI (by show (xLow c V n d1) (c + 3) 2 = ((k : Int)); rw [(show xLow c V n d1 (c + 3) 2 = (k : Int) by unfold xLow; rw [vset_ne _ _ _ _ (by omega), vset_ne _ _ _ _ (by omega)]; exact hk)])) ?_
      refine g_aload_n rfl rfl ?_
      refine g_getJ rfl (cs.kd 3 (by omega) rfl) ?_
      refine g_top (v2 := aJ ((lowF n d1).1)) (congrArg aJ (by show (xLow c V n d1) (c + 3) 3 = ((lowF n d1).1); rw [(show xLow c V n d1 (c + 3) 3 = (lowF n d1).1 by unfold xLow; rw [vset_ne _ _ _ _ (by omega), vset_eq])])) ?_
      refine g_last (i := k) rfl (cs.ar 4 (by omega) rfl) (by omega) (by omega) ?_
      refine g_aload_n rfl rfl ?_
      refine g_getR rfl (cs.kd 3 (by omega) rfl) (cs.rf 3 (by omega) rfl) ?_
      refine g_aload_n rfl rfl ?_
      refine g_getI rfl (cs.kd 3 (by omega) rfl) ?_
      refine g_top (v2 := aI ((k : Int))) (congrArg aI (by show (vset (xLow c V n d1) (c + 4) k ((lowF n d1).1)) (c + 3) 2 = ((k : Int)); rw [vset_ne _ _ _ _ (by omega), (show xLow c V n d1 (c + 3) 2 = (k : Int) by unfold xLow; rw [vset_ne _ _ _ _ (by omega), vset_ne _ _ _ _ (by omega)]; exact hk)])) ?_
      refine g_aload_n rfl rfl ?_
      refine g_getJ rfl (cs.kd 3 (by omega) rfl) ?_
      refine g_top (v2 := aJ ((lowF n d1).2)) (congrArg aJ (by show (vset (xLow c V n d1) (c + 4) k ((lowF n d1).1)) (c + 3) 4 = ((lowF n d1).2); rw [vset_ne _ _ _ _ (by omega), (show xLow c V n d1 (c + 3) 4 = (lowF n d1).2 by unfold xLow; rw [vset_eq])])) ?_
      refine g_last (i := k) rfl (cs.ar 5 (by omega) rfl) (by omega) (by omega) ?_
      refine g_aload_n rfl rfl ?_
      refine g_dup rfl rfl ?_
      refine g_getI rfl (cs.kd 3 (by omega) rfl) ?_
      refine g_top (v2 := aI ((k : Int))) (congrArg aI (by show (vset (vset (xLow c V n d1) (c + 4) k ((lowF n d1).1)) (c + 5) k ((lowF n d1).2)) (c + 3) 2 = ((k : Int)); rw [vset_ne _ _ _ _ (by omega), vset_ne _ _ _ _ (by omega), (show xLow c V n d1 (c + 3) 2 = (k : Int) by unfold xLow; rw [vset_ne _ _ _ _ (by omega), vset_ne _ _ _ _ (by omega)]; exact hk)])) ?_
      refine g_iconst rfl ?_
      refine g_iadd rfl (by omega) (by omega) ?_
      refine g_putI rfl (cs.kd 3 (by omega) rfl) ?_
      refine g_aload_n rfl rfl ?_
      refine g_getI rfl (cs.kd 3 (by omega) rfl) ?_
      refine g_top (v2 := aI (((k : Int)) + 1)) (congrArg aI (by show (vset (vset (vset (xLow c V n d1) (c + 4) k ((lowF n d1).1)) (c + 5) k ((lowF n d1).2)) (c + 3) 2 (((k : Int)) + 1)) (c + 3) 2 = (((k : Int)) + 1); rw [vset_eq])) ?_
      refine g_iconst rfl ?_
      refine g_isub rfl (by omega) (by omega) ?_
      refine g_iret rfl ?_
      rw [if_neg hbad, if_pos ⟨by assumption, by omega⟩]
      exact ⟨rfl, by omega⟩
    · skip
      refine g_bipush rfl ?_
      refine g_iret rfl ?_
      rw [if_neg hbad, if_neg (by intro u; first | exact absurd u.1 (by assumption) | omega)]
      exact ⟨rfl, rfl⟩
