/-! the class's roots: printed by wip/whole/s76.py -/
theorem lor_bit {r k : Nat} (hk : k ≤ 60) (hr : r < 9223372036854775808) (hm : r % 2 ^ (k + 1) = 0) : lor (r : Int) ((2 ^ k : Nat) : Int) = ((r + 2 ^ k : Nat) : Int) := by
  have hp : 2 ^ k ≤ 2 ^ 60 := Nat.pow_le_pow_right (by decide) hk
  rw [lor_nat (by omega) (by omega)]
  have e : 2 ^ (k + 1) * (r / 2 ^ (k + 1)) = r := by
    have := Nat.div_add_mod r (2 ^ (k + 1))
    omega
  have h := Nat.two_pow_add_eq_or_of_lt (i := k + 1) (b := 2 ^ k) (by rw [Nat.pow_succ]; have := Nat.two_pow_pos k; omega) (r / 2 ^ (k + 1))
  rw [e] at h
  rw [h]
theorem lshl_one {i : Int} (hi : 0 ≤ i ∧ i ≤ 60) : lshl 1 i = ((2 ^ i.toNat : Nat) : Int) := by
  have hp : 2 ^ i.toNat ≤ 2 ^ 60 := Nat.pow_le_pow_right (by decide) (by omega)
  unfold lshl
  have e : (i % 64).toNat = i.toNat := by omega
  rw [e, Int.one_mul]
  have e2 : (2 : Int) ^ i.toNat = ((2 ^ i.toNat : Nat) : Int) := by norm_cast
  rw [e2]
  have h0 : (0 : Int) ≤ ((2 ^ i.toNat : Nat) : Int) := Int.natCast_nonneg _
  apply w64_id
  unfold r64
  omega
def rtS : Nat → Nat → Int → Nat
  | 0, r, _ => r
  | k + 1, r, v => rtS k (if ((r + 2 ^ k : Nat) : Int) * ((r + 2 ^ k : Nat) : Int) ≤ v then r + 2 ^ k else r) v
def rtF (v : Int) : Nat := rtS 16 0 v
theorem rt_a {i v : Int} {r : Nat} (hi : 0 ≤ i) (h : ((r + 2 ^ i.toNat : Nat) : Int) * ((r + 2 ^ i.toNat : Nat) : Int) ≤ v) : rtS (i + 1).toNat r v = rtS (i + -1 + 1).toNat (r + 2 ^ i.toNat) v := by
  rw [show (i + 1).toNat = i.toNat + 1 by omega, show (i + -1 + 1).toNat = i.toNat by omega]
  show rtS i.toNat (if _ then _ else _) v = _
  rw [if_pos h]
theorem rt_b {i v : Int} {r : Nat} (hi : 0 ≤ i) (h : ¬ ((r + 2 ^ i.toNat : Nat) : Int) * ((r + 2 ^ i.toNat : Nat) : Int) ≤ v) : rtS (i + 1).toNat r v = rtS (i + -1 + 1).toNat r v := by
  rw [show (i + 1).toNat = i.toNat + 1 by omega, show (i + -1 + 1).toNat = i.toNat by omega]
  show rtS i.toNat (if _ then _ else _) v = _
  rw [if_neg h]
theorem rt_m {i : Int} {r : Nat} (hi : 0 ≤ i) (h : r % 2 ^ (i + 1).toNat = 0) : (r + 2 ^ i.toNat) % 2 ^ (i + -1 + 1).toNat = 0 ∧ r % 2 ^ (i + -1 + 1).toNat = 0 := by
  rw [show (i + -1 + 1).toNat = i.toNat by omega]
  rw [show (i + 1).toNat = i.toNat + 1 by omega] at h
  have h1 : 2 ^ (i.toNat + 1) ∣ r := Nat.dvd_of_mod_eq_zero h
  have h2 : 2 ^ i.toNat ∣ r := Nat.dvd_trans ⟨2, Nat.pow_succ ..⟩ h1
  exact ⟨Nat.mod_eq_zero_of_dvd (Nat.dvd_add h2 (Nat.dvd_refl _)), Nat.mod_eq_zero_of_dvd h2⟩
theorem rt_s {i : Int} {r : Nat} (hi : 0 ≤ i) (h : r + 2 ^ (i + 1).toNat ≤ 65536) : (r + 2 ^ i.toNat) + 2 ^ (i + -1 + 1).toNat ≤ 65536 ∧ r + 2 ^ (i + -1 + 1).toNat ≤ 65536 := by
  rw [show (i + -1 + 1).toNat = i.toNat by omega]
  rw [show (i + 1).toNat = i.toNat + 1 by omega, Nat.pow_succ] at h
  omega
theorem rt_q {i : Int} {r : Nat} (hi : 0 ≤ i) (h : r + 2 ^ (i + 1).toNat ≤ 65536) : 0 ≤ ((r + 2 ^ i.toNat : Nat) : Int) * ((r + 2 ^ i.toNat : Nat) : Int) ∧ ((r + 2 ^ i.toNat : Nat) : Int) * ((r + 2 ^ i.toNat : Nat) : Int) ≤ 4294967296 := by
  have h1 := (rt_s hi h).1
  have h2 := Nat.two_pow_pos (i + -1 + 1).toNat
  have h3 := Nat.mul_le_mul (show r + 2 ^ i.toNat ≤ 65536 by omega) (show r + 2 ^ i.toNat ≤ 65536 by omega)
  rw [← Int.natCast_mul]
  omega
theorem c_wholeRoot {w : aW} {d : Nat} (hd : 1 ≤ d) (v : Int) (h : aH) : WP w d 32 [aJ v] h (RJ (fun x h1 => h1 = h ∧ x = (rtF v : Int))) := by
  obtain ⟨d, rfl⟩ : ∃ d1, d = d1 + 1 := ⟨d - 1, by omega⟩
  refine WP.enter (cd := cd_X1_wholeRoot) rfl ?_
  have hls : largs 0 [aJ v] = [(0, aJ v)] := rfl
  rw [hls]
  clear hls
  have l6 : ∀ (fuel : Nat) (i : Int) (r : Nat), (-1 ≤ i ∧ i ≤ 15) → (r % 2 ^ (i + 1).toNat = 0) → (r + 2 ^ (i + 1).toNat ≤ 65536) → (rtS (i + 1).toNat r v = rtF v) → (i + 1).toNat < fuel → Wk w d cd_X1_wholeRoot 6 [(4, aI i), (2, aJ ((r : Int))), (0, aJ v)] [] h (RJ (fun x h1 => h1 = h ∧ x = (rtF v : Int))) := by
    intro fuel
    induction fuel with
    | zero => intros; omega
    | succ fuel ih6 =>
      intro i r hi hm hs hres hfuel
      have j32 : ∀ (r2 : Nat), (0 ≤ i) → (r2 % 2 ^ (i + -1 + 1).toNat = 0) → (r2 + 2 ^ (i + -1 + 1).toNat ≤ 65536) → (rtS (i + -1 + 1).toNat r2 v = rtF v) → Wk w d cd_X1_wholeRoot 32 [(4, aI i), (2, aJ ((r2 : Int))), (0, aJ v)] [] h (RJ (fun x h1 => h1 = h ∧ x = (rtF v : Int))) := by
        intro r2 hi0 hm2 hs2 hres2
        refine g_iinc (l1 := [(4, aI (i + (-1))), (2, aJ ((r2 : Int))), (0, aJ v)]) rfl rfl (by omega) (by omega) rfl ?_
        refine g_goto rfl ?_
        exact ih6 (i + -1) r2 (by omega) (by exact hm2) (by exact hs2) (by exact hres2) (by omega)
      refine g_iload rfl rfl ?_
      refine g_if_lt rfl (fun c8 => ?_) (fun c8 => ?_)
      · skip
        refine g_lload_n rfl rfl ?_
        refine g_lret rfl ?_
        refine ⟨rfl, ?_⟩
        rw [← hres, show (i + 1).toNat = 0 by omega]
        rfl
      · skip
        refine g_lload_n rfl rfl ?_
        refine g_lconst1 rfl ?_
        refine g_iload rfl rfl ?_
        refine g_lshl rfl ?_
        refine g_top (v2 := aJ (((2 ^ i.toNat : Nat) : Int))) (congrArg aJ (by exact lshl_one (by omega))) ?_
        refine g_lor rfl ?_
        refine g_top (v2 := aJ (((r + 2 ^ i.toNat : Nat) : Int))) (congrArg aJ (by exact lor_bit (by omega) (by omega) (by rw [show i.toNat + 1 = (i + 1).toNat by omega]; exact hm))) ?_
        refine g_lstore (l1 := [(5, aJ (((r + 2 ^ i.toNat : Nat) : Int))), (4, aI i), (2, aJ ((r : Int))), (0, aJ v)]) rfl rfl ?_
        refine g_lload rfl rfl ?_
        refine g_lload rfl rfl ?_
        have hq := rt_q (by omega) hs
        refine g_lmul rfl (by omega) (by omega) ?_
        refine g_lload_n rfl rfl ?_
        refine g_lc_gt rfl rfl (fun c25 => ?_) (fun c25 => ?_)
        · skip
          refine g_ls [1, 2, 3] rfl rfl ?_
          exact j32 r (by omega) (by exact (rt_m (by omega) hm).2) (by exact (rt_s (by omega) hs).2) (by rw [← rt_b (by omega) (by omega)]; exact hres)
        · skip
          refine g_lload rfl rfl ?_
          refine g_lstore_n (l1 := [(2, aJ (((r + 2 ^ i.toNat : Nat) : Int))), (5, aJ (((r + 2 ^ i.toNat : Nat) : Int))), (4, aI i), (0, aJ v)]) rfl rfl ?_
          refine g_ls [2, 0, 3] rfl rfl ?_
          exact j32 (r + 2 ^ i.toNat) (by omega) (by exact (rt_m (by omega) hm).1) (by exact (rt_s (by omega) hs).1) (by rw [← rt_a (by omega) (by omega)]; exact hres)
  refine g_lconst0 rfl ?_
  refine g_lstore_n (l1 := [(2, aJ 0), (0, aJ v)]) rfl rfl ?_
  refine g_bipush rfl ?_
  refine g_istore (l1 := [(4, aI 15), (2, aJ 0), (0, aJ v)]) rfl rfl ?_
  exact l6 _ 15 0 (by omega) (by rfl) (by decide) (by rfl) (Nat.lt_succ_self _)
