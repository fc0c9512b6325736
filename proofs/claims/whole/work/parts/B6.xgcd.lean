/-! the class's whole numbers, on: the greatest common divisor: printed by wip/whole/b6.py -/
theorem pow_odd (t n : Nat) (h : n % 2 = 1) : Nat.Coprime (2 ^ t) n := by
  refine Nat.Coprime.pow_left t ?_
  unfold Nat.Coprime
  rw [Nat.gcd_rec, h]
  rfl
theorem gcd_strip {U W Z t : Nat} (hW : W % 2 = 1) (h : U = Z * 2 ^ t + W) : Nat.gcd Z W = Nat.gcd U W := by
  rw [h, Nat.gcd_add_self_left, (pow_odd t W hW).gcd_mul_right_cancel]
theorem strip_less {U W Z t : Nat} (hU : U % 2 = 1) (hW : W % 2 = 1) (hZ : Z % 2 = 1) (h : U = Z * 2 ^ t + W) : 2 * Z ≤ U := by
  cases t with
  | zero => rw [Nat.pow_zero] at h; omega
  | succ t =>
    rw [Nat.pow_succ, Nat.mul_comm (2 ^ t) 2, ← Nat.mul_assoc] at h
    have := Nat.mul_le_mul_left (Z * 2) (Nat.two_pow_pos t)
    omega
theorem turn_less {U W Z n : Nat} (h : 2 * Z ≤ U) (hb : U * W * 2 ^ n ≤ 2 ^ 764) : Z * W * 2 ^ (n + 1) ≤ 2 ^ 764 := by
  have h1 := Nat.mul_le_mul_right (W * 2 ^ n) h
  rw [Nat.pow_succ]
  have e1 : 2 * Z * (W * 2 ^ n) = Z * W * (2 ^ n * 2) := by grind
  have e2 : U * (W * 2 ^ n) = U * W * 2 ^ n := by grind
  omega
theorem turn_lt {U W n : Nat} (hU : 0 < U) (hW : 0 < W) (hb : U * W * 2 ^ n ≤ 2 ^ 764) : n < 768 := by
  have h1 := Nat.mul_le_mul_right (2 ^ n) (Nat.mul_pos hU hW)
  refine Classical.byContradiction fun q => ?_
  have h2 := Nat.pow_le_pow_right (show 0 < 2 by decide) (show 768 ≤ n by omega)
  have h3 : (2 : Nat) ^ 768 = 16 * 2 ^ 764 := by rw [show (768 : Nat) = 4 + 764 from rfl, Nat.pow_add]
  have h4 := Nat.two_pow_pos 764
  omega
/-- twos that both have -/
theorem gcd_twos {a b s t : Nat} (ha : a % 2 = 1) (hb : b % 2 = 1) : Nat.gcd (a * 2 ^ s) (b * 2 ^ t) = Nat.gcd a b * 2 ^ (if s < t then s else t) := by
  by_cases q : s < t
  · rw [if_pos q, show t = (t - s) + s by omega, Nat.pow_add, ← Nat.mul_assoc, Nat.gcd_mul_right]
    rw [Nat.mul_comm b, Nat.Coprime.gcd_mul_left_cancel_right b (pow_odd (t - s) a ha)]
  · rw [if_neg q, show s = (s - t) + t by omega, Nat.pow_add, ← Nat.mul_assoc, Nat.gcd_mul_right]
    rw [(pow_odd (s - t) b hb).gcd_mul_right_cancel]
/-- stripping, of a number above 0 -/
theorem s_strip {w : aW} {d : Nat} (hd : 2 ≤ d) {h : aH} {c : Nat} (cs : CS h c) (V : Nat → Nat → Int) (a : Nat) (wa : WO h a) {U : Nat} (hU : 0 < U) (la : LV (V (a + 1)) U) : WP w d 182 [aO (some (c + 1)), aO (some a)] (hw h V) (RI (fun x h1 => ∃ V1, h1 = hw h V1 ∧ ∃ t Z : Nat, x = t ∧ t < 384 ∧ (∀ q, q ≠ a + 1 → V1 q = V q) ∧ LV (V1 (a + 1)) Z ∧ U = Z * 2 ^ t ∧ Z % 2 = 1)) := by
  have e := la.pos (Int.natCast_nonneg _)
  refine (x_stripTwos hd cs V a wa la.1 (by omega)).imp ?_
  rintro _ h1 ⟨r, rfl, V1, rfl, t, rfl, h2, h3, h4, h5, h6⟩
  rw [e] at h5
  have hb := uv_b (V1 (a + 1)) 12
  obtain ⟨Z, hZ⟩ : ∃ Z : Nat, uv (V1 (a + 1)) 12 = Z := ⟨(uv (V1 (a + 1)) 12).toNat, by omega⟩
  rw [hZ] at h5 h6
  have h7 : U = Z * 2 ^ t := by
    have : (U : Int) = ((Z * 2 ^ t : Nat) : Int) := by rw [Int.natCast_mul, Int.natCast_pow]; exact h5
    omega
  have h8 : Z ≤ U := by
    rw [h7]
    exact Nat.le_mul_of_pos_right _ (Nat.two_pow_pos t)
  have hr := sv_b (la.1 11 (by omega))
  rw [la.2] at hr
  exact ⟨_, rfl, V1, rfl, t, Z, rfl, h2, h3, LV.of12 h4 hZ (by omega), h7, by omega⟩
theorem LV_less {V V1 : Nat → Nat → Int} {a b : Nat} {U W : Nat} (la : LV (V (a + 1)) U) (lb : LV (V (b + 1)) W) (hWU : W ≤ U) (up : UP V (a + 1) V1 (uv (V (a + 1)) 12 - uv (V (b + 1)) 12)) : LV (V1 (a + 1)) ((U - W : Nat) : Int) := by
  have hr := sv_b (la.1 11 (by omega))
  rw [la.2] at hr
  have h1 : (0 : Int) ≤ ((U - W : Nat) : Int) := Int.natCast_nonneg _
  have h2 : (0 : Int) < 4294967296 ^ 11 := bp_pos 11
  refine LV_of up.2.1 ?_ (by omega) (by omega)
  rw [up.2.2, la.pos (Int.natCast_nonneg _), lb.pos (Int.natCast_nonneg _)]
  congr 1
  omega
set_option maxHeartbeats 4000000 in
theorem s_gcd {w : aW} {d : Nat} (hd : 4 ≤ d) {h : aH} {c : Nat} (ci : CI h c) {a : Nat} {x : Int} {j : Nat} (wa : WB h c a x j) {b : Nat} {y : Int} {k : Nat} (wb : WB h c b y k) (m : Nat) (hj : j ≤ m) (hk : k ≤ m) (hm : m ≤ 382) : WP w d 183 [aO (some (c + 1)), aO (some a), aO (some b)] h (RO (fun r h1 => ∃ p, r = some p ∧ Gr h h1 c 2 ∧ WB h1 c p ((Int.gcd x y : Nat) : Int) m)) := by
  obtain ⟨d, rfl⟩ : ∃ d1, d = d1 + 1 := ⟨d - 1, by omega⟩
  refine WP.enter (cd := cd_X7_commonDivisor) rfl ?_
  have hls : largs 0 [aO (some (c + 1)), aO (some a), aO (some b)] = [(0, aO (some (c + 1))), (1, aO (some a)), (2, aO (some b))] := rfl
  rw [hls]
  clear hls
  have l63 : ∀ (h2 : aH) (u v t1 t2 G : Nat), (Gr h h2 c 2) → (WB h2 c u (x.natAbs : Int) j) → (WB h2 c v (y.natAbs : Int) k) → (u ≠ v) → (Dd h c u) → (Dd h c v) → (t1 < 384) → (t2 < 384) → (Int.gcd x y = G * 2 ^ (if t1 < t2 then t1 else t2)) → (G * 2 ^ (if t1 < t2 then t1 else t2) ≤ 2 ^ m) → ∀ (fuel : Nat) (n U Y : Nat) (V3 : Nat → Nat → Int), (∀ q, q ≠ u + 1 → q ≠ v + 1 → V3 q = hV h2 q) → (LV (V3 (u + 1)) (U : Int)) → (LV (V3 (v + 1)) (Y : Int)) → (U % 2 = 1) → (Y % 2 = 1) → (Nat.gcd U Y = G) → (U * Y * 2 ^ n ≤ 2 ^ 764) → 768 - n < fuel → Wk w d cd_X7_commonDivisor 63 [(7, aI ((n : Int))), (6, aI ((t2 : Int))), (5, aI ((t1 : Int))), (4, aO (some v)), (3, aO (some u)), (0, aO (some (c + 1))), (1, aO (some a)), (2, aO (some b))] [] (hw h2 V3) (RO (fun r h1 => ∃ p, r = some p ∧ Gr h h1 c 2 ∧ WB h1 c p ((Int.gcd x y : Nat) : Int) m)) := by
    intro h2 u v t1 t2 G g2 wu2 wv huv du dv ht1 ht2 hG hG2 fuel
    induction fuel with
    | zero => intros; omega
    | succ fuel ih63 =>
      intro n U Y V3 hf lu lv hU hY hg hb hfuel
      refine g_iload rfl rfl ?_
      refine g_sipush rfl ?_
      have htl := turn_lt (show 0 < U by omega) (show 0 < Y by omega) hb
      refine g_icmp_ge_f rfl (by omega) ?_
      refine g_aload_n rfl rfl ?_
      refine g_aload_n rfl rfl ?_
      refine g_aload rfl rfl ?_
      refine g_callVI [aO (some u), aO (some v)] [] rfl rfl rfl rfl (Nat.le_of_ble_eq_true rfl) (g2.cs.kd 1 (by omega) rfl) (x_order (by omega) g2.cs V3 u v wu2.1.o wv.1.o lu lv) ?_
      rintro _ _ ⟨rfl, rfl⟩
      refine g_istore (l1 := [(8, aI (lcmp (U : Int) (Y : Int))), (7, aI ((n : Int))), (6, aI ((t2 : Int))), (5, aI ((t1 : Int))), (4, aO (some v)), (3, aO (some u)), (0, aO (some (c + 1))), (1, aO (some a)), (2, aO (some b))]) rfl rfl ?_
      refine g_iload rfl rfl ?_
      refine g_if_ne rfl (fun c82 => ?_) (fun c82 => ?_)
      · skip
        refine g_iload rfl rfl ?_
        refine g_if_le rfl (fun c90 => ?_) (fun c90 => ?_)
        · skip
          refine g_aload rfl rfl ?_
          refine g_astore (l1 := [(9, aO (some v)), (8, aI (lcmp (U : Int) (Y : Int))), (7, aI ((n : Int))), (6, aI ((t2 : Int))), (5, aI ((t1 : Int))), (4, aO (some v)), (3, aO (some u)), (0, aO (some (c + 1))), (1, aO (some a)), (2, aO (some b))]) rfl rfl ?_
          refine g_aload_n rfl rfl ?_
          refine g_aload rfl rfl ?_
          refine g_iload rfl rfl ?_
          refine g_if_le_t rfl (by omega) ?_
          refine g_aload_n rfl rfl ?_
          refine g_callVN [aO (some v), aO (some u)] [] rfl rfl rfl rfl (Nat.le_of_ble_eq_true rfl) (g2.cs.kd 1 (by omega) rfl) (x_lessen (by omega) g2.cs V3 v u wv.1.o wu2.1.o huv.symm) ?_
          rintro _ ⟨V4, rfl, u4⟩
          have hlt : U < Y := by have := @lcmp_gt (U : Int) (Y : Int); have := @lcmp_lt (U : Int) (Y : Int); omega
          have l4 := LV_less (V1 := V4) lv lu (by omega) u4
          refine g_aload_n rfl rfl ?_
          refine g_aload rfl rfl ?_
          refine g_callVI [aO (some v)] [] rfl rfl rfl rfl (Nat.le_of_ble_eq_true rfl) (g2.cs.kd 1 (by omega) rfl) (s_strip (by omega) g2.cs V4 v wv.1.o (by omega) l4) ?_
          rintro _ _ ⟨V6, rfl, tV6, ZV6, rfl, htV6, hfV6, lzV6, heV6, hoV6⟩
          have hgz : Nat.gcd U ZV6 = G := by rw [← hg, Nat.gcd_comm, Nat.gcd_comm U]; exact gcd_strip (t := tV6) hU (by omega)
          have hbz : U * ZV6 * 2 ^ (n + 1) ≤ 2 ^ 764 := by rw [Nat.mul_comm U]; exact turn_less (strip_less (t := tV6) hY hU hoV6 (by omega)) (by rw [Nat.mul_comm Y]; exact hb)
          refine g_pop rfl rfl ?_
          refine g_iinc (l1 := [(7, aI ((n : Int) + 1)), (9, aO (some v)), (8, aI (lcmp (U : Int) (Y : Int))), (6, aI ((t2 : Int))), (5, aI ((t1 : Int))), (4, aO (some v)), (3, aO (some u)), (0, aO (some (c + 1))), (1, aO (some a)), (2, aO (some b))]) rfl rfl (by omega) (by omega) rfl ?_
          refine g_goto rfl ?_
          refine g_ls [0, 3, 4, 5, 6, 7, 8, 9] rfl rfl ?_
          exact ih63 (n + 1) U ZV6 V6 (by intro q q1 q2; rw [hfV6 q (by omega), u4.1 q (by omega), hf q q1 q2]) (by first | exact lzV6 | (rw [hfV6 _ (by omega), u4.1 _ (by omega)]; exact lu)) (by first | exact lzV6 | (rw [hfV6 _ (by omega), u4.1 _ (by omega)]; exact lv)) (by first | exact hoV6 | exact hU) (by first | exact hY | exact hoV6) (by exact hgz) (by exact hbz) (by omega)
        · skip
          refine g_aload_n rfl rfl ?_
          refine g_goto rfl ?_
          refine g_astore (l1 := [(9, aO (some u)), (8, aI (lcmp (U : Int) (Y : Int))), (7, aI ((n : Int))), (6, aI ((t2 : Int))), (5, aI ((t1 : Int))), (4, aO (some v)), (3, aO (some u)), (0, aO (some (c + 1))), (1, aO (some a)), (2, aO (some b))]) rfl rfl ?_
          refine g_aload_n rfl rfl ?_
          refine g_aload rfl rfl ?_
          refine g_iload rfl rfl ?_
          refine g_if_le_f rfl (by omega) ?_
          refine g_aload rfl rfl ?_
          refine g_goto rfl ?_
          refine g_callVN [aO (some u), aO (some v)] [] rfl rfl rfl rfl (Nat.le_of_ble_eq_true rfl) (g2.cs.kd 1 (by omega) rfl) (x_lessen (by omega) g2.cs V3 u v wu2.1.o wv.1.o huv) ?_
          rintro _ ⟨V4, rfl, u4⟩
          have hlt : Y < U := by have := @lcmp_gt (U : Int) (Y : Int); have := @lcmp_lt (U : Int) (Y : Int); omega
          have l4 := LV_less (V1 := V4) lu lv (by omega) u4
          refine g_aload_n rfl rfl ?_
          refine g_aload rfl rfl ?_
          refine g_callVI [aO (some u)] [] rfl rfl rfl rfl (Nat.le_of_ble_eq_true rfl) (g2.cs.kd 1 (by omega) rfl) (s_strip (by omega) g2.cs V4 u wu2.1.o (by omega) l4) ?_
          rintro _ _ ⟨V6, rfl, tV6, ZV6, rfl, htV6, hfV6, lzV6, heV6, hoV6⟩
          have hgz : Nat.gcd ZV6 Y = G := by rw [← hg]; exact gcd_strip (t := tV6) hY (by omega)
          have hbz : ZV6 * Y * 2 ^ (n + 1) ≤ 2 ^ 764 := turn_less (strip_less (t := tV6) hU hY hoV6 (by omega)) hb
          refine g_pop rfl rfl ?_
          refine g_iinc (l1 := [(7, aI ((n : Int) + 1)), (9, aO (some u)), (8, aI (lcmp (U : Int) (Y : Int))), (6, aI ((t2 : Int))), (5, aI ((t1 : Int))), (4, aO (some v)), (3, aO (some u)), (0, aO (some (c + 1))), (1, aO (some a)), (2, aO (some b))]) rfl rfl (by omega) (by omega) rfl ?_
          refine g_goto rfl ?_
          refine g_ls [0, 3, 4, 5, 6, 7, 8, 9] rfl rfl ?_
          exact ih63 (n + 1) ZV6 Y V6 (by intro q q1 q2; rw [hfV6 q (by omega), u4.1 q (by omega), hf q q1 q2]) (by first | exact lzV6 | (rw [hfV6 _ (by omega), u4.1 _ (by omega)]; exact lu)) (by first | exact lzV6 | (rw [hfV6 _ (by omega), u4.1 _ (by omega)]; exact lv)) (by first | exact hoV6 | exact hU) (by first | exact hY | exact hoV6) (by exact hgz) (by exact hbz) (by omega)
      · skip
        refine g_goto rfl ?_
        refine g_aload_n rfl rfl ?_
        refine g_aload_n rfl rfl ?_
        refine g_iload rfl rfl ?_
        refine g_iload rfl rfl ?_
        refine g_icmp_ge rfl (fun c137 => ?_) (fun c137 => ?_)
        · skip
          have hlt12 : ¬ t1 < t2 := by omega
          rw [if_neg hlt12] at hG hG2
          refine g_iload rfl rfl ?_
          refine g_callVN [aO (some u), aI ((t2 : Int))] [] rfl rfl rfl rfl (Nat.le_of_ble_eq_true rfl) (g2.cs.kd 1 (by omega) rfl) (x_doubleOften (by omega) g2.cs V3 u wu2.1.o ((t2 : Int)) (by omega) lu.1) ?_
          rintro _ ⟨V5, rfl, u5⟩
          refine g_aload_n rfl rfl ?_
          refine g_aret rfl ?_
          have e2 : U = Y := by have := (@lcmp_0 (U : Int) (Y : Int)).mp c82; omega
          rw [e2, Nat.gcd_self] at hg
          rw [← e2] at hg
          subst hg
          have hbz : ((Int.gcd x y : Nat) : Int) ≤ 2 ^ m := by
            have : ((Int.gcd x y : Nat) : Int) ≤ ((2 ^ m : Nat) : Int) := by rw [hG]; exact Int.ofNat_le.mpr hG2
            rw [Int.natCast_pow] at this
            exact this
          have hp := pw_pos m
          have h00 : (0 : Int) ≤ ((Int.gcd x y : Nat) : Int) := Int.natCast_nonneg _
          have hbb : -2 ^ m ≤ ((Int.gcd x y : Nat) : Int) ∧ ((Int.gcd x y : Nat) : Int) ≤ 2 ^ m := ⟨by omega, hbz⟩
          have hr := rg_of hbb.1 hbb.2 hm
          have l5 : LV (V5 (u + 1)) ((Int.gcd x y : Nat) : Int) := LV_of u5.2.1 (by rw [u5.2.2, lu.pos (Int.natCast_nonneg _), hG, Int.natCast_mul, Int.natCast_pow]; rfl) hr.1 hr.2
          have f0 := g2.wr (p := v) (V := fun q => if q = v + 1 then V5 q else hV h2 q) wv.1.o wv.1.2.1 dv (fun q hq => by rw [if_neg hq])
          have f1 := f0.wr (p := u) (V := V5) wu2.1.o wu2.1.2.1 du (fun q hq => by
            show V5 q = if q = v + 1 then V5 q else hV h2 q
            by_cases e : q = v + 1
            · rw [if_pos e]
            · rw [if_neg e, u5.1 q hq, hf q hq e])
          refine ⟨u, rfl, f1, ⟨wu2.1.o, wu2.1.2.1, wu2.1.2.2.1, l5, fun i hi q => ?_⟩, hbb⟩
          show (i : Int) < V5 (c + 1) 1
          have h67 := wu2.1.2.1
          have h68 := wv.1.2.1
          rw [u5.1 _ (by omega), hf _ (by omega) (by omega)]
          exact wu2.1.2.2.2.2 i hi q
        · skip
          have hlt12 : t1 < t2 := by omega
          rw [if_pos hlt12] at hG hG2
          refine g_iload rfl rfl ?_
          refine g_goto rfl ?_
          refine g_callVN [aO (some u), aI ((t1 : Int))] [] rfl rfl rfl rfl (Nat.le_of_ble_eq_true rfl) (g2.cs.kd 1 (by omega) rfl) (x_doubleOften (by omega) g2.cs V3 u wu2.1.o ((t1 : Int)) (by omega) lu.1) ?_
          rintro _ ⟨V5, rfl, u5⟩
          refine g_aload_n rfl rfl ?_
          refine g_aret rfl ?_
          have e2 : U = Y := by have := (@lcmp_0 (U : Int) (Y : Int)).mp c82; omega
          rw [e2, Nat.gcd_self] at hg
          rw [← e2] at hg
          subst hg
          have hbz : ((Int.gcd x y : Nat) : Int) ≤ 2 ^ m := by
            have : ((Int.gcd x y : Nat) : Int) ≤ ((2 ^ m : Nat) : Int) := by rw [hG]; exact Int.ofNat_le.mpr hG2
            rw [Int.natCast_pow] at this
            exact this
          have hp := pw_pos m
          have h00 : (0 : Int) ≤ ((Int.gcd x y : Nat) : Int) := Int.natCast_nonneg _
          have hbb : -2 ^ m ≤ ((Int.gcd x y : Nat) : Int) ∧ ((Int.gcd x y : Nat) : Int) ≤ 2 ^ m := ⟨by omega, hbz⟩
          have hr := rg_of hbb.1 hbb.2 hm
          have l5 : LV (V5 (u + 1)) ((Int.gcd x y : Nat) : Int) := LV_of u5.2.1 (by rw [u5.2.2, lu.pos (Int.natCast_nonneg _), hG, Int.natCast_mul, Int.natCast_pow]; rfl) hr.1 hr.2
          have f0 := g2.wr (p := v) (V := fun q => if q = v + 1 then V5 q else hV h2 q) wv.1.o wv.1.2.1 dv (fun q hq => by rw [if_neg hq])
          have f1 := f0.wr (p := u) (V := V5) wu2.1.o wu2.1.2.1 du (fun q hq => by
            show V5 q = if q = v + 1 then V5 q else hV h2 q
            by_cases e : q = v + 1
            · rw [if_pos e]
            · rw [if_neg e, u5.1 q hq, hf q hq e])
          refine ⟨u, rfl, f1, ⟨wu2.1.o, wu2.1.2.1, wu2.1.2.2.1, l5, fun i hi q => ?_⟩, hbb⟩
          show (i : Int) < V5 (c + 1) 1
          have h67 := wu2.1.2.1
          have h68 := wv.1.2.1
          rw [u5.1 _ (by omega), hf _ (by omega) (by omega)]
          exact wu2.1.2.2.2.2 i hi q
  refine g_aload_n rfl rfl ?_
  refine g_aload_n rfl rfl ?_
  refine g_callVO [aO (some a)] [] rfl rfl rfl rfl (Nat.le_of_ble_eq_true rfl) (ci.cs.kd 1 (by omega) rfl) (s_sizeP (by omega) ci wa (by omega)) ?_
  rintro _ h1 ⟨u, rfl, g1, wu, du⟩
  refine g_astore_n (l1 := [(3, aO (some u)), (0, aO (some (c + 1))), (1, aO (some a)), (2, aO (some b))]) rfl rfl ?_
  refine g_aload_n rfl rfl ?_
  refine g_aload_n rfl rfl ?_
  refine g_callVO [aO (some b)] [] rfl rfl rfl rfl (Nat.le_of_ble_eq_true rfl) (g1.cs.kd 1 (by omega) rfl) (s_sizeP (by omega) g1.ci (g1.wb wb) (by omega)) ?_
  rintro _ h2 ⟨v, rfl, gx, wv, dx⟩
  have g2 := g1.trans gx
  have wu2 := gx.wb wu
  have dv : Dd h c v := fun q z x => dx q z (g1.wv x)
  have huv : u ≠ v := dx _ _ wu.1
  refine g_astore (l1 := [(4, aO (some v)), (3, aO (some u)), (0, aO (some (c + 1))), (1, aO (some a)), (2, aO (some b))]) rfl rfl ?_
  refine g_aload_n rfl rfl ?_
  refine g_aload_n rfl rfl ?_
  refine g_callVI [aO (some u)] [] rfl rfl rfl rfl (Nat.le_of_ble_eq_true rfl) (g2.cs.kd 1 (by omega) rfl) (s_isZero (by omega) g2.ci wu2) ?_
  rintro _ hx ⟨ehx, rfl⟩
  rw [ehx]
  clear ehx hx
  refine g_b_ne rfl (fun c18 => ?_) (fun c18 => ?_)
  · skip
    refine g_aload_n rfl rfl ?_
    refine g_aload_n rfl rfl ?_
    refine g_callVI [aO (some u)] [] rfl rfl rfl rfl (Nat.le_of_ble_eq_true rfl) (g2.cs.kd 1 (by omega) rfl) (s_isZero (by omega) g2.ci wu2) ?_
    rintro _ hx ⟨ehx, rfl⟩
    rw [ehx]
    clear ehx hx
    refine g_b_eq rfl (fun c35 => ?_) (fun c35 => ?_)
    · skip
      refine g_aload_n rfl rfl ?_
      refine g_aret rfl ?_
      first
        | (refine ⟨v, rfl, g2, ?_⟩
           have e : Int.gcd x y = y.natAbs := by rw [show x = 0 by omega, Int.gcd_zero_left]
           rw [e]
           exact wv.up hk)
        | (refine ⟨u, rfl, g2, ?_⟩
           have e : Int.gcd x y = x.natAbs := by rw [show y = 0 by omega, Int.gcd_zero_right]
           rw [e]
           exact wu2.up hj)
    · skip
      refine g_aload rfl rfl ?_
      refine g_goto rfl ?_
      refine g_aret rfl ?_
      first
        | (refine ⟨v, rfl, g2, ?_⟩
           have e : Int.gcd x y = y.natAbs := by rw [show x = 0 by omega, Int.gcd_zero_left]
           rw [e]
           exact wv.up hk)
        | (refine ⟨u, rfl, g2, ?_⟩
           have e : Int.gcd x y = x.natAbs := by rw [show y = 0 by omega, Int.gcd_zero_right]
           rw [e]
           exact wu2.up hj)
  · skip
    refine g_aload_n rfl rfl ?_
    refine g_aload rfl rfl ?_
    refine g_callVI [aO (some v)] [] rfl rfl rfl rfl (Nat.le_of_ble_eq_true rfl) (g2.cs.kd 1 (by omega) rfl) (s_isZero (by omega) g2.ci wv) ?_
    rintro _ hx ⟨ehx, rfl⟩
    rw [ehx]
    clear ehx hx
    refine g_b_eq rfl (fun c27 => ?_) (fun c27 => ?_)
    · skip
      refine g_aload_n rfl rfl ?_
      refine g_aload_n rfl rfl ?_
      refine g_callVI [aO (some u)] [] rfl rfl rfl rfl (Nat.le_of_ble_eq_true rfl) (g2.cs.kd 1 (by omega) rfl) (s_strip (by omega) g2.cs ((hV h2)) u wu2.1.o (show 0 < x.natAbs by omega) wu2.1.l) ?_
      rintro _ _ ⟨V1, rfl, tV1, ZV1, rfl, htV1, hfV1, lzV1, heV1, hoV1⟩
      refine g_istore (l1 := [(5, aI ((tV1 : Int))), (4, aO (some v)), (3, aO (some u)), (0, aO (some (c + 1))), (1, aO (some a)), (2, aO (some b))]) rfl rfl ?_
      refine g_aload_n rfl rfl ?_
      refine g_aload rfl rfl ?_
      refine g_callVI [aO (some v)] [] rfl rfl rfl rfl (Nat.le_of_ble_eq_true rfl) (g2.cs.kd 1 (by omega) rfl) (s_strip (by omega) g2.cs V1 v wv.1.o (show 0 < y.natAbs by omega) (by rw [hfV1 _ (by omega)]; exact wv.1.l)) ?_
      rintro _ _ ⟨V2, rfl, tV2, ZV2, rfl, htV2, hfV2, lzV2, heV2, hoV2⟩
      refine g_istore (l1 := [(6, aI ((tV2 : Int))), (5, aI ((tV1 : Int))), (4, aO (some v)), (3, aO (some u)), (0, aO (some (c + 1))), (1, aO (some a)), (2, aO (some b))]) rfl rfl ?_
      have hG : Int.gcd x y = Nat.gcd ZV1 ZV2 * 2 ^ (if tV1 < tV2 then tV1 else tV2) := by
        show Nat.gcd x.natAbs y.natAbs = _
        rw [heV1, heV2]
        exact gcd_twos hoV1 hoV2
      have hG2 : Nat.gcd ZV1 ZV2 * 2 ^ (if tV1 < tV2 then tV1 else tV2) ≤ 2 ^ m := by
        rw [← hG]
        have q1 : Int.gcd x y ≤ x.natAbs := Nat.gcd_le_left _ (by omega)
        have q2 := bd_up hj wu2.2
        have q3 : ((x.natAbs : Nat) : Int) ≤ ((2 ^ m : Nat) : Int) := by rw [Int.natCast_pow]; exact q2.2
        omega
      have hb0 : ZV1 * ZV2 * 2 ^ 0 ≤ 2 ^ 764 := by
        have q1 : ZV1 ≤ x.natAbs := by rw [heV1]; exact Nat.le_mul_of_pos_right _ (Nat.two_pow_pos _)
        have q2 : ZV2 ≤ y.natAbs := by rw [heV2]; exact Nat.le_mul_of_pos_right _ (Nat.two_pow_pos _)
        have q3 := bd_up (show j ≤ 382 by omega) wu2.2
        have q4 := bd_up (show k ≤ 382 by omega) wv.2
        have q5 : ((x.natAbs : Nat) : Int) ≤ ((2 ^ 382 : Nat) : Int) := by rw [Int.natCast_pow]; exact q3.2
        have q6 : ((y.natAbs : Nat) : Int) ≤ ((2 ^ 382 : Nat) : Int) := by rw [Int.natCast_pow]; exact q4.2
        have q7 := Nat.mul_le_mul (show ZV1 ≤ 2 ^ 382 by omega) (show ZV2 ≤ 2 ^ 382 by omega)
        rw [← Nat.pow_add] at q7
        rw [Nat.pow_zero, Nat.mul_one]
        exact q7
      refine g_iconst rfl ?_
      refine g_istore (l1 := [(7, aI 0), (6, aI ((tV2 : Int))), (5, aI ((tV1 : Int))), (4, aO (some v)), (3, aO (some u)), (0, aO (some (c + 1))), (1, aO (some a)), (2, aO (some b))]) rfl rfl ?_
      exact l63 h2 u v tV1 tV2 (Nat.gcd ZV1 ZV2) (by exact g2) (by exact wu2) (by exact wv) (by exact huv) (by exact du) (by exact dv) (by exact htV1) (by exact htV2) (by exact hG) (by exact hG2) _ 0 ZV1 ZV2 V2 (by intro q q1 q2; rw [hfV2 q q2, hfV1 q q1]) (by rw [hfV2 _ (by omega)]; exact lzV1) (by exact lzV2) (by exact hoV1) (by exact hoV2) (by rfl) (by exact hb0) (Nat.lt_succ_self _)
    · skip
      refine g_aload_n rfl rfl ?_
      refine g_aload_n rfl rfl ?_
      refine g_callVI [aO (some u)] [] rfl rfl rfl rfl (Nat.le_of_ble_eq_true rfl) (g2.cs.kd 1 (by omega) rfl) (s_isZero (by omega) g2.ci wu2) ?_
      rintro _ hx ⟨ehx, rfl⟩
      rw [ehx]
      clear ehx hx
      refine g_b_eq rfl (fun c35 => ?_) (fun c35 => ?_)
      · skip
        refine g_aload_n rfl rfl ?_
        refine g_aret rfl ?_
        first
          | (refine ⟨v, rfl, g2, ?_⟩
             have e : Int.gcd x y = y.natAbs := by rw [show x = 0 by omega, Int.gcd_zero_left]
             rw [e]
             exact wv.up hk)
          | (refine ⟨u, rfl, g2, ?_⟩
             have e : Int.gcd x y = x.natAbs := by rw [show y = 0 by omega, Int.gcd_zero_right]
             rw [e]
             exact wu2.up hj)
      · skip
        refine g_aload rfl rfl ?_
        refine g_goto rfl ?_
        refine g_aret rfl ?_
        first
          | (refine ⟨v, rfl, g2, ?_⟩
             have e : Int.gcd x y = y.natAbs := by rw [show x = 0 by omega, Int.gcd_zero_left]
             rw [e]
             exact wv.up hk)
          | (refine ⟨u, rfl, g2, ?_⟩
             have e : Int.gcd x y = x.natAbs := by rw [show y = 0 by omega, Int.gcd_zero_right]
             rw [e]
             exact wu2.up hj)
