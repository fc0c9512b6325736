/-! the reference's whole numbers, on: the greatest common divisor: printed by wip/whole/c6.py -/
/-- only cells r to r + n are written -/
def MR (V V1 : Nat → Nat → Int) (o r n : Nat) : Prop := (∀ q, q ≠ o + 1 → V1 q = V q) ∧ ∀ x, (x < r ∨ r + n ≤ x) → V1 (o + 1) x = V (o + 1) x
theorem MR.refl (V : Nat → Nat → Int) (o r n : Nat) : MR V V o r n := ⟨fun _ _ => rfl, fun _ _ => rfl⟩
theorem MR.mf {V V1 V2 : Nat → Nat → Int} {o r n r2 : Nat} (m : MR V V1 o r n) (m2 : MF V1 V2 o r2) (h : r ≤ r2 ∧ r2 + 18 ≤ r + n) : MR V V2 o r n := ⟨fun q hq => by rw [m2.1 q hq, m.1 q hq], fun x hx => by rw [m2.2 x (by omega), m.2 x hx]⟩
theorem MR.row {V V1 : Nat → Nat → Int} {o r n a : Nat} (m : MR V V1 o r n) (h : a + 18 ≤ r ∨ r + n ≤ a) : ∀ k < 18, mr V1 o a k = mr V o a k := fun k hk => m.2 _ (by omega)
theorem fin_m2 {V V1 V2 V3 : Nat → Nat → Int} {o F i : Nat} {z : Int} (hF : V o 1 = F) (hF7 : F + 1 < 700) (m1 : MFr V V1 o F) (m2 : MFr V1 V2 o (F + 1)) (m3 : MR V2 V3 o (18 * F) 36) (hi : i = F ∨ i = F + 1) (h : RW (mr V3 o (18 * i)) z) : Gm V V3 o 2 ∧ RV V3 o (18 * i) z := by
  have e1 : V3 o = V2 o := m3.1 o (by omega)
  have h1 := m1.2.2.1
  have h2 := m2.2.2.1
  refine ⟨⟨fun q q1 q2 => by rw [m3.1 q q2, m2.1 q q1 q2, m1.1 q q1 q2], fun f hf => by rw [e1, m2.2.1 f hf, m1.2.1 f hf], by rw [e1]; omega, fun r z x => ?_⟩, i, rfl, by rw [e1]; omega, by rw [e1]; omega, h⟩
  have d := x.dis hF
  have x2 := (x.fr hF (by omega) m1).fr (F := F + 1) (by omega) hF7 m2
  obtain ⟨k, k1, k2, k3, k4⟩ := x2
  exact ⟨k, k1, by rw [e1]; exact k2, by rw [e1]; exact k3, k4.congr (m3.row (by omega))⟩
theorem RW_even {f : Nat → Int} {U : Nat} (h : RW f (U : Int)) : f 0 % 2 = ((U % 2 : Nat) : Int) := by
  have h1 := h.1.2.1
  rw [show ((((U : Int)).natAbs : Nat) : Int) = (U : Int) from rfl] at h1
  have h2 : mv f 16 = _ := mv_cons f 15
  omega
theorem RW_pos {f : Nat → Int} {U : Nat} (h : RW f (U : Int)) (hU : 0 < U) : f 16 = 1 := by
  rw [h.2]
  rcases lcmp_v (U : Int) with q | q | q <;> omega
theorem RC_rw {V : Nat → Nat → Int} {o r Z : Nat} {u : Int} (h : RC V o r u 1) (e : u = (Z : Int)) : RW (mr V o r) (Z : Int) := RW_of h e (fun q => by rcases lcmp_v (Z : Int) with q | q | q <;> omega)
theorem RW.mvU {f : Nat → Int} {U : Nat} (h : RW f (U : Int)) : mv f 16 = (U : Int) := h.1.2.1
theorem gcd_halfM {U W : Nat} (hU : U % 2 = 0) (hW : W % 2 = 1) : Nat.gcd (U / 2) W = Nat.gcd U W := by
  have e : U = U / 2 * 2 ^ 1 := by omega
  conv => rhs; rw [e, (pow_odd 1 W hW).gcd_mul_right_cancel]
theorem odd_gcd {U W G : Nat} (h : Nat.gcd U W = G) (hG : G % 2 = 1) (hU : U % 2 = 0) : W % 2 = 1 := by
  refine Classical.byContradiction fun q => ?_
  have h1 : 2 ∣ Nat.gcd U W := Nat.dvd_gcd (Nat.dvd_of_mod_eq_zero hU) (Nat.dvd_of_mod_eq_zero (by omega))
  rw [h] at h1
  omega
theorem half_pow {n U t : Nat} (h : n = U * 2 ^ t) (he : U % 2 = 0) : n = U / 2 * 2 ^ (t + 1) := by
  rw [h, Nat.pow_succ, show U / 2 * (2 ^ t * 2) = U / 2 * 2 * 2 ^ t by grind, show U / 2 * 2 = U by omega]
theorem pow_few {n U t : Nat} (h : n = U * 2 ^ t) (hU : 0 < U) (hn : n < 2 ^ 384) : t < 384 := by
  refine Classical.byContradiction fun q => ?_
  have h1 := Nat.pow_le_pow_right (show 0 < 2 by decide) (show 384 ≤ t by omega)
  have h2 := Nat.mul_le_mul_right (2 ^ t) hU
  omega
theorem shl_b {G k t : Nat} (h : G * 2 ^ t < 2 ^ 384) (hk : k < t) : 2 * ((G * 2 ^ k : Nat) : Int) + 0 < 16777216 ^ 16 := by
  have h1 := Nat.pow_le_pow_right (show 0 < 2 by decide) (show k + 1 ≤ t by omega)
  have h2 := Nat.mul_le_mul_left G h1
  rw [Nat.pow_succ, ← Nat.mul_assoc] at h2
  have h3 : ((2 ^ 384 : Nat) : Int) = 16777216 ^ 16 := by decide
  omega
theorem natAbs_lt {V : Nat → Nat → Int} {o a : Nat} {x : Int} (xa : RV V o a x) : x.natAbs < 2 ^ 384 := by
  have h := xa.c.nn.2
  have h3 : ((2 ^ 384 : Nat) : Int) = 16777216 ^ 16 := by decide
  omega
theorem gcd_lt {V : Nat → Nat → Int} {o a b : Nat} {x y : Int} (xa : RV V o a x) (xb : RV V o b y) (h : 0 < Int.gcd x y) : Int.gcd x y < 2 ^ 384 := by
  have h1 := natAbs_lt xa
  have h2 := natAbs_lt xb
  by_cases q : x.natAbs = 0
  · have h3 : Int.gcd x y = y.natAbs := by show Nat.gcd _ _ = _; rw [q, Nat.gcd_zero_left]
    omega
  · have h3 : Int.gcd x y ≤ x.natAbs := Nat.gcd_le_left _ (by omega)
    omega
theorem abs_rw {V : Nat → Nat → Int} {o r : Nat} {x s : Int} (h : RW (mr V o r) x) (hs : s = if x = 0 then 0 else 1) : RW (mr (vset V (o + 1) (r + 16) s) o r) ((x.natAbs : Nat) : Int) := by
  obtain ⟨⟨h1, h2, n, h3, h4, h5, h6⟩, h7⟩ := h
  refine ⟨⟨fun k hk => ?_, ?_, n, h3, ?_, fun k q1 q2 => ?_, ?_⟩, ?_⟩
  · show 0 ≤ vset _ _ _ _ _ _ ∧ vset _ _ _ _ _ _ < _
    rw [vset_ne _ _ _ _ (by omega)]
    exact h1 k hk
  · rw [mv_congr (f := mr (vset V (o + 1) (r + 16) s) o r) (g := mr V o r) (fun j hj => vset_ne _ _ _ _ (by omega)), h2]
    rfl
  · show vset _ _ _ _ _ _ = _
    rw [vset_ne _ _ _ _ (by omega)]
    exact h4
  · show vset _ _ _ _ _ _ = _
    rw [vset_ne _ _ _ _ (by omega)]
    exact h5 k q1 q2
  · rcases h6 with q | q
    · exact Or.inl q
    · refine Or.inr ?_
      show vset _ _ _ _ _ _ ≠ _
      rw [vset_ne _ _ _ _ (by omega)]
      exact q
  · show vset _ _ _ _ _ _ = _
    rw [vset_eq, hs]
    have := lcmp_v ((x.natAbs : Nat) : Int)
    split <;> omega
set_option maxHeartbeats 4000000 in
theorem m_gcd {w : aW} {d : Nat} (hd : 3 ≤ d) {h : aH} {o : Nat} (ms : MS h o) (V : Nat → Nat → Int) (F : Nat) (hF : V o 1 = F) (hF7 : F + 1 < 700) {a b : Nat} {x y : Int} (xa : RV V o a x) (xb : RV V o b y) : WP w d 262 [aO (some o), aI ((a : Int)), aI ((b : Int))] (hw h V) (RI (fun r h1 => ∃ p : Nat, r = p ∧ ∃ V1, h1 = hw h V1 ∧ Gm V V1 o 2 ∧ RV V1 o p ((Int.gcd x y : Nat) : Int))) := by
  obtain ⟨d, rfl⟩ : ∃ d1, d = d1 + 1 := ⟨d - 1, by omega⟩
  refine WP.enter (cd := cd_X12_gcd) rfl ?_
  have hls : largs 0 [aO (some o), aI ((a : Int)), aI ((b : Int))] = [(0, aO (some o)), (1, aI ((a : Int))), (2, aI ((b : Int)))] := rfl
  rw [hls]
  clear hls
  have l231 : ∀ (V1 V2 : Nat → Nat → Int) (t G : Nat), (MFr V V1 o F) → (MFr V1 V2 o (F + 1)) → (Int.gcd x y = G * 2 ^ t) → (G * 2 ^ t < 2 ^ 384) → (t < 384) → (0 < G) → ∀ (fuel : Nat) (k : Nat) (W : Nat → Nat → Int), (k ≤ t) → (MR V2 W o (18 * F) 36) → (RW (mr W o (18 * (F + 1))) ((G * 2 ^ k : Nat) : Int)) → t - k < fuel → Wk w d cd_X12_gcd 231 [(6, aI ((k : Int))), (5, aI ((t : Int))), (4, aI ((18 * (F + 1) : Int))), (3, aI ((18 * F : Int))), (0, aO (some o)), (1, aI ((a : Int))), (2, aI ((b : Int)))] [] (hw h W) (RI (fun r h1 => ∃ p : Nat, r = p ∧ ∃ V1, h1 = hw h V1 ∧ Gm V V1 o 2 ∧ RV V1 o p ((Int.gcd x y : Nat) : Int))) := by
    intro V1 V2 t G m1 m2 hgt hgl ht hG0 fuel
    induction fuel with
    | zero => intros; omega
    | succ fuel ih231 =>
      intro k W hk mrr lv hfuel
      refine g_iload rfl rfl ?_
      refine g_iload rfl rfl ?_
      refine g_icmp_ge rfl (fun c235 => ?_) (fun c235 => ?_)
      · skip
        refine g_iload rfl rfl ?_
        refine g_iret rfl ?_
        have ekt : k = t := by omega
        rw [ekt, ← hgt] at lv
        obtain ⟨f1, f2⟩ := fin_m2 (i := F + 1) hF hF7 m1 m2 mrr (by omega) lv
        exact ⟨18 * (F + 1), rfl, W, rfl, f1, f2⟩
      · skip
        refine g_aload_n rfl rfl ?_
        refine g_iload rfl rfl ?_
        refine g_iconst rfl ?_
        refine g_callVN [aI ((18 * (F + 1) : Int)), aI 0] [] rfl rfl rfl rfl (Nat.le_of_ble_eq_true rfl) ms.1 (m_shift (by omega) ms W (18 * (F + 1)) (by omega) 0 (Or.inl rfl) lv.1.1 (by rw [lv.mvU]; exact shl_b hgl (by omega))) ?_
        rintro _ ⟨W5, rfl, ms5, rs5⟩
        refine g_iinc (l1 := [(6, aI ((k : Int) + 1)), (5, aI ((t : Int))), (4, aI ((18 * (F + 1) : Int))), (3, aI ((18 * F : Int))), (0, aO (some o)), (1, aI ((a : Int))), (2, aI ((b : Int)))]) rfl rfl (by omega) (by omega) rfl ?_
        refine g_goto rfl ?_
        exact ih231 (k + 1) _ (by omega) (by exact mrr.mf ms5 (by omega)) (by exact RC_rw rs5 (by rw [lv.mvU, Nat.pow_succ, show G * (2 ^ k * 2) = 2 * (G * 2 ^ k) by grind, Int.natCast_mul 2, Int.add_zero]; rfl)) (by omega)
  have l145 : ∀ (V1 V2 : Nat → Nat → Int) (t G : Nat), (MFr V V1 o F) → (MFr V1 V2 o (F + 1)) → (G % 2 = 1) → (Int.gcd x y = G * 2 ^ t) → (t < 384) → ∀ (fuel : Nat) (U Y : Nat) (W : Nat → Nat → Int), (MR V2 W o (18 * F) 36) → (RW (mr W o (18 * F)) (U : Int)) → (RW (mr W o (18 * (F + 1))) (Y : Int)) → (0 < Y) → (Nat.gcd U Y = G) → U + Y < fuel → Wk w d cd_X12_gcd 145 [(5, aI ((t : Int))), (4, aI ((18 * (F + 1) : Int))), (3, aI ((18 * F : Int))), (0, aO (some o)), (1, aI ((a : Int))), (2, aI ((b : Int)))] [] (hw h W) (RI (fun r h1 => ∃ p : Nat, r = p ∧ ∃ V1, h1 = hw h V1 ∧ Gm V V1 o 2 ∧ RV V1 o p ((Int.gcd x y : Nat) : Int))) := by
    intro V1 V2 t G m1 m2 hG hgt ht fuel
    induction fuel with
    | zero => intros; omega
    | succ fuel ih145 =>
      intro U Y W mrr lu lv hY hg hfuel
      have l153 : ∀ (fuel : Nat) (U1 : Nat) (W : Nat → Nat → Int), (MR V2 W o (18 * F) 36) → (RW (mr W o (18 * F)) (U1 : Int)) → (RW (mr W o (18 * (F + 1))) (Y : Int)) → (0 < U1 ∧ U1 ≤ U) → (Nat.gcd U1 Y = G) → U1 < fuel → Wk w d cd_X12_gcd 153 [(5, aI ((t : Int))), (4, aI ((18 * (F + 1) : Int))), (3, aI ((18 * F : Int))), (0, aO (some o)), (1, aI ((a : Int))), (2, aI ((b : Int)))] [] (hw h W) (RI (fun r h1 => ∃ p : Nat, r = p ∧ ∃ V1, h1 = hw h V1 ∧ Gm V V1 o 2 ∧ RV V1 o p ((Int.gcd x y : Nat) : Int))) := by
        intro fuel
        induction fuel with
        | zero => intros; omega
        | succ fuel ih153 =>
          intro U1 W mrr lu lv hU1 hg1 hfuel
          have l172 : (U1 % 2 = 1) → ∀ (fuel : Nat) (Y1 : Nat) (W : Nat → Nat → Int), (MR V2 W o (18 * F) 36) → (RW (mr W o (18 * F)) (U1 : Int)) → (RW (mr W o (18 * (F + 1))) (Y1 : Int)) → (0 < Y1 ∧ Y1 ≤ Y) → (Nat.gcd U1 Y1 = G) → Y1 < fuel → Wk w d cd_X12_gcd 172 [(5, aI ((t : Int))), (4, aI ((18 * (F + 1) : Int))), (3, aI ((18 * F : Int))), (0, aO (some o)), (1, aI ((a : Int))), (2, aI ((b : Int)))] [] (hw h W) (RI (fun r h1 => ∃ p : Nat, r = p ∧ ∃ V1, h1 = hw h V1 ∧ Gm V V1 o 2 ∧ RV V1 o p ((Int.gcd x y : Nat) : Int))) := by
            intro hodd fuel
            induction fuel with
            | zero => intros; omega
            | succ fuel ih172 =>
              intro Y1 W mrr lu lv hY1 hg2 hfuel
              refine g_aload_n rfl rfl ?_
              refine g_getR rfl ms.1 (mr_limb ms) ?_
              refine g_iload rfl rfl ?_
              refine g_iald (i := 18 * (F + 1)) rfl (mt_limb ms) (by omega) (by omega) ?_
              refine g_top (v2 := aI (W (o + 1) (18 * (F + 1)))) (congrArg aI (by rfl)) ?_
              refine g_iconst rfl ?_
              refine g_iand rfl ?_
              refine g_top (v2 := aI (((Y1 % 2 : Nat) : Int))) (congrArg aI (by show iand (W (o + 1) (18 * (F + 1) + 0)) 1 = _; rw [iand_one]; exact RW_even lv)) ?_
              refine g_if_ne rfl (fun c181 => ?_) (fun c181 => ?_)
              · skip
                refine g_aload_n rfl rfl ?_
                refine g_iload_n rfl rfl ?_
                refine g_iload rfl rfl ?_
                refine g_callVI [aI ((18 * F : Int)), aI ((18 * (F + 1) : Int))] [] rfl rfl rfl rfl (Nat.le_of_ble_eq_true rfl) ms.1 (m_compareSizes (by omega) ms W (18 * F) (18 * (F + 1)) (by omega) (by omega) lu.1 lv.1) ?_
                rintro _ _ ⟨rfl, rfl⟩
                have lc := @lcmp_lt ((((U1 : Nat) : Int)).natAbs : Int) ((((Y1 : Nat) : Int)).natAbs : Int)
                refine g_if_lt rfl (fun c200 => ?_) (fun c200 => ?_)
                · skip
                  refine g_aload_n rfl rfl ?_
                  refine g_iload rfl rfl ?_
                  refine g_iload_n rfl rfl ?_
                  refine g_iload rfl rfl ?_
                  refine g_iconst rfl ?_
                  refine g_callVN [aI ((18 * (F + 1) : Int)), aI ((18 * F : Int)), aI ((18 * (F + 1) : Int)), aI 1] [] rfl rfl rfl rfl (Nat.le_of_ble_eq_true rfl) ms.1 (m_takeSizes (by omega) ms W (18 * (F + 1)) (18 * F) (18 * (F + 1)) (by omega) (by omega) (by omega) lv.1.1 lu.1.1 (Or.inr (Or.inr rfl)) (by omega) 1 (by rw [lu.mvU, lv.mvU]; omega)) ?_
                  rintro _ ⟨Wb, rfl, mt, rt⟩
                  have lv9 : RW (mr Wb o (18 * (F + 1))) ((Y1 - U1 : Nat) : Int) := RC_rw rt (by rw [lu.mvU, lv.mvU]; omega)
                  have lu9 := lu.congr (mt.row (show 18 * F + 18 ≤ 18 * (F + 1) ∨ 18 * (F + 1) + 18 ≤ 18 * F by omega))
                  have hg9 : Nat.gcd U1 (Y1 - U1) = G := by rw [Nat.gcd_comm, Nat.gcd_sub_self_left (by omega), Nat.gcd_comm]; exact hg2
                  refine g_goto rfl ?_
                  exact ih145 U1 (Y1 - U1) Wb (by exact mrr.mf mt (by omega)) (by exact lu9) (by exact lv9) (by omega) (by exact hg9) (by omega)
                · skip
                  refine g_aload_n rfl rfl ?_
                  refine g_iload_n rfl rfl ?_
                  refine g_iload rfl rfl ?_
                  refine g_iload_n rfl rfl ?_
                  refine g_iconst rfl ?_
                  refine g_callVN [aI ((18 * F : Int)), aI ((18 * (F + 1) : Int)), aI ((18 * F : Int)), aI 1] [] rfl rfl rfl rfl (Nat.le_of_ble_eq_true rfl) ms.1 (m_takeSizes (by omega) ms W (18 * F) (18 * (F + 1)) (18 * F) (by omega) (by omega) (by omega) lu.1.1 lv.1.1 (Or.inr (Or.inr rfl)) (by omega) 1 (by rw [lu.mvU, lv.mvU]; omega)) ?_
                  rintro _ ⟨Wa, rfl, mt, rt⟩
                  have lu9 : RW (mr Wa o (18 * F)) ((U1 - Y1 : Nat) : Int) := RC_rw rt (by rw [lu.mvU, lv.mvU]; omega)
                  have lv9 := lv.congr (mt.row (show 18 * (F + 1) + 18 ≤ 18 * F ∨ 18 * F + 18 ≤ 18 * (F + 1) by omega))
                  have hg9 : Nat.gcd (U1 - Y1) Y1 = G := by rw [Nat.gcd_sub_self_left (by omega)]; exact hg2
                  refine g_goto rfl ?_
                  exact ih145 (U1 - Y1) Y1 Wa (by exact mrr.mf mt (by omega)) (by exact lu9) (by exact lv9) (by omega) (by exact hg9) (by omega)
              · skip
                refine g_aload_n rfl rfl ?_
                refine g_iload rfl rfl ?_
                refine g_callVN [aI ((18 * (F + 1) : Int))] [] rfl rfl rfl rfl (Nat.le_of_ble_eq_true rfl) ms.1 (m_halve (by omega) ms W (18 * (F + 1)) (by omega) lv.1.1) ?_
                rintro _ ⟨W2, rfl, mhW2, rhW2⟩
                have lv2 : RW (mr W2 o (18 * (F + 1))) ((Y1 / 2 : Nat) : Int) := by
                  refine RW_of rhW2 (by rw [lv.mvU]; rfl) (fun q => ?_)
                  rw [show W (o + 1) (18 * (F + 1) + 16) = 1 from RW_pos lv (by omega)]
                  rcases lcmp_v ((Y1 / 2 : Nat) : Int) with q | q | q <;> omega
                refine g_goto rfl ?_
                exact ih172 (Y1 / 2) W2 (by exact mrr.mf mhW2 (by omega)) (by exact lu.congr (mhW2.row (by omega))) (by exact lv2) (by omega) (by rw [Nat.gcd_comm, gcd_halfM (by omega) hodd, Nat.gcd_comm]; exact hg2) (by omega)
          refine g_aload_n rfl rfl ?_
          refine g_getR rfl ms.1 (mr_limb ms) ?_
          refine g_iload_n rfl rfl ?_
          refine g_iald (i := 18 * F) rfl (mt_limb ms) (by omega) (by omega) ?_
          refine g_top (v2 := aI (W (o + 1) (18 * F))) (congrArg aI (by rfl)) ?_
          refine g_iconst rfl ?_
          refine g_iand rfl ?_
          refine g_top (v2 := aI (((U1 % 2 : Nat) : Int))) (congrArg aI (by show iand (W (o + 1) (18 * F + 0)) 1 = _; rw [iand_one]; exact RW_even lu)) ?_
          refine g_if_ne rfl (fun c161 => ?_) (fun c161 => ?_)
          · skip
            exact l172 (by omega) _ Y _ (by exact mrr) (by exact lu) (by exact lv) (by omega) (by exact hg1) (Nat.lt_succ_self _)
          · skip
            refine g_aload_n rfl rfl ?_
            refine g_iload_n rfl rfl ?_
            refine g_callVN [aI ((18 * F : Int))] [] rfl rfl rfl rfl (Nat.le_of_ble_eq_true rfl) ms.1 (m_halve (by omega) ms W (18 * F) (by omega) lu.1.1) ?_
            rintro _ ⟨W2, rfl, mhW2, rhW2⟩
            have lu2 : RW (mr W2 o (18 * F)) ((U1 / 2 : Nat) : Int) := by
              refine RW_of rhW2 (by rw [lu.mvU]; rfl) (fun q => ?_)
              rw [show W (o + 1) (18 * F + 16) = 1 from RW_pos lu (by omega)]
              rcases lcmp_v ((U1 / 2 : Nat) : Int) with q | q | q <;> omega
            refine g_goto rfl ?_
            exact ih153 (U1 / 2) W2 (by exact mrr.mf mhW2 (by omega)) (by exact lu2) (by exact lv.congr (mhW2.row (by omega))) (by omega) (by rw [gcd_halfM (by omega) (odd_gcd hg1 hG (by omega))]; exact hg1) (by omega)
      refine g_aload_n rfl rfl ?_
      refine g_iload_n rfl rfl ?_
      refine g_callVI [aI ((18 * F : Int))] [] rfl rfl rfl rfl (Nat.le_of_ble_eq_true rfl) ms.1 (m_sign (by omega) ms W (18 * F) (by omega)) ?_
      rintro _ _ ⟨rfl, rfl⟩
      refine g_top (v2 := aI (lcmp ((U : Nat) : Int) 0)) (congrArg aI (lu.2)) ?_
      have lsu := lcmp_v (U : Int)
      refine g_if_eq rfl (fun c150 => ?_) (fun c150 => ?_)
      · skip
        have hU0 : U = 0 := by omega
        rw [hU0, Nat.gcd_zero_left] at hg
        have hgY : Y = G := hg
        refine g_iconst rfl ?_
        refine g_istore (l1 := [(6, aI 0), (5, aI ((t : Int))), (4, aI ((18 * (F + 1) : Int))), (3, aI ((18 * F : Int))), (0, aO (some o)), (1, aI ((a : Int))), (2, aI ((b : Int)))]) rfl rfl ?_
        exact l231 V1 V2 t G (by exact m1) (by exact m2) (by exact hgt) (by rw [← hgt]; exact gcd_lt xa xb (by rw [hgt]; exact Nat.mul_pos (by omega) (Nat.two_pow_pos _))) (by exact ht) (by omega) _ 0 _ (by omega) (by exact mrr) (by rw [Nat.pow_zero, Nat.mul_one, ← hgY]; exact lv) (Nat.lt_succ_self _)
      · skip
        exact l153 _ U _ (by exact mrr) (by exact lu) (by exact lv) (by omega) (by exact hg) (Nat.lt_succ_self _)
  have l105 : ∀ (V1 V2 : Nat → Nat → Int), (MFr V V1 o F) → (MFr V1 V2 o (F + 1)) → ∀ (fuel : Nat) (t U Y : Nat) (W : Nat → Nat → Int), (MR V2 W o (18 * F) 36) → (RW (mr W o (18 * F)) (U : Int)) → (RW (mr W o (18 * (F + 1))) (Y : Int)) → (0 < U) → (0 < Y) → (x.natAbs = U * 2 ^ t) → (y.natAbs = Y * 2 ^ t) → (t ≤ 400) → U < fuel → Wk w d cd_X12_gcd 105 [(5, aI ((t : Int))), (4, aI ((18 * (F + 1) : Int))), (3, aI ((18 * F : Int))), (0, aO (some o)), (1, aI ((a : Int))), (2, aI ((b : Int)))] [] (hw h W) (RI (fun r h1 => ∃ p : Nat, r = p ∧ ∃ V1, h1 = hw h V1 ∧ Gm V V1 o 2 ∧ RV V1 o p ((Int.gcd x y : Nat) : Int))) := by
    intro V1 V2 m1 m2 fuel
    induction fuel with
    | zero => intros; omega
    | succ fuel ih105 =>
      intro t U Y W mrr lu lv hU hY hx hy ht hfuel
      refine g_aload_n rfl rfl ?_
      refine g_getR rfl ms.1 (mr_limb ms) ?_
      refine g_iload_n rfl rfl ?_
      refine g_iald (i := 18 * F) rfl (mt_limb ms) (by omega) (by omega) ?_
      refine g_top (v2 := aI (W (o + 1) (18 * F))) (congrArg aI (by rfl)) ?_
      refine g_iconst rfl ?_
      refine g_iand rfl ?_
      refine g_top (v2 := aI (((U % 2 : Nat) : Int))) (congrArg aI (by show iand (W (o + 1) (18 * F + 0)) 1 = _; rw [iand_one]; exact RW_even lu)) ?_
      refine g_if_ne rfl (fun c113 => ?_) (fun c113 => ?_)
      · skip
        have hxl := natAbs_lt xa
        have hodd9 : U % 2 = 1 ∨ Y % 2 = 1 := by omega
        have hG0 : Nat.gcd U Y % 2 = 1 := by
          refine Classical.byContradiction fun q => ?_
          have h2 : 2 ∣ Nat.gcd U Y := Nat.dvd_of_mod_eq_zero (by omega)
          have h3 := Nat.dvd_trans h2 (Nat.gcd_dvd_left U Y)
          have h4 := Nat.dvd_trans h2 (Nat.gcd_dvd_right U Y)
          omega
        have hgt0 : Int.gcd x y = Nat.gcd U Y * 2 ^ t := by
          show Nat.gcd x.natAbs y.natAbs = _
          rw [hx, hy, Nat.gcd_mul_right]
        exact l145 V1 V2 t (Nat.gcd U Y) (by exact m1) (by exact m2) (by exact hG0) (by exact hgt0) (by exact pow_few hx hU hxl) _ U Y _ (by exact mrr) (by exact lu) (by exact lv) (by omega) (by rfl) (Nat.lt_succ_self _)
      · skip
        refine g_aload_n rfl rfl ?_
        refine g_getR rfl ms.1 (mr_limb ms) ?_
        refine g_iload rfl rfl ?_
        refine g_iald (i := 18 * (F + 1)) rfl (mt_limb ms) (by omega) (by omega) ?_
        refine g_top (v2 := aI (W (o + 1) (18 * (F + 1)))) (congrArg aI (by rfl)) ?_
        refine g_iconst rfl ?_
        refine g_iand rfl ?_
        refine g_top (v2 := aI (((Y % 2 : Nat) : Int))) (congrArg aI (by show iand (W (o + 1) (18 * (F + 1) + 0)) 1 = _; rw [iand_one]; exact RW_even lv)) ?_
        refine g_if_ne rfl (fun c125 => ?_) (fun c125 => ?_)
        · skip
          have hxl := natAbs_lt xa
          have hodd9 : U % 2 = 1 ∨ Y % 2 = 1 := by omega
          have hG0 : Nat.gcd U Y % 2 = 1 := by
            refine Classical.byContradiction fun q => ?_
            have h2 : 2 ∣ Nat.gcd U Y := Nat.dvd_of_mod_eq_zero (by omega)
            have h3 := Nat.dvd_trans h2 (Nat.gcd_dvd_left U Y)
            have h4 := Nat.dvd_trans h2 (Nat.gcd_dvd_right U Y)
            omega
          have hgt0 : Int.gcd x y = Nat.gcd U Y * 2 ^ t := by
            show Nat.gcd x.natAbs y.natAbs = _
            rw [hx, hy, Nat.gcd_mul_right]
          exact l145 V1 V2 t (Nat.gcd U Y) (by exact m1) (by exact m2) (by exact hG0) (by exact hgt0) (by exact pow_few hx hU hxl) _ U Y _ (by exact mrr) (by exact lu) (by exact lv) (by omega) (by rfl) (Nat.lt_succ_self _)
        · skip
          refine g_aload_n rfl rfl ?_
          refine g_iload_n rfl rfl ?_
          refine g_callVN [aI ((18 * F : Int))] [] rfl rfl rfl rfl (Nat.le_of_ble_eq_true rfl) ms.1 (m_halve (by omega) ms W (18 * F) (by omega) lu.1.1) ?_
          rintro _ ⟨W1, rfl, mhW1, rhW1⟩
          have lu1 : RW (mr W1 o (18 * F)) ((U / 2 : Nat) : Int) := by
            refine RW_of rhW1 (by rw [lu.mvU]; rfl) (fun q => ?_)
            rw [show W (o + 1) (18 * F + 16) = 1 from RW_pos lu hU]
            rcases lcmp_v ((U / 2 : Nat) : Int) with q | q | q <;> omega
          have lv1 := lv.congr (mhW1.row (show 18 * (F + 1) + 18 ≤ 18 * F ∨ 18 * F + 18 ≤ 18 * (F + 1) by omega))
          refine g_aload_n rfl rfl ?_
          refine g_iload rfl rfl ?_
          refine g_callVN [aI ((18 * (F + 1) : Int))] [] rfl rfl rfl rfl (Nat.le_of_ble_eq_true rfl) ms.1 (m_halve (by omega) ms W1 (18 * (F + 1)) (by omega) lv1.1.1) ?_
          rintro _ ⟨W2, rfl, mhW2, rhW2⟩
          have lv2 : RW (mr W2 o (18 * (F + 1))) ((Y / 2 : Nat) : Int) := by
            refine RW_of rhW2 (by rw [lv1.mvU]; rfl) (fun q => ?_)
            rw [show W1 (o + 1) (18 * (F + 1) + 16) = 1 from RW_pos lv1 hY]
            rcases lcmp_v ((Y / 2 : Nat) : Int) with q | q | q <;> omega
          have lu2 := lu1.congr (mhW2.row (show 18 * F + 18 ≤ 18 * (F + 1) ∨ 18 * (F + 1) + 18 ≤ 18 * F by omega))
          have ht_on : t + 1 ≤ 400 := by have := pow_few hx hU (natAbs_lt xa); omega
          refine g_iinc (l1 := [(5, aI ((t : Int) + 1)), (4, aI ((18 * (F + 1) : Int))), (3, aI ((18 * F : Int))), (0, aO (some o)), (1, aI ((a : Int))), (2, aI ((b : Int)))]) rfl rfl (by omega) (by omega) rfl ?_
          refine g_goto rfl ?_
          exact ih105 (t + 1) (U / 2) (Y / 2) W2 (by exact (mrr.mf mhW1 (by omega)).mf mhW2 (by omega)) (by exact lu2) (by exact lv2) (by omega) (by omega) (by exact half_pow hx (by omega)) (by exact half_pow hy (by omega)) (by exact ht_on) (by omega)
  have j69 : ∀ (s2 : Int) (V1 V2 V5 : Nat → Nat → Int), (s2 = if y = 0 then 0 else 1) → (MFr V V1 o F) → (MFr V1 V2 o (F + 1)) → (MR V2 V5 o (18 * F) 36) → (RW (mr V5 o (18 * F)) ((x.natAbs : Nat) : Int)) → (RW (mr V5 o (18 * (F + 1))) y) → Wk w d cd_X12_gcd 69 [(4, aI ((18 * (F + 1) : Int))), (3, aI ((18 * F : Int))), (0, aO (some o)), (1, aI ((a : Int))), (2, aI ((b : Int)))] [aI s2, aI ((18 * (F + 1) + 16 : Int)), aO (some (o + 1))] (hw h V5) (RI (fun r h1 => ∃ p : Nat, r = p ∧ ∃ V1, h1 = hw h V1 ∧ Gm V V1 o 2 ∧ RV V1 o p ((Int.gcd x y : Nat) : Int))) := by
    intro s2 V1 V2 V5 hs2 m1 m2 n5 wx5 wy5
    have da := xa.dis hF
    have db := xb.dis hF
    have lx := lcmp_v x
    have ly := lcmp_v y
    have lx2 := lcmp_v ((x.natAbs : Nat) : Int)
    have ly2 := lcmp_v ((y.natAbs : Nat) : Int)
    refine g_iast (i := 18 * (F + 1) + 16) rfl (mt_limb ms) (by omega) (by omega) ?_
    obtain ⟨V6, eV6⟩ : ∃ W, W = vset V5 (o + 1) (18 * (F + 1) + 16) s2 := ⟨_, rfl⟩
    refine g_hp (h2 := hw h V6) (by rw [eV6]; rfl) ?_
    have n6 : MR V2 V6 o (18 * F) 36 := by rw [eV6]; exact n5.mf (MF.set (r := 18 * (F + 1)) _ (by omega)) (by omega)
    have wx6 : RW (mr V6 o (18 * F)) ((x.natAbs : Nat) : Int) := by rw [eV6]; exact wx5.congr (fun k hk => vset_ne _ _ _ _ (by omega))
    have wy6 : RW (mr V6 o (18 * (F + 1))) ((y.natAbs : Nat) : Int) := by rw [eV6]; exact abs_rw wy5 hs2
    refine g_aload_n rfl rfl ?_
    refine g_iload_n rfl rfl ?_
    refine g_callVI [aI ((18 * F : Int))] [] rfl rfl rfl rfl (Nat.le_of_ble_eq_true rfl) ms.1 (m_sign (by omega) ms V6 (18 * F) (by omega)) ?_
    rintro _ _ ⟨rfl, rfl⟩
    refine g_top (v2 := aI (lcmp ((x.natAbs : Nat) : Int) 0)) (congrArg aI (wx6.2)) ?_
    refine g_if_eq rfl (fun c75 => ?_) (fun c75 => ?_)
    · skip
      refine g_aload_n rfl rfl ?_
      refine g_iload_n rfl rfl ?_
      refine g_callVI [aI ((18 * F : Int))] [] rfl rfl rfl rfl (Nat.le_of_ble_eq_true rfl) ms.1 (m_sign (by omega) ms V6 (18 * F) (by omega)) ?_
      rintro _ _ ⟨rfl, rfl⟩
      refine g_top (v2 := aI (lcmp ((x.natAbs : Nat) : Int) 0)) (congrArg aI (wx6.2)) ?_
      refine g_if_ne rfl (fun c92 => ?_) (fun c92 => ?_)
      · skip
        refine g_iload_n rfl rfl ?_
        refine g_iret rfl ?_
        first
          | (obtain ⟨f1, f2⟩ := fin_m2 (i := F + 1) hF hF7 m1 m2 n6 (by omega) (z := ((Int.gcd x y : Nat) : Int)) (by rw [show Int.gcd x y = y.natAbs by rw [show x = 0 by omega, Int.gcd_zero_left]]; exact wy6)
             exact ⟨18 * (F + 1), rfl, V6, rfl, f1, f2⟩)
          | (obtain ⟨f1, f2⟩ := fin_m2 (i := F) hF hF7 m1 m2 n6 (by omega) (z := ((Int.gcd x y : Nat) : Int)) (by rw [show Int.gcd x y = x.natAbs by rw [show y = 0 by omega, Int.gcd_zero_right]]; exact wx6)
             exact ⟨18 * F, rfl, V6, rfl, f1, f2⟩)
      · skip
        refine g_iload rfl rfl ?_
        refine g_goto rfl ?_
        refine g_iret rfl ?_
        first
          | (obtain ⟨f1, f2⟩ := fin_m2 (i := F + 1) hF hF7 m1 m2 n6 (by omega) (z := ((Int.gcd x y : Nat) : Int)) (by rw [show Int.gcd x y = y.natAbs by rw [show x = 0 by omega, Int.gcd_zero_left]]; exact wy6)
             exact ⟨18 * (F + 1), rfl, V6, rfl, f1, f2⟩)
          | (obtain ⟨f1, f2⟩ := fin_m2 (i := F) hF hF7 m1 m2 n6 (by omega) (z := ((Int.gcd x y : Nat) : Int)) (by rw [show Int.gcd x y = x.natAbs by rw [show y = 0 by omega, Int.gcd_zero_right]]; exact wx6)
             exact ⟨18 * F, rfl, V6, rfl, f1, f2⟩)
    · skip
      refine g_aload_n rfl rfl ?_
      refine g_iload rfl rfl ?_
      refine g_callVI [aI ((18 * (F + 1) : Int))] [] rfl rfl rfl rfl (Nat.le_of_ble_eq_true rfl) ms.1 (m_sign (by omega) ms V6 (18 * (F + 1)) (by omega)) ?_
      rintro _ _ ⟨rfl, rfl⟩
      refine g_top (v2 := aI (lcmp ((y.natAbs : Nat) : Int) 0)) (congrArg aI (wy6.2)) ?_
      refine g_if_ne rfl (fun c84 => ?_) (fun c84 => ?_)
      · skip
        refine g_iconst rfl ?_
        refine g_istore (l1 := [(5, aI 0), (4, aI ((18 * (F + 1) : Int))), (3, aI ((18 * F : Int))), (0, aO (some o)), (1, aI ((a : Int))), (2, aI ((b : Int)))]) rfl rfl ?_
        exact l105 V1 V2 (by exact m1) (by exact m2) _ 0 x.natAbs y.natAbs V6 (by exact n6) (by exact wx6) (by exact wy6) (by omega) (by omega) (by rw [Nat.pow_zero, Nat.mul_one]) (by rw [Nat.pow_zero, Nat.mul_one]) (by omega) (Nat.lt_succ_self _)
      · skip
        refine g_aload_n rfl rfl ?_
        refine g_iload_n rfl rfl ?_
        refine g_callVI [aI ((18 * F : Int))] [] rfl rfl rfl rfl (Nat.le_of_ble_eq_true rfl) ms.1 (m_sign (by omega) ms V6 (18 * F) (by omega)) ?_
        rintro _ _ ⟨rfl, rfl⟩
        refine g_top (v2 := aI (lcmp ((x.natAbs : Nat) : Int) 0)) (congrArg aI (wx6.2)) ?_
        refine g_if_ne rfl (fun c92 => ?_) (fun c92 => ?_)
        · skip
          refine g_iload_n rfl rfl ?_
          refine g_iret rfl ?_
          first
            | (obtain ⟨f1, f2⟩ := fin_m2 (i := F + 1) hF hF7 m1 m2 n6 (by omega) (z := ((Int.gcd x y : Nat) : Int)) (by rw [show Int.gcd x y = y.natAbs by rw [show x = 0 by omega, Int.gcd_zero_left]]; exact wy6)
               exact ⟨18 * (F + 1), rfl, V6, rfl, f1, f2⟩)
            | (obtain ⟨f1, f2⟩ := fin_m2 (i := F) hF hF7 m1 m2 n6 (by omega) (z := ((Int.gcd x y : Nat) : Int)) (by rw [show Int.gcd x y = x.natAbs by rw [show y = 0 by omega, Int.gcd_zero_right]]; exact wx6)
               exact ⟨18 * F, rfl, V6, rfl, f1, f2⟩)
        · skip
          refine g_iload rfl rfl ?_
          refine g_goto rfl ?_
          refine g_iret rfl ?_
          first
            | (obtain ⟨f1, f2⟩ := fin_m2 (i := F + 1) hF hF7 m1 m2 n6 (by omega) (z := ((Int.gcd x y : Nat) : Int)) (by rw [show Int.gcd x y = y.natAbs by rw [show x = 0 by omega, Int.gcd_zero_left]]; exact wy6)
               exact ⟨18 * (F + 1), rfl, V6, rfl, f1, f2⟩)
            | (obtain ⟨f1, f2⟩ := fin_m2 (i := F) hF hF7 m1 m2 n6 (by omega) (z := ((Int.gcd x y : Nat) : Int)) (by rw [show Int.gcd x y = x.natAbs by rw [show y = 0 by omega, Int.gcd_zero_right]]; exact wx6)
               exact ⟨18 * F, rfl, V6, rfl, f1, f2⟩)
  have j45 : ∀ (s1 : Int) (V1 V2 V4 : Nat → Nat → Int), (s1 = if x = 0 then 0 else 1) → (MFr V V1 o F) → (MFr V1 V2 o (F + 1)) → (MR V2 V4 o (18 * F) 36) → (RW (mr V4 o (18 * F)) x) → (RW (mr V4 o (18 * (F + 1))) y) → Wk w d cd_X12_gcd 45 [(4, aI ((18 * (F + 1) : Int))), (3, aI ((18 * F : Int))), (0, aO (some o)), (1, aI ((a : Int))), (2, aI ((b : Int)))] [aI s1, aI ((18 * F + 16 : Int)), aO (some (o + 1))] (hw h V4) (RI (fun r h1 => ∃ p : Nat, r = p ∧ ∃ V1, h1 = hw h V1 ∧ Gm V V1 o 2 ∧ RV V1 o p ((Int.gcd x y : Nat) : Int))) := by
    intro s1 V1 V2 V4 hs1 m1 m2 n3 wx4 wy4
    have da := xa.dis hF
    have db := xb.dis hF
    have lx := lcmp_v x
    have ly := lcmp_v y
    refine g_iast (i := 18 * F + 16) rfl (mt_limb ms) (by omega) (by omega) ?_
    obtain ⟨V5, eV5⟩ : ∃ W, W = vset V4 (o + 1) (18 * F + 16) s1 := ⟨_, rfl⟩
    refine g_hp (h2 := hw h V5) (by rw [eV5]; rfl) ?_
    have n5 : MR V2 V5 o (18 * F) 36 := by rw [eV5]; exact n3.mf (MF.set (r := 18 * F) _ (by omega)) (by omega)
    have wx5 : RW (mr V5 o (18 * F)) ((x.natAbs : Nat) : Int) := by rw [eV5]; exact abs_rw wx4 hs1
    have wy5 : RW (mr V5 o (18 * (F + 1))) y := by rw [eV5]; exact wy4.congr (fun k hk => vset_ne _ _ _ _ (by omega))
    refine g_aload_n rfl rfl ?_
    refine g_getR rfl ms.1 (mr_limb ms) ?_
    refine g_iload rfl rfl ?_
    refine g_bipush rfl ?_
    refine g_iadd rfl (by omega) (by omega) ?_
    refine g_aload_n rfl rfl ?_
    refine g_iload rfl rfl ?_
    refine g_callVI [aI ((18 * (F + 1) : Int))] [aI (((18 * (F + 1) : Int)) + 16), aO (some (o + 1))] rfl rfl rfl rfl (Nat.le_of_ble_eq_true rfl) ms.1 (m_sign (by omega) ms V5 (18 * (F + 1)) (by omega)) ?_
    rintro _ _ ⟨rfl, rfl⟩
    refine g_top (v2 := aI (lcmp y 0)) (congrArg aI (wy5.2)) ?_
    refine g_if_ne rfl (fun c61 => ?_) (fun c61 => ?_)
    · skip
      refine g_iconst rfl ?_
      exact j69 _ V1 V2 V5 (by rw [if_neg (by omega)]) (by exact m1) (by exact m2) (by exact n5) (by exact wx5) (by exact wy5)
    · skip
      refine g_iconst rfl ?_
      refine g_goto rfl ?_
      exact j69 _ V1 V2 V5 (by rw [if_pos (by omega)]) (by exact m1) (by exact m2) (by exact n5) (by exact wx5) (by exact wy5)
  refine g_aload_n rfl rfl ?_
  refine g_callVI [] [] rfl rfl rfl rfl (Nat.le_of_ble_eq_true rfl) ms.1 (m_fresh (by omega) ms V F hF (by omega)) ?_
  rintro _ _ ⟨⟨V1, rfl, m1⟩, rfl⟩
  have f11 := m1.2.2.1
  have da := xa.dis hF
  have db := xb.dis hF
  refine g_istore_n (l1 := [(3, aI ((18 * F : Int))), (0, aO (some o)), (1, aI ((a : Int))), (2, aI ((b : Int)))]) rfl rfl ?_
  refine g_aload_n rfl rfl ?_
  refine g_callVI [] [] rfl rfl rfl rfl (Nat.le_of_ble_eq_true rfl) ms.1 (m_fresh (by omega) ms V1 (F + 1) (by omega) hF7) ?_
  rintro _ _ ⟨⟨V2, rfl, m2⟩, rfl⟩
  have xa2 := (xa.fr hF (by omega) m1).fr (F := F + 1) (by omega) hF7 m2
  have xb2 := (xb.fr hF (by omega) m1).fr (F := F + 1) (by omega) hF7 m2
  refine g_istore (l1 := [(4, aI ((18 * (F + 1) : Int))), (3, aI ((18 * F : Int))), (0, aO (some o)), (1, aI ((a : Int))), (2, aI ((b : Int)))]) rfl rfl ?_
  refine g_aload_n rfl rfl ?_
  refine g_iload_n rfl rfl ?_
  refine g_iload_n rfl rfl ?_
  refine g_callVN [aI ((18 * F : Int)), aI ((a : Int))] [] rfl rfl rfl rfl (Nat.le_of_ble_eq_true rfl) ms.1 (m_set (by omega) ms V2 (18 * F) a (by omega) xa.b (by omega)) ?_
  rintro _ ⟨V3, rfl, m3, r3⟩
  refine g_aload_n rfl rfl ?_
  refine g_iload rfl rfl ?_
  refine g_iload_n rfl rfl ?_
  refine g_callVN [aI ((18 * (F + 1) : Int)), aI ((b : Int))] [] rfl rfl rfl rfl (Nat.le_of_ble_eq_true rfl) ms.1 (m_set (by omega) ms V3 (18 * (F + 1)) b (by omega) xb.b (by omega)) ?_
  rintro _ ⟨V4, rfl, m4, r4⟩
  have wx4 : RW (mr V4 o (18 * F)) x := (xa2.w.congr r3).congr (m4.row (by omega))
  have wy4 : RW (mr V4 o (18 * (F + 1))) y := (xb2.w.congr (m3.row (by omega))).congr r4
  have n3 : MR V2 V4 o (18 * F) 36 := ((MR.refl _ _ _ _).mf m3 (by omega)).mf m4 (by omega)
  have lx := lcmp_v x
  have ly := lcmp_v y
  refine g_aload_n rfl rfl ?_
  refine g_getR rfl ms.1 (mr_limb ms) ?_
  refine g_iload_n rfl rfl ?_
  refine g_bipush rfl ?_
  refine g_iadd rfl (by omega) (by omega) ?_
  refine g_aload_n rfl rfl ?_
  refine g_iload_n rfl rfl ?_
  refine g_callVI [aI ((18 * F : Int))] [aI (((18 * F : Int)) + 16), aO (some (o + 1))] rfl rfl rfl rfl (Nat.le_of_ble_eq_true rfl) ms.1 (m_sign (by omega) ms V4 (18 * F) (by omega)) ?_
  rintro _ _ ⟨rfl, rfl⟩
  refine g_top (v2 := aI (lcmp x 0)) (congrArg aI (wx4.2)) ?_
  refine g_if_ne rfl (fun c37 => ?_) (fun c37 => ?_)
  · skip
    refine g_iconst rfl ?_
    exact j45 _ V1 V2 V4 (by rw [if_neg (by omega)]) (by exact m1) (by exact m2) (by exact n3) (by exact wx4) (by exact wy4)
  · skip
    refine g_iconst rfl ?_
    refine g_goto rfl ?_
    exact j45 _ V1 V2 V4 (by rw [if_pos (by omega)]) (by exact m1) (by exact m2) (by exact n3) (by exact wx4) (by exact wy4)
