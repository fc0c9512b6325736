/-! the reference's whole numbers, on: quotients: printed by wip/whole/c7.py -/
theorem dig_bit {f : Nat → Int} (h : ML f) {k t : Nat} (hk : k < 16) (ht : t < 24) : mv f 16 / 2 ^ (24 * k + t) % 2 = f k / 2 ^ t % 2 := by
  have e := mv_split f k ((15 - k) + 1)
  rw [show k + ((15 - k) + 1) = 16 by omega, mv_cons (fun j => f (k + j)) (15 - k)] at e
  have hb := mv_b (fun j hj => h j (by omega) : ∀ j < k, 0 ≤ f j ∧ f j < 16777216)
  have hP : (16777216 : Int) ^ k = 2 ^ (24 * k) := by rw [show (16777216 : Int) = 2 ^ 24 by decide, ← Int.pow_mul]
  have e2 : mv f 16 / 2 ^ (24 * k) = f k + 16777216 * mv (fun j => f (k + (j + 1))) (15 - k) := by
    rw [e, ← hP, Int.add_mul_ediv_right _ _ (by have := mp_pos k; omega), Int.ediv_eq_zero_of_lt hb.1 hb.2, Int.zero_add]
    rfl
  have hp0 : (0 : Int) < 2 ^ (24 * k) := Int.pow_pos (by decide)
  have hpt : (0 : Int) < 2 ^ t := Int.pow_pos (by decide)
  rw [Int.pow_add, ← Int.ediv_ediv_of_nonneg (Int.le_of_lt hp0), e2]
  generalize mv (fun j => f (k + (j + 1))) (15 - k) = Z
  have e3 : (16777216 : Int) * Z = 2 ^ (23 - t) * 2 * Z * 2 ^ t := by
    have : (16777216 : Int) = 2 ^ (23 - t) * 2 * 2 ^ t := by
      rw [← Int.pow_succ, ← Int.pow_add, show 23 - t + 1 + t = 24 by omega]
      decide
    rw [this]
    grind
  rw [e3, Int.add_mul_ediv_right _ _ (by omega)]
  generalize (2 : Int) ^ (23 - t) = A
  have : A * 2 * Z = 2 * (A * Z) := by grind
  omega
/-- what the long division keeps -/
def DV (X Y Q R e : Nat) : Prop := Q * Y + R = X / 2 ^ e ∧ R < Y
theorem DV_start {X Y e : Nat} (hY : 0 < Y) (h : X < 2 ^ e) : DV X Y 0 0 e := ⟨by rw [Nat.div_eq_of_lt h]; omega, hY⟩
theorem DV_bit {X e : Nat} : X / 2 ^ e = 2 * (X / 2 ^ (e + 1)) + X / 2 ^ e % 2 := by
  rw [Nat.pow_succ, ← Nat.div_div_eq_div_mul]
  omega
theorem DV_yes {X Y Q R e b : Nat} (h : DV X Y Q R (e + 1)) (hb : b = X / 2 ^ e % 2) (hle : Y ≤ 2 * R + b) : DV X Y (2 * Q + 1) (2 * R + b - Y) e := by
  have h1 := @DV_bit X e
  obtain ⟨h2, h3⟩ := h
  have e1 : (2 * Q + 1) * Y = 2 * (Q * Y) + Y := by grind
  refine ⟨?_, ?_⟩
  · rw [e1]; omega
  · have : b < 2 := by omega
    omega
theorem DV_no {X Y Q R e b : Nat} (h : DV X Y Q R (e + 1)) (hb : b = X / 2 ^ e % 2) (hle : 2 * R + b < Y) : DV X Y (2 * Q) (2 * R + b) e := by
  have h1 := @DV_bit X e
  obtain ⟨h2, h3⟩ := h
  have e1 : 2 * Q * Y = 2 * (Q * Y) := by grind
  exact ⟨by rw [e1]; omega, hle⟩
theorem DV_end {X Y Q R : Nat} (h : DV X Y Q R 0) : Q = X / Y := by
  obtain ⟨h1, h2⟩ := h
  rw [Nat.pow_zero, Nat.div_one] at h1
  rw [← h1, Nat.mul_comm Q Y, Nat.mul_add_div (by omega), Nat.div_eq_of_lt h2, Nat.add_zero]
theorem DV_q {X Y Q R e : Nat} (h : DV X Y Q R e) : Q ≤ X := by
  obtain ⟨h1, h2⟩ := h
  have h3 := Nat.div_le_self X (2 ^ e)
  have h4 := Nat.le_mul_of_pos_right Q (show 0 < Y by omega)
  omega
theorem tdiv_sgn {x y : Int} (hy : y ≠ 0) (h : x.tdiv y ≠ 0) : lcmp x 0 * lcmp y 0 = lcmp (x.tdiv y) 0 := by
  have hq := quo_sign (x := x) hy
  have h3 := lcmp_v (x.tdiv y)
  have hz : x ≠ 0 := fun e => h (by rw [e, Int.zero_tdiv])
  generalize ((x.natAbs / y.natAbs : Nat) : Int) = Z at hq
  by_cases q : lcmp x 0 = lcmp y 0
  · rw [if_pos q] at hq
    have hZ : 0 ≤ x.tdiv y := by
      rcases lcmp_v x with ⟨a, b⟩ | ⟨a, b⟩ | ⟨a, b⟩ <;> rcases lcmp_v y with ⟨a2, b2⟩ | ⟨a2, b2⟩ | ⟨a2, b2⟩ <;> first | omega | exact Int.tdiv_nonneg_of_nonpos_of_nonpos (by omega) (by omega) | exact Int.tdiv_nonneg (by omega) (by omega)
    rcases lcmp_v x with ⟨a, b⟩ | ⟨a, b⟩ | ⟨a, b⟩ <;> rcases lcmp_v y with ⟨a2, b2⟩ | ⟨a2, b2⟩ | ⟨a2, b2⟩ <;> rw [b, b2] <;> omega
  · have hZ : x.tdiv y ≤ 0 := by
      rcases lcmp_v x with ⟨a, b⟩ | ⟨a, b⟩ | ⟨a, b⟩ <;> rcases lcmp_v y with ⟨a2, b2⟩ | ⟨a2, b2⟩ | ⟨a2, b2⟩ <;> first | omega | exact Int.tdiv_nonpos_of_nonneg_of_nonpos (by omega) (by omega) | (have q7 := Int.tdiv_nonneg (a := -x) (b := y) (by omega) (by omega); rw [Int.neg_tdiv] at q7; omega)
    rcases lcmp_v x with ⟨a, b⟩ | ⟨a, b⟩ | ⟨a, b⟩ <;> rcases lcmp_v y with ⟨a2, b2⟩ | ⟨a2, b2⟩ | ⟨a2, b2⟩ <;> rw [b, b2] <;> omega
theorem dv_shl {R Y : Nat} {b : Int} (hR : R < Y) (hY : Y ≤ 2 ^ 382) (hb : b = 0 ∨ b = 1) : 2 * ((R : Nat) : Int) + b < 16777216 ^ 16 := by
  have h1 : ((2 ^ 384 : Nat) : Int) = 16777216 ^ 16 := by decide
  have h2 : (2 : Nat) ^ 384 = 4 * 2 ^ 382 := by decide
  omega
set_option maxHeartbeats 4000000 in
theorem m_div {w : aW} {d : Nat} (hd : 3 ≤ d) {h : aH} {o : Nat} (ms : MS h o) (V : Nat → Nat → Int) (F : Nat) (hF : V o 1 = F) (hF7 : F + 1 < 700) {a b_ : Nat} {x y : Int} (xa : RV V o a x) (xb : RV V o b_ y) (hy0 : y = 0 → x = 0) (hx8 : x.natAbs ≤ 2 ^ 381) (hy8 : y.natAbs ≤ 2 ^ 382) : WP w d 263 [aO (some o), aI ((a : Int)), aI ((b_ : Int))] (hw h V) (RI (fun r h1 => ∃ p : Nat, r = p ∧ ∃ V1, h1 = hw h V1 ∧ Gm V V1 o 2 ∧ RV V1 o p (x.tdiv y))) := by
  obtain ⟨d, rfl⟩ : ∃ d1, d = d1 + 1 := ⟨d - 1, by omega⟩
  refine WP.enter (cd := cd_X12_div) rfl ?_
  obtain ⟨na0, hna0⟩ : ∃ n : Nat, V (o + 1) (a + 17) = n := ⟨_, xa.c.2.2.choose_spec.2.1⟩
  have hab := xa.b
  have hbb := xb.b
  have hls : largs 0 [aO (some o), aI ((a : Int)), aI ((b_ : Int))] = [(0, aO (some o)), (1, aI ((a : Int))), (2, aI ((b_ : Int)))] := rfl
  rw [hls]
  clear hls
  have l24 : ∀ (V1 V2 : Nat → Nat → Int) (na : Nat), (MFr V V1 o F) → (MFr V1 V2 o (F + 1)) → (V (o + 1) (a + 17) = na) → (na ≤ 16) → (0 < na → y ≠ 0) → ∀ (fuel : Nat) (m Q R : Nat) (W : Nat → Nat → Int), (m ≤ na) → (MR V2 W o (18 * F) 36) → (RW (mr W o (18 * F)) (Q : Int)) → (RW (mr W o (18 * (F + 1))) (R : Int)) → (y ≠ 0 → DV x.natAbs y.natAbs Q R (24 * m)) → (y = 0 → Q = 0) → m < fuel → Wk w d cd_X12_div 24 [(5, aI ((m : Int) - 1)), (4, aI ((18 * (F + 1) : Int))), (3, aI ((18 * F : Int))), (0, aO (some o)), (1, aI ((a : Int))), (2, aI ((b_ : Int)))] [] (hw h W) (RI (fun r h1 => ∃ p : Nat, r = p ∧ ∃ V1, h1 = hw h V1 ∧ Gm V V1 o 2 ∧ RV V1 o p (x.tdiv y))) := by
    intro V1 V2 na m1 m2 hna hna2 hnz fuel
    induction fuel with
    | zero => intros; omega
    | succ fuel ih24 =>
      intro m Q R W hm mrr lq lr dv dz hfuel
      have l33 : (0 < m) → (y ≠ 0) → ∀ (fuel : Nat) (t Q R : Nat) (W : Nat → Nat → Int), (t ≤ 24) → (MR V2 W o (18 * F) 36) → (RW (mr W o (18 * F)) (Q : Int)) → (RW (mr W o (18 * (F + 1))) (R : Int)) → (DV x.natAbs y.natAbs Q R (24 * (m - 1) + t)) → t < fuel → Wk w d cd_X12_div 33 [(6, aI ((t : Int) - 1)), (5, aI ((m : Int) - 1)), (4, aI ((18 * (F + 1) : Int))), (3, aI ((18 * F : Int))), (0, aO (some o)), (1, aI ((a : Int))), (2, aI ((b_ : Int)))] [] (hw h W) (RI (fun r h1 => ∃ p : Nat, r = p ∧ ∃ V1, h1 = hw h V1 ∧ Gm V V1 o 2 ∧ RV V1 o p (x.tdiv y))) := by
        intro hm1 hy fuel
        induction fuel with
        | zero => intros; omega
        | succ fuel ih33 =>
          intro t Q R W ht mrr lq lr dv hfuel
          refine g_iload rfl rfl ?_
          refine g_if_lt rfl (fun c35 => ?_) (fun c35 => ?_)
          · skip
            refine g_iinc (l1 := [(5, aI ((m : Int) - 1 + (-1))), (6, aI ((t : Int) - 1)), (4, aI ((18 * (F + 1) : Int))), (3, aI ((18 * F : Int))), (0, aO (some o)), (1, aI ((a : Int))), (2, aI ((b_ : Int)))]) rfl rfl (by omega) (by omega) rfl ?_
            rw [show ((m : Int) - 1 + (-1) : Int) = ((m - 1 : Nat) : Int) - 1 by omega]
            refine g_goto rfl ?_
            refine g_ls [0, 2, 3, 4, 5, 6] rfl rfl ?_
            exact ih24 (m - 1) Q R _ (by omega) (by exact mrr) (by exact lq) (by exact lr) (by intro _; rw [show 24 * (m - 1) + t = 24 * (m - 1) by omega] at dv; exact dv) (by intro e; exact absurd e hy) (by omega)
          · skip
            refine g_aload_n rfl rfl ?_
            refine g_iload rfl rfl ?_
            refine g_aload_n rfl rfl ?_
            refine g_getR rfl ms.1 (mr_limb ms) ?_
            refine g_iload_n rfl rfl ?_
            refine g_iload rfl rfl ?_
            refine g_iadd rfl (by omega) (by omega) ?_
            refine g_iald (i := (a + (m - 1))) rfl (mt_limb ms) (by omega) (by omega) ?_
            refine g_top (v2 := aI (W (o + 1) (a + (m - 1)))) (congrArg aI (by rfl)) ?_
            have da := xa.dis hF
            have db := xb.dis hF
            have f11 := m1.2.2.1
            have xa2 := (xa.fr hF (by omega) m1).fr (F := F + 1) (by omega) hF7 m2
            have xb2 := (xb.fr hF (by omega) m1).fr (F := F + 1) (by omega) hF7 m2
            refine g_top (v2 := aI (V (o + 1) (a + (m - 1)))) (congrArg aI (by rw [mrr.2 _ (by omega), m2.2.2.2.1 _ (by omega), m1.2.2.2.1 _ (by omega)])) ?_
            refine g_iload rfl rfl ?_
            refine g_ishr rfl ?_
            refine g_iconst rfl ?_
            refine g_iand rfl ?_
            obtain ⟨b, hb0⟩ : ∃ b : Nat, b = x.natAbs / 2 ^ (24 * (m - 1) + (t - 1)) % 2 := ⟨_, rfl⟩
            have hb1 := hb0
            have hbit : iand (ishr (V (o + 1) (a + (m - 1))) ((t : Int) - 1)) 1 = (b : Int) := by
              rw [hb0, show (t : Int) - 1 = ((t - 1 : Nat) : Int) by omega]
              have q1 := dig_bit xa.l (k := m - 1) (t := t - 1) (by omega) (by omega)
              rw [xa.v] at q1
              rw [iand_one]
              unfold ishr
              rw [show (((t - 1 : Nat) : Int) % 32).toNat = t - 1 by omega]
              show V (o + 1) (a + (m - 1)) / 2 ^ (t - 1) % 2 = _
              rw [← show mr V o a (m - 1) = V (o + 1) (a + (m - 1)) from rfl, ← q1]
              rw [Int.natCast_emod, Int.natCast_ediv, Int.natCast_pow]
              rfl
            have dvb : DV x.natAbs y.natAbs Q R (24 * (m - 1) + (t - 1) + 1) := by rw [show 24 * (m - 1) + (t - 1) + 1 = 24 * (m - 1) + t by omega]; exact dv
            have hb2 : b < 2 := by omega
            refine g_top (v2 := aI ((b : Int))) (congrArg aI (by exact hbit)) ?_
            refine g_callVN [aI ((18 * (F + 1) : Int)), aI ((b : Int))] [] rfl rfl rfl rfl (Nat.le_of_ble_eq_true rfl) ms.1 (m_shift (by omega) ms W (18 * (F + 1)) (by omega) (b : Int) (by omega) lr.1.1 (by rw [lr.mvU]; exact dv_shl dv.2 hy8 (by omega))) ?_
            rintro _ ⟨W1, rfl, ms1, rs1⟩
            have lr1 : RW (mr W1 o (18 * (F + 1))) ((2 * R + b : Nat) : Int) := RC_rw rs1 (by rw [lr.mvU]; omega)
            have lq1 := lq.congr (ms1.row (show 18 * F + 18 ≤ 18 * (F + 1) ∨ 18 * (F + 1) + 18 ≤ 18 * F by omega))
            have mr1 := mrr.mf ms1 (by omega)
            have xb1 : RW (mr W1 o b_) y := (xb2.w.congr (mrr.row (by omega))).congr (ms1.row (by omega))
            refine g_aload_n rfl rfl ?_
            refine g_iload rfl rfl ?_
            refine g_iload_n rfl rfl ?_
            refine g_callVI [aI ((18 * (F + 1) : Int)), aI ((b_ : Int))] [] rfl rfl rfl rfl (Nat.le_of_ble_eq_true rfl) ms.1 (m_compareSizes (by omega) ms W1 (18 * (F + 1)) b_ (by omega) xb.b lr1.1 xb1.1) ?_
            rintro _ _ ⟨rfl, rfl⟩
            have lc := @lcmp_lt ((((2 * R + b : Nat) : Int)).natAbs : Int) (y.natAbs : Int)
            refine g_if_lt rfl (fun c65 => ?_) (fun c65 => ?_)
            · skip
              refine g_iconst rfl ?_
              refine g_istore (l1 := [(7, aI 0), (6, aI ((t : Int) - 1)), (5, aI ((m : Int) - 1)), (4, aI ((18 * (F + 1) : Int))), (3, aI ((18 * F : Int))), (0, aO (some o)), (1, aI ((a : Int))), (2, aI ((b_ : Int)))]) rfl rfl ?_
              refine g_iload rfl rfl ?_
              refine g_if_eq_t rfl (by omega) ?_
              refine g_aload_n rfl rfl ?_
              refine g_iload_n rfl rfl ?_
              refine g_iload rfl rfl ?_
              refine g_if_eq_t rfl (by omega) ?_
              refine g_iconst rfl ?_
              refine g_callVN [aI ((18 * F : Int)), aI 0] [] rfl rfl rfl rfl (Nat.le_of_ble_eq_true rfl) ms.1 (m_shift (by omega) ms W1 (18 * F) (by omega) 0 (by omega) lq1.1.1 (by rw [lq1.mvU]; exact dv_shl (Y := x.natAbs + 1) (by have := DV_q dv; omega) (by omega) (by omega))) ?_
              rintro _ ⟨W9, rfl, ms9, rs9⟩
              refine g_iinc (l1 := [(6, aI ((t : Int) - 1 + (-1))), (7, aI 0), (5, aI ((m : Int) - 1)), (4, aI ((18 * (F + 1) : Int))), (3, aI ((18 * F : Int))), (0, aO (some o)), (1, aI ((a : Int))), (2, aI ((b_ : Int)))]) rfl rfl (by omega) (by omega) rfl ?_
              rw [show ((t : Int) - 1 + (-1) : Int) = ((t - 1 : Nat) : Int) - 1 by omega]
              refine g_goto rfl ?_
              obtain ⟨Q9, R9, lq9, lr9, mr9, dv9⟩ : ∃ Q9 R9 : Nat, RW (mr W9 o (18 * F)) (Q9 : Int) ∧ RW (mr W9 o (18 * (F + 1))) (R9 : Int) ∧ MR V2 W9 o (18 * F) 36 ∧ DV x.natAbs y.natAbs Q9 R9 (24 * (m - 1) + (t - 1)) := by
                exact ⟨2 * Q, 2 * R + b, RC_rw rs9 (by rw [lq1.mvU]; omega), lr1.congr (ms9.row (by omega)), mr1.mf ms9 (by omega), DV_no dvb hb1 (by omega)⟩
              refine g_ls [0, 2, 3, 4, 5, 6, 7] rfl rfl ?_
              exact ih33 (t - 1) Q9 R9 W9 (by omega) (by exact mr9) (by exact lq9) (by exact lr9) (by exact dv9) (by omega)
            · skip
              refine g_iconst rfl ?_
              refine g_goto rfl ?_
              refine g_istore (l1 := [(7, aI 1), (6, aI ((t : Int) - 1)), (5, aI ((m : Int) - 1)), (4, aI ((18 * (F + 1) : Int))), (3, aI ((18 * F : Int))), (0, aO (some o)), (1, aI ((a : Int))), (2, aI ((b_ : Int)))]) rfl rfl ?_
              refine g_iload rfl rfl ?_
              refine g_if_eq_f rfl (by omega) ?_
              refine g_aload_n rfl rfl ?_
              refine g_iload rfl rfl ?_
              refine g_iload_n rfl rfl ?_
              refine g_iload rfl rfl ?_
              refine g_iconst rfl ?_
              refine g_callVN [aI ((18 * (F + 1) : Int)), aI ((b_ : Int)), aI ((18 * (F + 1) : Int)), aI 1] [] rfl rfl rfl rfl (Nat.le_of_ble_eq_true rfl) ms.1 (m_takeSizes (by omega) ms W1 (18 * (F + 1)) b_ (18 * (F + 1)) (by omega) xb.b (by omega) lr1.1.1 xb1.1.1 (Or.inr (Or.inr rfl)) (by omega) 1 (by rw [lr1.mvU, xb1.1.2.1]; omega)) ?_
              rintro _ ⟨W2, rfl, mt2, rt2⟩
              have lr2 : RW (mr W2 o (18 * (F + 1))) ((2 * R + b - y.natAbs : Nat) : Int) := RC_rw rt2 (by rw [lr1.mvU, xb1.1.2.1]; omega)
              have lq2 := lq1.congr (mt2.row (show 18 * F + 18 ≤ 18 * (F + 1) ∨ 18 * (F + 1) + 18 ≤ 18 * F by omega))
              have mr2 := mr1.mf mt2 (by omega)
              refine g_aload_n rfl rfl ?_
              refine g_iload_n rfl rfl ?_
              refine g_iload rfl rfl ?_
              refine g_if_eq_f rfl (by omega) ?_
              refine g_iconst rfl ?_
              refine g_goto rfl ?_
              refine g_callVN [aI ((18 * F : Int)), aI 1] [] rfl rfl rfl rfl (Nat.le_of_ble_eq_true rfl) ms.1 (m_shift (by omega) ms W2 (18 * F) (by omega) 1 (by omega) lq2.1.1 (by rw [lq2.mvU]; exact dv_shl (Y := x.natAbs + 1) (by have := DV_q dv; omega) (by omega) (by omega))) ?_
              rintro _ ⟨W9, rfl, ms9, rs9⟩
              refine g_iinc (l1 := [(6, aI ((t : Int) - 1 + (-1))), (7, aI 1), (5, aI ((m : Int) - 1)), (4, aI ((18 * (F + 1) : Int))), (3, aI ((18 * F : Int))), (0, aO (some o)), (1, aI ((a : Int))), (2, aI ((b_ : Int)))]) rfl rfl (by omega) (by omega) rfl ?_
              rw [show ((t : Int) - 1 + (-1) : Int) = ((t - 1 : Nat) : Int) - 1 by omega]
              refine g_goto rfl ?_
              obtain ⟨Q9, R9, lq9, lr9, mr9, dv9⟩ : ∃ Q9 R9 : Nat, RW (mr W9 o (18 * F)) (Q9 : Int) ∧ RW (mr W9 o (18 * (F + 1))) (R9 : Int) ∧ MR V2 W9 o (18 * F) 36 ∧ DV x.natAbs y.natAbs Q9 R9 (24 * (m - 1) + (t - 1)) := by
                exact ⟨2 * Q + 1, 2 * R + b - y.natAbs, RC_rw rs9 (by rw [lq2.mvU]; omega), lr2.congr (ms9.row (by omega)), mr2.mf ms9 (by omega), DV_yes dvb hb1 (by omega)⟩
              refine g_ls [0, 2, 3, 4, 5, 6, 7] rfl rfl ?_
              exact ih33 (t - 1) Q9 R9 W9 (by omega) (by exact mr9) (by exact lq9) (by exact lr9) (by exact dv9) (by omega)
      refine g_iload rfl rfl ?_
      refine g_if_lt rfl (fun c26 => ?_) (fun c26 => ?_)
      · skip
        have da := xa.dis hF
        have db := xb.dis hF
        have f11 := m1.2.2.1
        have xa2 := (xa.fr hF (by omega) m1).fr (F := F + 1) (by omega) hF7 m2
        have xb2 := (xb.fr hF (by omega) m1).fr (F := F + 1) (by omega) hF7 m2
        have lx := lcmp_v x
        have ly := lcmp_v y
        refine g_aload_n rfl rfl ?_
        refine g_iload_n rfl rfl ?_
        refine g_aload_n rfl rfl ?_
        refine g_iload_n rfl rfl ?_
        refine g_callVI [aI ((a : Int))] [aI ((18 * F : Int)), aO (some o)] rfl rfl rfl rfl (Nat.le_of_ble_eq_true rfl) ms.1 (m_sign (by omega) ms W a xa.b) ?_
        rintro _ _ ⟨rfl, rfl⟩
        refine g_top (v2 := aI (lcmp x 0)) (congrArg aI (by rw [mrr.2 _ (by omega)]; exact xa2.s)) ?_
        refine g_aload_n rfl rfl ?_
        refine g_iload_n rfl rfl ?_
        refine g_callVI [aI ((b_ : Int))] [aI (lcmp x 0), aI ((18 * F : Int)), aO (some o)] rfl rfl rfl rfl (Nat.le_of_ble_eq_true rfl) ms.1 (m_sign (by omega) ms W b_ xb.b) ?_
        rintro _ _ ⟨rfl, rfl⟩
        refine g_top (v2 := aI (lcmp y 0)) (congrArg aI (by rw [mrr.2 _ (by omega)]; exact xb2.s)) ?_
        refine g_imulW rfl ?_
        refine g_top (v2 := aI (lcmp x 0 * lcmp y 0)) (congrArg aI (by rcases lx with ⟨_, e⟩ | ⟨_, e⟩ | ⟨_, e⟩ <;> rcases ly with ⟨_, e2⟩ | ⟨_, e2⟩ | ⟨_, e2⟩ <;> rw [e, e2] <;> rfl)) ?_
        refine g_callVN [aI ((18 * F : Int)), aI (lcmp x 0 * lcmp y 0)] [] rfl rfl rfl rfl (Nat.le_of_ble_eq_true rfl) ms.1 (m_trim (by omega) ms W (18 * F) (by omega) (lcmp x 0 * lcmp y 0) _ lq.1.1 lq.mvU) ?_
        rintro _ ⟨W3, rfl, m3, r3⟩
        refine g_iload_n rfl rfl ?_
        refine g_iret rfl ?_
        have em : m = 0 := by omega
        have hxq : (x.natAbs / y.natAbs : Nat) = Q := by
          by_cases q : y = 0
          · rw [dz q, q]; exact Nat.div_zero _
          · have d9 := dv q
            rw [em] at d9
            exact (DV_end d9).symm
        have hna3 : (x.tdiv y).natAbs = Q := by rw [Int.natAbs_tdiv]; exact hxq
        obtain ⟨f1, f2⟩ := fin_m2 (i := F) hF hF7 m1 m2 (mrr.mf m3 (by omega)) (by omega) (z := x.tdiv y) (RW_of r3 (by rw [hna3]) (fun q => tdiv_sgn (fun e => q (by rw [e, Int.tdiv_zero])) q))
        exact ⟨18 * F, rfl, W3, rfl, f1, f2⟩
      · skip
        refine g_bipush rfl ?_
        refine g_istore (l1 := [(6, aI 23), (5, aI ((m : Int) - 1)), (4, aI ((18 * (F + 1) : Int))), (3, aI ((18 * F : Int))), (0, aO (some o)), (1, aI ((a : Int))), (2, aI ((b_ : Int)))]) rfl rfl ?_
        exact l33 (by omega) (by exact hnz (by omega)) _ 24 Q R _ (by omega) (by exact mrr) (by exact lq) (by exact lr) (by rw [show 24 * (m - 1) + 24 = 24 * m by omega]; exact dv (hnz (by omega))) (Nat.lt_succ_self _)
  refine g_aload_n rfl rfl ?_
  refine g_callVI [] [] rfl rfl rfl rfl (Nat.le_of_ble_eq_true rfl) ms.1 (m_fresh (by omega) ms V F hF (by omega)) ?_
  rintro _ _ ⟨⟨V1, rfl, m1⟩, rfl⟩
  have f11 := m1.2.2.1
  have da := xa.dis hF
  have db := xb.dis hF
  refine g_istore_n (l1 := [(3, aI ((18 * F : Int))), (0, aO (some o)), (1, aI ((a : Int))), (2, aI ((b_ : Int)))]) rfl rfl ?_
  refine g_aload_n rfl rfl ?_
  refine g_callVI [] [] rfl rfl rfl rfl (Nat.le_of_ble_eq_true rfl) ms.1 (m_fresh (by omega) ms V1 (F + 1) (by omega) hF7) ?_
  rintro _ _ ⟨⟨V2, rfl, m2⟩, rfl⟩
  have xa2 := (xa.fr hF (by omega) m1).fr (F := F + 1) (by omega) hF7 m2
  have xb2 := (xb.fr hF (by omega) m1).fr (F := F + 1) (by omega) hF7 m2
  have la1 := xa.c.lt hna0
  have hxna : x.natAbs < 2 ^ (24 * na0) := by
    have q1 : ((2 ^ (24 * na0) : Nat) : Int) = 16777216 ^ na0 := by rw [Int.natCast_pow, Int.pow_mul]; rfl
    omega
  have hnz0 : 0 < na0 → y ≠ 0 := fun q e => by
    have := hy0 e
    have q2 := xa.c.zero
    have q3 : V (o + 1) (a + 17) = 0 := q2.mp (by omega)
    omega
  refine g_istore (l1 := [(4, aI ((18 * (F + 1) : Int))), (3, aI ((18 * F : Int))), (0, aO (some o)), (1, aI ((a : Int))), (2, aI ((b_ : Int)))]) rfl rfl ?_
  refine g_aload_n rfl rfl ?_
  refine g_getR rfl ms.1 (mr_limb ms) ?_
  refine g_iload_n rfl rfl ?_
  refine g_bipush rfl ?_
  refine g_iadd rfl (by omega) (by omega) ?_
  refine g_iald (i := a + 17) rfl (mt_limb ms) (by omega) (by omega) ?_
  refine g_top (v2 := aI (V2 (o + 1) (a + 17))) (congrArg aI (by rfl)) ?_
  refine g_top (v2 := aI ((na0 : Int))) (congrArg aI (by show V2 (o + 1) (a + 17) = _; rw [m2.2.2.2.1 _ (by omega), m1.2.2.2.1 _ (by omega)]; exact hna0)) ?_
  refine g_iconst rfl ?_
  refine g_isub rfl (by omega) (by omega) ?_
  refine g_istore (l1 := [(5, aI (((na0 : Int)) - 1)), (4, aI ((18 * (F + 1) : Int))), (3, aI ((18 * F : Int))), (0, aO (some o)), (1, aI ((a : Int))), (2, aI ((b_ : Int)))]) rfl rfl ?_
  exact l24 V1 V2 na0 (by exact m1) (by exact m2) (by exact hna0) (by omega) (by exact hnz0) _ na0 0 0 V2 (by omega) (by exact MR.refl _ _ _ _) (by exact RW_0 (fun k hk => by show V2 (o + 1) (18 * F + k) = 0; rw [m2.2.2.2.1 _ (by omega)]; exact m1.2.2.2.2 k hk)) (by exact RW_0 (fun k hk => m2.2.2.2.2 k hk)) (by intro hy; exact DV_start (by omega) hxna) (by intro _; rfl) (Nat.lt_succ_self _)
