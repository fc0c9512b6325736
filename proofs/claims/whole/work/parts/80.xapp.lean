/-! the class's apply: printed by wip/whole/s80.py -/
theorem nu01 : NuOk (0, 1) := ⟨by decide, by decide, by decide, by decide, by decide⟩
theorem x_keepSimplest {w : aW} {d : Nat} (hd : 8 ≤ d) {h : aH} {c : Nat} (cs : CS h c) (V : Nat → Nat → Int) {S : aS} (xn : XN V c S) (ok : OkN S) (a b : Int) (ha : 0 ≤ a ∧ a < sN S) (hb : 0 ≤ b ∧ b < sN S) (ho : ordF (sNu S a.toNat) (sNu S b.toNat) ≤ 0) : WP w d 33 [aO (some (c + 3)), aI a, aI b] (hw h V) (RI (fun r h1 => ∃ V1, h1 = hw h V1 ∧ XN V1 c (keepN S (smpF (sNu S a.toNat) (sNu S b.toNat))).2 ∧ FN V V1 c ∧ r = (keepN S (smpF (sNu S a.toNat) (sNu S b.toNat))).1)) := by
  obtain ⟨d, rfl⟩ : ∃ d1, d = d1 + 1 := ⟨d - 1, by omega⟩
  refine WP.enter (cd := cd_X1_keepSimplest) rfl ?_
  have hp := ok.at ha
  have hq := ok.at hb
  have m0 := mulB (x := (sNu S a.toNat).1) (y := (sNu S b.toNat).2) (by omega) (by omega) (by omega) (by omega)
  have m1 := mulB (x := (sNu S b.toNat).1) (y := (sNu S a.toNat).2) (by omega) (by omega) (by omega) (by omega)
  have m2 := mulB (x := (sNu S a.toNat).2) (y := (sNu S b.toNat).2) (by omega) (by omega) (by omega) (by omega)
  have m3 := mulB (x := (sNu S a.toNat).1) (y := (sNu S b.toNat).1) (by omega) (by omega) (by omega) (by omega)
  have m4 := mulB (x := (sNu S a.toNat).2) (y := (sNu S b.toNat).1) (by omega) (by omega) (by omega) (by omega)
  have hle := ordF_le ho
  have hls : largs 0 [aO (some (c + 3)), aI a, aI b] = [(0, aO (some (c + 3))), (1, aI a), (2, aI b)] := rfl
  rw [hls]
  clear hls
  refine g_aload_n rfl rfl ?_
  refine g_iload_n rfl rfl ?_
  refine g_callVJ [aI a] [] rfl rfl rfl rfl (Nat.le_of_ble_eq_true rfl) (cs.kd 3 (by omega) rfl) (x_upS (by omega) cs V xn ok a (by omega)) ?_
  rintro _ _ ⟨rfl, rfl⟩
  refine g_lconst0 rfl ?_
  refine g_lc_le rfl rfl (fun c6 => ?_) (fun c6 => ?_)
  · skip
    refine g_aload_n rfl rfl ?_
    refine g_iload_n rfl rfl ?_
    refine g_callVJ [aI b] [] rfl rfl rfl rfl (Nat.le_of_ble_eq_true rfl) (cs.kd 3 (by omega) rfl) (x_upS (by omega) cs V xn ok b (by omega)) ?_
    rintro _ _ ⟨rfl, rfl⟩
    refine g_lconst0 rfl ?_
    refine g_lc_ge rfl rfl (fun c53 => ?_) (fun c53 => ?_)
    · skip
      refine g_aload_n rfl rfl ?_
      refine g_lconst0 rfl ?_
      refine g_lconst1 rfl ?_
      refine g_callVI [aJ 0, aJ 1] [] rfl rfl rfl rfl (Nat.le_of_ble_eq_true rfl) (cs.kd 3 (by omega) rfl) (x_keepS (by omega) cs V xn ok 0 1 (by omega) (by omega)) ?_
      rintro _ _ ⟨W3, rfl, hx, hf, rfl⟩
      refine g_iret rfl ?_
      rw [spF_id S (p := (0, 1)) nu01] at hx ⊢
      unfold smpF
      rw [if_neg (by omega), if_neg (by omega)]
      exact ⟨_, rfl, hx, hf, rfl⟩
    · skip
      refine g_aload_n rfl rfl ?_
      refine g_aload_n rfl rfl ?_
      refine g_iload_n rfl rfl ?_
      refine g_callVJ [aI b] [aO (some (c + 3))] rfl rfl rfl rfl (Nat.le_of_ble_eq_true rfl) (cs.kd 3 (by omega) rfl) (x_upS (by omega) cs V xn ok b (by omega)) ?_
      rintro _ _ ⟨rfl, rfl⟩
      refine g_lneg2 rfl (by omega) (by omega) ?_
      refine g_aload_n rfl rfl ?_
      refine g_iload_n rfl rfl ?_
      refine g_callVJ [aI b] [aJ (-((sNu S (b).toNat).1)), aO (some (c + 3))] rfl rfl rfl rfl (Nat.le_of_ble_eq_true rfl) (cs.kd 3 (by omega) rfl) (x_downS (by omega) cs V xn ok b (by omega)) ?_
      rintro _ _ ⟨rfl, rfl⟩
      refine g_aload_n rfl rfl ?_
      refine g_iload_n rfl rfl ?_
      refine g_callVJ [aI a] [aJ ((sNu S (b).toNat).2), aJ (-((sNu S (b).toNat).1)), aO (some (c + 3))] rfl rfl rfl rfl (Nat.le_of_ble_eq_true rfl) (cs.kd 3 (by omega) rfl) (x_upS (by omega) cs V xn ok a (by omega)) ?_
      rintro _ _ ⟨rfl, rfl⟩
      refine g_lneg2 rfl (by omega) (by omega) ?_
      refine g_aload_n rfl rfl ?_
      refine g_iload_n rfl rfl ?_
      refine g_callVJ [aI a] [aJ (-((sNu S (a).toNat).1)), aJ ((sNu S (b).toNat).2), aJ (-((sNu S (b).toNat).1)), aO (some (c + 3))] rfl rfl rfl rfl (Nat.le_of_ble_eq_true rfl) (cs.kd 3 (by omega) rfl) (x_downS (by omega) cs V xn ok a (by omega)) ?_
      rintro _ _ ⟨rfl, rfl⟩
      have hle2 : (-(sNu S b.toNat).1) * (sNu S a.toNat).2 ≤ (-(sNu S a.toNat).1) * (sNu S b.toNat).2 := by rw [Int.neg_mul, Int.neg_mul]; omega
      refine g_callVN [aJ (-((sNu S (b).toNat).1)), aJ ((sNu S (b).toNat).2), aJ (-((sNu S (a).toNat).1)), aJ ((sNu S (a).toNat).2)] [] rfl rfl rfl rfl (Nat.le_of_ble_eq_true rfl) (cs.kd 3 (by omega) rfl) (x_simplestS (by omega) cs V xn ok (-((sNu S (b).toNat).1)) ((sNu S (b).toNat).2) (-((sNu S (a).toNat).1)) ((sNu S (a).toNat).2) (by omega) (by omega) (by omega) (by omega) (by omega)) ?_
      rintro _ ⟨W8, rfl, xn1, fn1, hs3, hs4⟩
      have hk := smF_ok (x := -(sNu S b.toNat).1) (y := (sNu S b.toNat).2) (z := -(sNu S a.toNat).1) (t := (sNu S a.toNat).2) (by omega) (by omega) (by omega) (by omega) hle2
      have hkb := hk.b
      refine g_aload_n rfl rfl ?_
      refine g_aload_n rfl rfl ?_
      refine g_getJ rfl (cs.kd 3 (by omega) rfl) ?_
      refine g_top (v2 := aJ ((smF (-(sNu S b.toNat).1) (sNu S b.toNat).2 (-(sNu S a.toNat).1) (sNu S a.toNat).2).1)) (congrArg aJ (by exact hs3)) ?_
      refine g_lneg2 rfl (by omega) (by omega) ?_
      refine g_aload_n rfl rfl ?_
      refine g_getJ rfl (cs.kd 3 (by omega) rfl) ?_
      refine g_top (v2 := aJ ((smF (-(sNu S b.toNat).1) (sNu S b.toNat).2 (-(sNu S a.toNat).1) (sNu S a.toNat).2).2)) (congrArg aJ (by exact hs4)) ?_
      refine g_callVI [aJ (-((smF (-(sNu S b.toNat).1) (sNu S b.toNat).2 (-(sNu S a.toNat).1) (sNu S a.toNat).2).1)), aJ ((smF (-(sNu S b.toNat).1) (sNu S b.toNat).2 (-(sNu S a.toNat).1) (sNu S a.toNat).2).2)] [] rfl rfl rfl rfl (Nat.le_of_ble_eq_true rfl) (cs.kd 3 (by omega) rfl) (x_keepS (by omega) cs W8 xn1 ok (-((smF (-(sNu S b.toNat).1) (sNu S b.toNat).2 (-(sNu S a.toNat).1) (sNu S a.toNat).2).1)) ((smF (-(sNu S b.toNat).1) (sNu S b.toNat).2 (-(sNu S a.toNat).1) (sNu S a.toNat).2).2) (by omega) (by omega)) ?_
      rintro _ _ ⟨W9, rfl, hx, hf, rfl⟩
      refine g_iret rfl ?_
      rw [spF_id S (p := (-(smF (-(sNu S b.toNat).1) (sNu S b.toNat).2 (-(sNu S a.toNat).1) (sNu S a.toNat).2).1, (smF (-(sNu S b.toNat).1) (sNu S b.toNat).2 (-(sNu S a.toNat).1) (sNu S a.toNat).2).2)) hk.neg] at hx ⊢
      unfold smpF
      rw [if_neg (by omega), if_pos (by omega)]
      exact ⟨_, rfl, hx, fn1.trans hf, rfl⟩
  · skip
    refine g_aload_n rfl rfl ?_
    refine g_aload_n rfl rfl ?_
    refine g_iload_n rfl rfl ?_
    refine g_callVJ [aI a] [aO (some (c + 3))] rfl rfl rfl rfl (Nat.le_of_ble_eq_true rfl) (cs.kd 3 (by omega) rfl) (x_upS (by omega) cs V xn ok a (by omega)) ?_
    rintro _ _ ⟨rfl, rfl⟩
    refine g_aload_n rfl rfl ?_
    refine g_iload_n rfl rfl ?_
    refine g_callVJ [aI a] [aJ ((sNu S (a).toNat).1), aO (some (c + 3))] rfl rfl rfl rfl (Nat.le_of_ble_eq_true rfl) (cs.kd 3 (by omega) rfl) (x_downS (by omega) cs V xn ok a (by omega)) ?_
    rintro _ _ ⟨rfl, rfl⟩
    refine g_aload_n rfl rfl ?_
    refine g_iload_n rfl rfl ?_
    refine g_callVJ [aI b] [aJ ((sNu S (a).toNat).2), aJ ((sNu S (a).toNat).1), aO (some (c + 3))] rfl rfl rfl rfl (Nat.le_of_ble_eq_true rfl) (cs.kd 3 (by omega) rfl) (x_upS (by omega) cs V xn ok b (by omega)) ?_
    rintro _ _ ⟨rfl, rfl⟩
    refine g_aload_n rfl rfl ?_
    refine g_iload_n rfl rfl ?_
    refine g_callVJ [aI b] [aJ ((sNu S (b).toNat).1), aJ ((sNu S (a).toNat).2), aJ ((sNu S (a).toNat).1), aO (some (c + 3))] rfl rfl rfl rfl (Nat.le_of_ble_eq_true rfl) (cs.kd 3 (by omega) rfl) (x_downS (by omega) cs V xn ok b (by omega)) ?_
    rintro _ _ ⟨rfl, rfl⟩
    refine g_callVN [aJ ((sNu S (a).toNat).1), aJ ((sNu S (a).toNat).2), aJ ((sNu S (b).toNat).1), aJ ((sNu S (b).toNat).2)] [] rfl rfl rfl rfl (Nat.le_of_ble_eq_true rfl) (cs.kd 3 (by omega) rfl) (x_simplestS (by omega) cs V xn ok ((sNu S (a).toNat).1) ((sNu S (a).toNat).2) ((sNu S (b).toNat).1) ((sNu S (b).toNat).2) (by omega) (by omega) (by omega) (by omega) (by omega)) ?_
    rintro _ ⟨W14, rfl, xn1, fn1, hs3, hs4⟩
    have hk := smF_ok (x := (sNu S a.toNat).1) (y := (sNu S a.toNat).2) (z := (sNu S b.toNat).1) (t := (sNu S b.toNat).2) (by omega) (by omega) (by omega) (by omega) (by omega)
    have hkb := hk.b
    refine g_aload_n rfl rfl ?_
    refine g_aload_n rfl rfl ?_
    refine g_getJ rfl (cs.kd 3 (by omega) rfl) ?_
    refine g_top (v2 := aJ ((smF (sNu S a.toNat).1 (sNu S a.toNat).2 (sNu S b.toNat).1 (sNu S b.toNat).2).1)) (congrArg aJ (by exact hs3)) ?_
    refine g_aload_n rfl rfl ?_
    refine g_getJ rfl (cs.kd 3 (by omega) rfl) ?_
    refine g_top (v2 := aJ ((smF (sNu S a.toNat).1 (sNu S a.toNat).2 (sNu S b.toNat).1 (sNu S b.toNat).2).2)) (congrArg aJ (by exact hs4)) ?_
    refine g_callVI [aJ ((smF (sNu S a.toNat).1 (sNu S a.toNat).2 (sNu S b.toNat).1 (sNu S b.toNat).2).1), aJ ((smF (sNu S a.toNat).1 (sNu S a.toNat).2 (sNu S b.toNat).1 (sNu S b.toNat).2).2)] [] rfl rfl rfl rfl (Nat.le_of_ble_eq_true rfl) (cs.kd 3 (by omega) rfl) (x_keepS (by omega) cs W14 xn1 ok ((smF (sNu S a.toNat).1 (sNu S a.toNat).2 (sNu S b.toNat).1 (sNu S b.toNat).2).1) ((smF (sNu S a.toNat).1 (sNu S a.toNat).2 (sNu S b.toNat).1 (sNu S b.toNat).2).2) (by omega) (by omega)) ?_
    rintro _ _ ⟨W15, rfl, hx, hf, rfl⟩
    refine g_iret rfl ?_
    rw [spF_id S (p := smF (sNu S a.toNat).1 (sNu S a.toNat).2 (sNu S b.toNat).1 (sNu S b.toNat).2) hk] at hx ⊢
    unfold smpF
    rw [if_pos (by omega)]
    exact ⟨_, rfl, hx, fn1.trans hf, rfl⟩
def spC (S : aS) (op : Int) (p q : Int × Int) : Int × aS := if op = 4 then keepN S (if ordF p q ≤ 0 then p else q) else if op = 5 then keepN S (if 0 ≤ ordF p q then p else q) else if op = 6 then keepN S (p.1 / p.2, 1) else if op = 7 then spRt S p else if op = 8 then keepN S ((p.1.natAbs : Int), p.2) else keepN S (if ordF p q ≤ 0 then smpF p q else smpF q p)
theorem fl_ok {p : Int × Int} (h : NuOk p) : NuOk (p.1 / p.2, 1) := by
  obtain ⟨h1, h2, h3, h4, -⟩ := h
  have l1 := Int.mul_ediv_add_emod p.1 p.2
  have l2 := Int.emod_nonneg p.1 (show p.2 ≠ 0 by omega)
  have l3 := Int.emod_lt_of_pos p.1 h1
  have a1 : -1073741824 ≤ p.1 / p.2 := by
    rcases Int.lt_or_le (p.1 / p.2) 0 with q | q
    · have m := Int.mul_nonneg (show 0 ≤ p.2 - 1 by omega) (show 0 ≤ -(p.1 / p.2) by omega)
      rw [Int.sub_mul, Int.mul_neg] at m
      have := Int.le_ediv_of_mul_le h1 (a := -1073741824) (b := p.1) (by omega)
      exact this
    · omega
  have a2 : p.1 / p.2 ≤ 1073741824 := by
    have := Int.ediv_le_of_le_mul h1 (a := p.1) (b := 1073741824) (by omega)
    exact this
  exact ⟨by show (0 : Int) < 1; decide, by show (1 : Int) ≤ 1073741824; decide, a1, a2, by show Int.gcd (p.1 / p.2) 1 = 1; rw [Int.gcd_one]⟩
theorem abs_ok {p : Int × Int} (h : NuOk p) : NuOk ((p.1.natAbs : Int), p.2) := by
  obtain ⟨h1, h2, h3, h4, h5⟩ := h
  exact ⟨h1, h2, by show -1073741824 ≤ (p.1.natAbs : Int); omega, by show (p.1.natAbs : Int) ≤ 1073741824; omega, by show Int.gcd (p.1.natAbs : Int) p.2 = 1; unfold Int.gcd at h5 ⊢; rw [Int.natAbs_natCast]; exact h5⟩
theorem x_choose4 {w : aW} {d : Nat} (hd : 9 ≤ d) {h : aH} {c : Nat} (cs : CS h c) (V : Nat → Nat → Int) {S : aS} (xn : XN V c S) (ok : OkN S) (a b : Int) (ha : 0 ≤ a ∧ a < sN S) (hb : 0 ≤ b ∧ b < sN S) : WP w d 27 [aO (some (c + 3)), aI 4, aI a, aI b] (hw h V) (RI (fun r h1 => ∃ V1, h1 = hw h V1 ∧ XN V1 c ((spC S 4 (sNu S a.toNat) (sNu S b.toNat))).2 ∧ FN V V1 c ∧ r = ((spC S 4 (sNu S a.toNat) (sNu S b.toNat))).1)) := by
  obtain ⟨d, rfl⟩ : ∃ d1, d = d1 + 1 := ⟨d - 1, by omega⟩
  refine WP.enter (cd := cd_X1_choose) rfl ?_
  have hp := ok.at ha
  have hq := ok.at hb
  have m0 := mulB (x := (sNu S a.toNat).1) (y := (sNu S b.toNat).2) (by omega) (by omega) (by omega) (by omega)
  have m1 := mulB (x := (sNu S b.toNat).1) (y := (sNu S a.toNat).2) (by omega) (by omega) (by omega) (by omega)
  have m2 := mulB (x := (sNu S a.toNat).2) (y := (sNu S b.toNat).2) (by omega) (by omega) (by omega) (by omega)
  have m3 := mulB (x := (sNu S a.toNat).1) (y := (sNu S b.toNat).1) (by omega) (by omega) (by omega) (by omega)
  have m4 := mulB (x := (sNu S a.toNat).2) (y := (sNu S b.toNat).1) (by omega) (by omega) (by omega) (by omega)
  have hob := ordF_b (sNu S a.toNat) (sNu S b.toNat)
  have hsw := ordF_swap (sNu S a.toNat) (sNu S b.toNat)
  have hd0 : (0 : Int) ≤ (sNu S a.toNat).1 / (sNu S a.toNat).2 ∨ (sNu S a.toNat).1 / (sNu S a.toNat).2 < 0 := by omega
  have hfo := (fl_ok (ok.2 a.toNat (by omega))).b
  have hls : largs 0 [aO (some (c + 3)), aI 4, aI a, aI b] = [(0, aO (some (c + 3))), (1, aI 4), (2, aI a), (3, aI b)] := rfl
  rw [hls]
  clear hls
  refine g_aload_n rfl rfl ?_
  refine g_iload_n rfl rfl ?_
  refine g_iload_n rfl rfl ?_
  refine g_callVI [aI a, aI b] [] rfl rfl rfl rfl (Nat.le_of_ble_eq_true rfl) (cs.kd 3 (by omega) rfl) (x_orderN (by omega) cs V xn ok a b (by omega) (by omega)) ?_
  rintro _ _ ⟨rfl, rfl⟩
  refine g_istore (l1 := [(4, aI (ordF (sNu S (a).toNat) (sNu S (b).toNat))), (0, aO (some (c + 3))), (1, aI 4), (2, aI a), (3, aI b)]) rfl rfl ?_
  refine g_iload_n rfl rfl ?_
  refine g_tsw (t := 44) rfl (by rfl) ?_
  refine g_aload_n rfl rfl ?_
  refine g_iload rfl rfl ?_
  refine g_if_gt rfl (fun c47 => ?_) (fun c47 => ?_)
  · skip
    refine g_iload_n rfl rfl ?_
    refine g_callVI [aI b] [] rfl rfl rfl rfl (Nat.le_of_ble_eq_true rfl) (cs.kd 3 (by omega) rfl) (x_keepAgain (by omega) cs V xn ok b (by omega)) ?_
    rintro _ _ ⟨W2, rfl, hx, hf, rfl⟩
    refine g_iret rfl ?_
    show ∃ V1, _ ∧ XN V1 c (keepN S (if ordF (sNu S a.toNat) (sNu S b.toNat) ≤ 0 then (sNu S a.toNat) else (sNu S b.toNat))).2 ∧ FN V V1 c ∧ _ = (keepN S (if ordF (sNu S a.toNat) (sNu S b.toNat) ≤ 0 then (sNu S a.toNat) else (sNu S b.toNat))).1
    first
      | (rw [if_pos (by omega)]; exact ⟨_, rfl, hx, hf, rfl⟩)
      | (rw [if_neg (by omega)]; exact ⟨_, rfl, hx, hf, rfl⟩)
  · skip
    refine g_iload_n rfl rfl ?_
    refine g_goto rfl ?_
    refine g_callVI [aI a] [] rfl rfl rfl rfl (Nat.le_of_ble_eq_true rfl) (cs.kd 3 (by omega) rfl) (x_keepAgain (by omega) cs V xn ok a (by omega)) ?_
    rintro _ _ ⟨W3, rfl, hx, hf, rfl⟩
    refine g_iret rfl ?_
    show ∃ V1, _ ∧ XN V1 c (keepN S (if ordF (sNu S a.toNat) (sNu S b.toNat) ≤ 0 then (sNu S a.toNat) else (sNu S b.toNat))).2 ∧ FN V V1 c ∧ _ = (keepN S (if ordF (sNu S a.toNat) (sNu S b.toNat) ≤ 0 then (sNu S a.toNat) else (sNu S b.toNat))).1
    first
      | (rw [if_pos (by omega)]; exact ⟨_, rfl, hx, hf, rfl⟩)
      | (rw [if_neg (by omega)]; exact ⟨_, rfl, hx, hf, rfl⟩)
theorem x_choose5 {w : aW} {d : Nat} (hd : 9 ≤ d) {h : aH} {c : Nat} (cs : CS h c) (V : Nat → Nat → Int) {S : aS} (xn : XN V c S) (ok : OkN S) (a b : Int) (ha : 0 ≤ a ∧ a < sN S) (hb : 0 ≤ b ∧ b < sN S) : WP w d 27 [aO (some (c + 3)), aI 5, aI a, aI b] (hw h V) (RI (fun r h1 => ∃ V1, h1 = hw h V1 ∧ XN V1 c ((spC S 5 (sNu S a.toNat) (sNu S b.toNat))).2 ∧ FN V V1 c ∧ r = ((spC S 5 (sNu S a.toNat) (sNu S b.toNat))).1)) := by
  obtain ⟨d, rfl⟩ : ∃ d1, d = d1 + 1 := ⟨d - 1, by omega⟩
  refine WP.enter (cd := cd_X1_choose) rfl ?_
  have hp := ok.at ha
  have hq := ok.at hb
  have m0 := mulB (x := (sNu S a.toNat).1) (y := (sNu S b.toNat).2) (by omega) (by omega) (by omega) (by omega)
  have m1 := mulB (x := (sNu S b.toNat).1) (y := (sNu S a.toNat).2) (by omega) (by omega) (by omega) (by omega)
  have m2 := mulB (x := (sNu S a.toNat).2) (y := (sNu S b.toNat).2) (by omega) (by omega) (by omega) (by omega)
  have m3 := mulB (x := (sNu S a.toNat).1) (y := (sNu S b.toNat).1) (by omega) (by omega) (by omega) (by omega)
  have m4 := mulB (x := (sNu S a.toNat).2) (y := (sNu S b.toNat).1) (by omega) (by omega) (by omega) (by omega)
  have hob := ordF_b (sNu S a.toNat) (sNu S b.toNat)
  have hsw := ordF_swap (sNu S a.toNat) (sNu S b.toNat)
  have hd0 : (0 : Int) ≤ (sNu S a.toNat).1 / (sNu S a.toNat).2 ∨ (sNu S a.toNat).1 / (sNu S a.toNat).2 < 0 := by omega
  have hfo := (fl_ok (ok.2 a.toNat (by omega))).b
  have hls : largs 0 [aO (some (c + 3)), aI 5, aI a, aI b] = [(0, aO (some (c + 3))), (1, aI 5), (2, aI a), (3, aI b)] := rfl
  rw [hls]
  clear hls
  refine g_aload_n rfl rfl ?_
  refine g_iload_n rfl rfl ?_
  refine g_iload_n rfl rfl ?_
  refine g_callVI [aI a, aI b] [] rfl rfl rfl rfl (Nat.le_of_ble_eq_true rfl) (cs.kd 3 (by omega) rfl) (x_orderN (by omega) cs V xn ok a b (by omega) (by omega)) ?_
  rintro _ _ ⟨rfl, rfl⟩
  refine g_istore (l1 := [(4, aI (ordF (sNu S (a).toNat) (sNu S (b).toNat))), (0, aO (some (c + 3))), (1, aI 5), (2, aI a), (3, aI b)]) rfl rfl ?_
  refine g_iload_n rfl rfl ?_
  refine g_tsw (t := 59) rfl (by rfl) ?_
  refine g_aload_n rfl rfl ?_
  refine g_iload rfl rfl ?_
  refine g_if_lt rfl (fun c62 => ?_) (fun c62 => ?_)
  · skip
    refine g_iload_n rfl rfl ?_
    refine g_callVI [aI b] [] rfl rfl rfl rfl (Nat.le_of_ble_eq_true rfl) (cs.kd 3 (by omega) rfl) (x_keepAgain (by omega) cs V xn ok b (by omega)) ?_
    rintro _ _ ⟨W2, rfl, hx, hf, rfl⟩
    refine g_iret rfl ?_
    show ∃ V1, _ ∧ XN V1 c (keepN S (if 0 ≤ ordF (sNu S a.toNat) (sNu S b.toNat) then (sNu S a.toNat) else (sNu S b.toNat))).2 ∧ FN V V1 c ∧ _ = (keepN S (if 0 ≤ ordF (sNu S a.toNat) (sNu S b.toNat) then (sNu S a.toNat) else (sNu S b.toNat))).1
    first
      | (rw [if_pos (by omega)]; exact ⟨_, rfl, hx, hf, rfl⟩)
      | (rw [if_neg (by omega)]; exact ⟨_, rfl, hx, hf, rfl⟩)
  · skip
    refine g_iload_n rfl rfl ?_
    refine g_goto rfl ?_
    refine g_callVI [aI a] [] rfl rfl rfl rfl (Nat.le_of_ble_eq_true rfl) (cs.kd 3 (by omega) rfl) (x_keepAgain (by omega) cs V xn ok a (by omega)) ?_
    rintro _ _ ⟨W3, rfl, hx, hf, rfl⟩
    refine g_iret rfl ?_
    show ∃ V1, _ ∧ XN V1 c (keepN S (if 0 ≤ ordF (sNu S a.toNat) (sNu S b.toNat) then (sNu S a.toNat) else (sNu S b.toNat))).2 ∧ FN V V1 c ∧ _ = (keepN S (if 0 ≤ ordF (sNu S a.toNat) (sNu S b.toNat) then (sNu S a.toNat) else (sNu S b.toNat))).1
    first
      | (rw [if_pos (by omega)]; exact ⟨_, rfl, hx, hf, rfl⟩)
      | (rw [if_neg (by omega)]; exact ⟨_, rfl, hx, hf, rfl⟩)
theorem x_choose6 {w : aW} {d : Nat} (hd : 9 ≤ d) {h : aH} {c : Nat} (cs : CS h c) (V : Nat → Nat → Int) {S : aS} (xn : XN V c S) (ok : OkN S) (a b : Int) (ha : 0 ≤ a ∧ a < sN S) (hb : 0 ≤ b ∧ b < sN S) : WP w d 27 [aO (some (c + 3)), aI 6, aI a, aI b] (hw h V) (RI (fun r h1 => ∃ V1, h1 = hw h V1 ∧ XN V1 c ((spC S 6 (sNu S a.toNat) (sNu S b.toNat))).2 ∧ FN V V1 c ∧ r = ((spC S 6 (sNu S a.toNat) (sNu S b.toNat))).1)) := by
  obtain ⟨d, rfl⟩ : ∃ d1, d = d1 + 1 := ⟨d - 1, by omega⟩
  refine WP.enter (cd := cd_X1_choose) rfl ?_
  have hp := ok.at ha
  have hq := ok.at hb
  have m0 := mulB (x := (sNu S a.toNat).1) (y := (sNu S b.toNat).2) (by omega) (by omega) (by omega) (by omega)
  have m1 := mulB (x := (sNu S b.toNat).1) (y := (sNu S a.toNat).2) (by omega) (by omega) (by omega) (by omega)
  have m2 := mulB (x := (sNu S a.toNat).2) (y := (sNu S b.toNat).2) (by omega) (by omega) (by omega) (by omega)
  have m3 := mulB (x := (sNu S a.toNat).1) (y := (sNu S b.toNat).1) (by omega) (by omega) (by omega) (by omega)
  have m4 := mulB (x := (sNu S a.toNat).2) (y := (sNu S b.toNat).1) (by omega) (by omega) (by omega) (by omega)
  have hob := ordF_b (sNu S a.toNat) (sNu S b.toNat)
  have hsw := ordF_swap (sNu S a.toNat) (sNu S b.toNat)
  have hd0 : (0 : Int) ≤ (sNu S a.toNat).1 / (sNu S a.toNat).2 ∨ (sNu S a.toNat).1 / (sNu S a.toNat).2 < 0 := by omega
  have hfo := (fl_ok (ok.2 a.toNat (by omega))).b
  have hls : largs 0 [aO (some (c + 3)), aI 6, aI a, aI b] = [(0, aO (some (c + 3))), (1, aI 6), (2, aI a), (3, aI b)] := rfl
  rw [hls]
  clear hls
  refine g_aload_n rfl rfl ?_
  refine g_iload_n rfl rfl ?_
  refine g_iload_n rfl rfl ?_
  refine g_callVI [aI a, aI b] [] rfl rfl rfl rfl (Nat.le_of_ble_eq_true rfl) (cs.kd 3 (by omega) rfl) (x_orderN (by omega) cs V xn ok a b (by omega) (by omega)) ?_
  rintro _ _ ⟨rfl, rfl⟩
  refine g_istore (l1 := [(4, aI (ordF (sNu S (a).toNat) (sNu S (b).toNat))), (0, aO (some (c + 3))), (1, aI 6), (2, aI a), (3, aI b)]) rfl rfl ?_
  refine g_iload_n rfl rfl ?_
  refine g_tsw (t := 74) rfl (by rfl) ?_
  refine g_aload_n rfl rfl ?_
  refine g_aload_n rfl rfl ?_
  refine g_iload_n rfl rfl ?_
  refine g_callVJ [aI a] [aO (some (c + 3))] rfl rfl rfl rfl (Nat.le_of_ble_eq_true rfl) (cs.kd 3 (by omega) rfl) (x_upS (by omega) cs V xn ok a (by omega)) ?_
  rintro _ _ ⟨rfl, rfl⟩
  refine g_aload_n rfl rfl ?_
  refine g_iload_n rfl rfl ?_
  refine g_callVJ [aI a] [aJ ((sNu S (a).toNat).1), aO (some (c + 3))] rfl rfl rfl rfl (Nat.le_of_ble_eq_true rfl) (cs.kd 3 (by omega) rfl) (x_downS (by omega) cs V xn ok a (by omega)) ?_
  rintro _ _ ⟨rfl, rfl⟩
  refine g_callSJ [aJ ((sNu S (a).toNat).1), aJ ((sNu S (a).toNat).2)] [aO (some (c + 3))] rfl rfl rfl rfl (Nat.le_of_ble_eq_true rfl) (c_wholeBelow (by omega) ((sNu S (a).toNat).1) ((sNu S (a).toNat).2) (by omega) (by omega) _) ?_
  rintro _ _ ⟨rfl, rfl⟩
  refine g_lconst1 rfl ?_
  refine g_callVI [aJ ((((sNu S (a).toNat).1) / ((sNu S (a).toNat).2))), aJ 1] [] rfl rfl rfl rfl (Nat.le_of_ble_eq_true rfl) (cs.kd 3 (by omega) rfl) (x_keepS (by omega) cs V xn ok ((((sNu S (a).toNat).1) / ((sNu S (a).toNat).2))) 1 (by omega) (by omega)) ?_
  rintro _ _ ⟨W5, rfl, hx, hf, rfl⟩
  refine g_iret rfl ?_
  show ∃ V1, _ ∧ XN V1 c (keepN S ((sNu S a.toNat).1 / (sNu S a.toNat).2, 1)).2 ∧ FN V V1 c ∧ _ = (keepN S ((sNu S a.toNat).1 / (sNu S a.toNat).2, 1)).1
  rw [spF_id S (p := ((sNu S a.toNat).1 / (sNu S a.toNat).2, 1)) (fl_ok (ok.2 _ (by omega)))] at hx ⊢
  exact ⟨_, rfl, hx, hf, rfl⟩
theorem x_choose7 {w : aW} {d : Nat} (hd : 9 ≤ d) {h : aH} {c : Nat} (cs : CS h c) (V : Nat → Nat → Int) {S : aS} (xn : XN V c S) (ok : OkN S) (a b : Int) (ha : 0 ≤ a ∧ a < sN S) (hb : 0 ≤ b ∧ b < sN S) : WP w d 27 [aO (some (c + 3)), aI 7, aI a, aI b] (hw h V) (RI (fun r h1 => ∃ V1, h1 = hw h V1 ∧ XN V1 c ((spC S 7 (sNu S a.toNat) (sNu S b.toNat))).2 ∧ FN V V1 c ∧ r = ((spC S 7 (sNu S a.toNat) (sNu S b.toNat))).1)) := by
  obtain ⟨d, rfl⟩ : ∃ d1, d = d1 + 1 := ⟨d - 1, by omega⟩
  refine WP.enter (cd := cd_X1_choose) rfl ?_
  have hp := ok.at ha
  have hq := ok.at hb
  have m0 := mulB (x := (sNu S a.toNat).1) (y := (sNu S b.toNat).2) (by omega) (by omega) (by omega) (by omega)
  have m1 := mulB (x := (sNu S b.toNat).1) (y := (sNu S a.toNat).2) (by omega) (by omega) (by omega) (by omega)
  have m2 := mulB (x := (sNu S a.toNat).2) (y := (sNu S b.toNat).2) (by omega) (by omega) (by omega) (by omega)
  have m3 := mulB (x := (sNu S a.toNat).1) (y := (sNu S b.toNat).1) (by omega) (by omega) (by omega) (by omega)
  have m4 := mulB (x := (sNu S a.toNat).2) (y := (sNu S b.toNat).1) (by omega) (by omega) (by omega) (by omega)
  have hob := ordF_b (sNu S a.toNat) (sNu S b.toNat)
  have hsw := ordF_swap (sNu S a.toNat) (sNu S b.toNat)
  have hd0 : (0 : Int) ≤ (sNu S a.toNat).1 / (sNu S a.toNat).2 ∨ (sNu S a.toNat).1 / (sNu S a.toNat).2 < 0 := by omega
  have hfo := (fl_ok (ok.2 a.toNat (by omega))).b
  have hls : largs 0 [aO (some (c + 3)), aI 7, aI a, aI b] = [(0, aO (some (c + 3))), (1, aI 7), (2, aI a), (3, aI b)] := rfl
  rw [hls]
  clear hls
  refine g_aload_n rfl rfl ?_
  refine g_iload_n rfl rfl ?_
  refine g_iload_n rfl rfl ?_
  refine g_callVI [aI a, aI b] [] rfl rfl rfl rfl (Nat.le_of_ble_eq_true rfl) (cs.kd 3 (by omega) rfl) (x_orderN (by omega) cs V xn ok a b (by omega) (by omega)) ?_
  rintro _ _ ⟨rfl, rfl⟩
  refine g_istore (l1 := [(4, aI (ordF (sNu S (a).toNat) (sNu S (b).toNat))), (0, aO (some (c + 3))), (1, aI 7), (2, aI a), (3, aI b)]) rfl rfl ?_
  refine g_iload_n rfl rfl ?_
  refine g_tsw (t := 93) rfl (by rfl) ?_
  refine g_aload_n rfl rfl ?_
  refine g_aload_n rfl rfl ?_
  refine g_iload_n rfl rfl ?_
  refine g_callVJ [aI a] [aO (some (c + 3))] rfl rfl rfl rfl (Nat.le_of_ble_eq_true rfl) (cs.kd 3 (by omega) rfl) (x_upS (by omega) cs V xn ok a (by omega)) ?_
  rintro _ _ ⟨rfl, rfl⟩
  refine g_aload_n rfl rfl ?_
  refine g_iload_n rfl rfl ?_
  refine g_callVJ [aI a] [aJ ((sNu S (a).toNat).1), aO (some (c + 3))] rfl rfl rfl rfl (Nat.le_of_ble_eq_true rfl) (cs.kd 3 (by omega) rfl) (x_downS (by omega) cs V xn ok a (by omega)) ?_
  rintro _ _ ⟨rfl, rfl⟩
  refine g_callVI [aJ ((sNu S (a).toNat).1), aJ ((sNu S (a).toNat).2)] [] rfl rfl rfl rfl (Nat.le_of_ble_eq_true rfl) (cs.kd 3 (by omega) rfl) (x_keepRoot (by omega) cs V xn ok (sNu S a.toNat) (ok.2 _ (by omega))) ?_
  rintro _ _ ⟨W4, rfl, hx, hf, rfl⟩
  refine g_iret rfl ?_
  show ∃ V1, _ ∧ XN V1 c (spRt S (sNu S a.toNat)).2 ∧ FN V V1 c ∧ _ = (spRt S (sNu S a.toNat)).1
  exact ⟨_, rfl, hx, hf, rfl⟩
theorem x_choose8 {w : aW} {d : Nat} (hd : 9 ≤ d) {h : aH} {c : Nat} (cs : CS h c) (V : Nat → Nat → Int) {S : aS} (xn : XN V c S) (ok : OkN S) (a b : Int) (ha : 0 ≤ a ∧ a < sN S) (hb : 0 ≤ b ∧ b < sN S) : WP w d 27 [aO (some (c + 3)), aI 8, aI a, aI b] (hw h V) (RI (fun r h1 => ∃ V1, h1 = hw h V1 ∧ XN V1 c ((spC S 8 (sNu S a.toNat) (sNu S b.toNat))).2 ∧ FN V V1 c ∧ r = ((spC S 8 (sNu S a.toNat) (sNu S b.toNat))).1)) := by
  obtain ⟨d, rfl⟩ : ∃ d1, d = d1 + 1 := ⟨d - 1, by omega⟩
  refine WP.enter (cd := cd_X1_choose) rfl ?_
  have hp := ok.at ha
  have hq := ok.at hb
  have m0 := mulB (x := (sNu S a.toNat).1) (y := (sNu S b.toNat).2) (by omega) (by omega) (by omega) (by omega)
  have m1 := mulB (x := (sNu S b.toNat).1) (y := (sNu S a.toNat).2) (by omega) (by omega) (by omega) (by omega)
  have m2 := mulB (x := (sNu S a.toNat).2) (y := (sNu S b.toNat).2) (by omega) (by omega) (by omega) (by omega)
  have m3 := mulB (x := (sNu S a.toNat).1) (y := (sNu S b.toNat).1) (by omega) (by omega) (by omega) (by omega)
  have m4 := mulB (x := (sNu S a.toNat).2) (y := (sNu S b.toNat).1) (by omega) (by omega) (by omega) (by omega)
  have hob := ordF_b (sNu S a.toNat) (sNu S b.toNat)
  have hsw := ordF_swap (sNu S a.toNat) (sNu S b.toNat)
  have hd0 : (0 : Int) ≤ (sNu S a.toNat).1 / (sNu S a.toNat).2 ∨ (sNu S a.toNat).1 / (sNu S a.toNat).2 < 0 := by omega
  have hfo := (fl_ok (ok.2 a.toNat (by omega))).b
  have hls : largs 0 [aO (some (c + 3)), aI 8, aI a, aI b] = [(0, aO (some (c + 3))), (1, aI 8), (2, aI a), (3, aI b)] := rfl
  rw [hls]
  clear hls
  refine g_aload_n rfl rfl ?_
  refine g_iload_n rfl rfl ?_
  refine g_iload_n rfl rfl ?_
  refine g_callVI [aI a, aI b] [] rfl rfl rfl rfl (Nat.le_of_ble_eq_true rfl) (cs.kd 3 (by omega) rfl) (x_orderN (by omega) cs V xn ok a b (by omega) (by omega)) ?_
  rintro _ _ ⟨rfl, rfl⟩
  refine g_istore (l1 := [(4, aI (ordF (sNu S (a).toNat) (sNu S (b).toNat))), (0, aO (some (c + 3))), (1, aI 8), (2, aI a), (3, aI b)]) rfl rfl ?_
  refine g_iload_n rfl rfl ?_
  refine g_tsw (t := 108) rfl (by rfl) ?_
  refine g_aload_n rfl rfl ?_
  refine g_aload_n rfl rfl ?_
  refine g_iload_n rfl rfl ?_
  refine g_callVJ [aI a] [aO (some (c + 3))] rfl rfl rfl rfl (Nat.le_of_ble_eq_true rfl) (cs.kd 3 (by omega) rfl) (x_upS (by omega) cs V xn ok a (by omega)) ?_
  rintro _ _ ⟨rfl, rfl⟩
  refine g_callSJ [aJ ((sNu S (a).toNat).1)] [aO (some (c + 3))] rfl rfl rfl rfl (Nat.le_of_ble_eq_true rfl) (c_abs (by omega) ((sNu S (a).toNat).1) (by omega) _) ?_
  rintro _ _ ⟨rfl, rfl⟩
  refine g_aload_n rfl rfl ?_
  refine g_iload_n rfl rfl ?_
  refine g_callVJ [aI a] [aJ ((((sNu S (a).toNat).1).natAbs : Int)), aO (some (c + 3))] rfl rfl rfl rfl (Nat.le_of_ble_eq_true rfl) (cs.kd 3 (by omega) rfl) (x_downS (by omega) cs V xn ok a (by omega)) ?_
  rintro _ _ ⟨rfl, rfl⟩
  refine g_callVI [aJ ((((sNu S (a).toNat).1).natAbs : Int)), aJ ((sNu S (a).toNat).2)] [] rfl rfl rfl rfl (Nat.le_of_ble_eq_true rfl) (cs.kd 3 (by omega) rfl) (x_keepS (by omega) cs V xn ok ((((sNu S (a).toNat).1).natAbs : Int)) ((sNu S (a).toNat).2) (by omega) (by omega)) ?_
  rintro _ _ ⟨W5, rfl, hx, hf, rfl⟩
  refine g_iret rfl ?_
  show ∃ V1, _ ∧ XN V1 c (keepN S (((sNu S a.toNat).1.natAbs : Int), (sNu S a.toNat).2)).2 ∧ FN V V1 c ∧ _ = (keepN S (((sNu S a.toNat).1.natAbs : Int), (sNu S a.toNat).2)).1
  rw [spF_id S (p := (((sNu S a.toNat).1.natAbs : Int), (sNu S a.toNat).2)) (abs_ok (ok.2 _ (by omega)))] at hx ⊢
  exact ⟨_, rfl, hx, hf, rfl⟩
theorem x_choose9 {w : aW} {d : Nat} (hd : 9 ≤ d) {h : aH} {c : Nat} (cs : CS h c) (V : Nat → Nat → Int) {S : aS} (xn : XN V c S) (ok : OkN S) (a b : Int) (ha : 0 ≤ a ∧ a < sN S) (hb : 0 ≤ b ∧ b < sN S) : WP w d 27 [aO (some (c + 3)), aI 9, aI a, aI b] (hw h V) (RI (fun r h1 => ∃ V1, h1 = hw h V1 ∧ XN V1 c ((spC S 9 (sNu S a.toNat) (sNu S b.toNat))).2 ∧ FN V V1 c ∧ r = ((spC S 9 (sNu S a.toNat) (sNu S b.toNat))).1)) := by
  obtain ⟨d, rfl⟩ : ∃ d1, d = d1 + 1 := ⟨d - 1, by omega⟩
  refine WP.enter (cd := cd_X1_choose) rfl ?_
  have hp := ok.at ha
  have hq := ok.at hb
  have m0 := mulB (x := (sNu S a.toNat).1) (y := (sNu S b.toNat).2) (by omega) (by omega) (by omega) (by omega)
  have m1 := mulB (x := (sNu S b.toNat).1) (y := (sNu S a.toNat).2) (by omega) (by omega) (by omega) (by omega)
  have m2 := mulB (x := (sNu S a.toNat).2) (y := (sNu S b.toNat).2) (by omega) (by omega) (by omega) (by omega)
  have m3 := mulB (x := (sNu S a.toNat).1) (y := (sNu S b.toNat).1) (by omega) (by omega) (by omega) (by omega)
  have m4 := mulB (x := (sNu S a.toNat).2) (y := (sNu S b.toNat).1) (by omega) (by omega) (by omega) (by omega)
  have hob := ordF_b (sNu S a.toNat) (sNu S b.toNat)
  have hsw := ordF_swap (sNu S a.toNat) (sNu S b.toNat)
  have hd0 : (0 : Int) ≤ (sNu S a.toNat).1 / (sNu S a.toNat).2 ∨ (sNu S a.toNat).1 / (sNu S a.toNat).2 < 0 := by omega
  have hfo := (fl_ok (ok.2 a.toNat (by omega))).b
  have hls : largs 0 [aO (some (c + 3)), aI 9, aI a, aI b] = [(0, aO (some (c + 3))), (1, aI 9), (2, aI a), (3, aI b)] := rfl
  rw [hls]
  clear hls
  refine g_aload_n rfl rfl ?_
  refine g_iload_n rfl rfl ?_
  refine g_iload_n rfl rfl ?_
  refine g_callVI [aI a, aI b] [] rfl rfl rfl rfl (Nat.le_of_ble_eq_true rfl) (cs.kd 3 (by omega) rfl) (x_orderN (by omega) cs V xn ok a b (by omega) (by omega)) ?_
  rintro _ _ ⟨rfl, rfl⟩
  refine g_istore (l1 := [(4, aI (ordF (sNu S (a).toNat) (sNu S (b).toNat))), (0, aO (some (c + 3))), (1, aI 9), (2, aI a), (3, aI b)]) rfl rfl ?_
  refine g_iload_n rfl rfl ?_
  refine g_tsw (t := 126) rfl (by rfl) ?_
  refine g_iload rfl rfl ?_
  refine g_if_gt rfl (fun c128 => ?_) (fun c128 => ?_)
  · skip
    refine g_aload_n rfl rfl ?_
    refine g_iload_n rfl rfl ?_
    refine g_iload_n rfl rfl ?_
    refine g_callVI [aI b, aI a] [] rfl rfl rfl rfl (Nat.le_of_ble_eq_true rfl) (cs.kd 3 (by omega) rfl) (x_keepSimplest (by omega) cs V xn ok b a (by omega) (by omega) (by omega)) ?_
    rintro _ _ ⟨W2, rfl, hx, hf, rfl⟩
    refine g_iret rfl ?_
    show ∃ V1, _ ∧ XN V1 c (keepN S (if ordF (sNu S a.toNat) (sNu S b.toNat) ≤ 0 then smpF (sNu S a.toNat) (sNu S b.toNat) else smpF (sNu S b.toNat) (sNu S a.toNat))).2 ∧ FN V V1 c ∧ _ = (keepN S (if ordF (sNu S a.toNat) (sNu S b.toNat) ≤ 0 then smpF (sNu S a.toNat) (sNu S b.toNat) else smpF (sNu S b.toNat) (sNu S a.toNat))).1
    first
      | (rw [if_pos (by omega)]; exact ⟨_, rfl, hx, hf, rfl⟩)
      | (rw [if_neg (by omega)]; exact ⟨_, rfl, hx, hf, rfl⟩)
  · skip
    refine g_aload_n rfl rfl ?_
    refine g_iload_n rfl rfl ?_
    refine g_iload_n rfl rfl ?_
    refine g_callVI [aI a, aI b] [] rfl rfl rfl rfl (Nat.le_of_ble_eq_true rfl) (cs.kd 3 (by omega) rfl) (x_keepSimplest (by omega) cs V xn ok a b (by omega) (by omega) (by omega)) ?_
    rintro _ _ ⟨W3, rfl, hx, hf, rfl⟩
    refine g_goto rfl ?_
    refine g_iret rfl ?_
    show ∃ V1, _ ∧ XN V1 c (keepN S (if ordF (sNu S a.toNat) (sNu S b.toNat) ≤ 0 then smpF (sNu S a.toNat) (sNu S b.toNat) else smpF (sNu S b.toNat) (sNu S a.toNat))).2 ∧ FN V V1 c ∧ _ = (keepN S (if ordF (sNu S a.toNat) (sNu S b.toNat) ≤ 0 then smpF (sNu S a.toNat) (sNu S b.toNat) else smpF (sNu S b.toNat) (sNu S a.toNat))).1
    first
      | (rw [if_pos (by omega)]; exact ⟨_, rfl, hx, hf, rfl⟩)
      | (rw [if_neg (by omega)]; exact ⟨_, rfl, hx, hf, rfl⟩)
theorem x_choose {w : aW} {d : Nat} (hd : 9 ≤ d) {h : aH} {c : Nat} (cs : CS h c) (V : Nat → Nat → Int) {S : aS} (xn : XN V c S) (ok : OkN S) (op : Int) (hop : 4 ≤ op ∧ op ≤ 9) (a b : Int) (ha : 0 ≤ a ∧ a < sN S) (hb : 0 ≤ b ∧ b < sN S) : WP w d 27 [aO (some (c + 3)), aI op, aI a, aI b] (hw h V) (RI (fun r h1 => ∃ V1, h1 = hw h V1 ∧ XN V1 c (spC S op (sNu S a.toNat) (sNu S b.toNat)).2 ∧ FN V V1 c ∧ r = (spC S op (sNu S a.toNat) (sNu S b.toNat)).1)) := by
  obtain rfl | rfl | rfl | rfl | rfl | rfl : op = 4 ∨ op = 5 ∨ op = 6 ∨ op = 7 ∨ op = 8 ∨ op = 9 := by omega
  · exact x_choose4 hd cs V xn ok a b ha hb
  · exact x_choose5 hd cs V xn ok a b ha hb
  · exact x_choose6 hd cs V xn ok a b ha hb
  · exact x_choose7 hd cs V xn ok a b ha hb
  · exact x_choose8 hd cs V xn ok a b ha hb
  · exact x_choose9 hd cs V xn ok a b ha hb
def spApp (S : aS) (op a b : Int) : Int × aS := if (0 ≤ op ∧ op ≤ 9) ∧ (0 ≤ a ∧ a < sN S) ∧ (0 ≤ b ∧ b < sN S) then (if op < 4 then spR S op (sNu S a.toNat) (sNu S b.toNat) else spC S op (sNu S a.toNat) (sNu S b.toNat)) else (-1, S)
theorem x_apply {w : aW} {d : Nat} (hd : 10 ≤ d) {h : aH} {c : Nat} (cs : CS h c) (V : Nat → Nat → Int) {S : aS} (xn : XN V c S) (ok : OkN S) (op a b : Int) : WP w d 201 [aO (some c), aI op, aI a, aI b] (hw h V) (RI (fun r h1 => ∃ V1, h1 = hw h V1 ∧ XN V1 c (spApp S op a b).2 ∧ FN V V1 c ∧ r = (spApp S op a b).1)) := by
  obtain ⟨d, rfl⟩ : ∃ d1, d = d1 + 1 := ⟨d - 1, by omega⟩
  refine WP.enter (cd := cd_X11_apply) rfl ?_
  have hls : largs 0 [aO (some c), aI op, aI a, aI b] = [(0, aO (some c)), (1, aI op), (2, aI a), (3, aI b)] := rfl
  rw [hls]
  clear hls
  refine g_iload_n rfl rfl ?_
  refine g_if_lt rfl (fun c1 => ?_) (fun c1 => ?_)
  · skip
    refine g_iconst rfl ?_
    refine g_iret rfl ?_
    unfold spApp
    first
      | (rw [if_neg (by omega)]; exact ⟨V, rfl, xn, fun _ _ _ _ => rfl, rfl⟩)
      | (rw [if_pos (by omega), if_pos (by omega)]; exact ⟨_, rfl, hx, hf, rfl⟩)
      | (rw [if_pos (by omega), if_neg (by omega)]; exact ⟨_, rfl, hx, hf, rfl⟩)
  · skip
    refine g_iload_n rfl rfl ?_
    refine g_bipush rfl ?_
    refine g_icmp_gt rfl (fun c7 => ?_) (fun c7 => ?_)
    · skip
      refine g_iconst rfl ?_
      refine g_iret rfl ?_
      unfold spApp
      first
        | (rw [if_neg (by omega)]; exact ⟨V, rfl, xn, fun _ _ _ _ => rfl, rfl⟩)
        | (rw [if_pos (by omega), if_pos (by omega)]; exact ⟨_, rfl, hx, hf, rfl⟩)
        | (rw [if_pos (by omega), if_neg (by omega)]; exact ⟨_, rfl, hx, hf, rfl⟩)
    · skip
      refine g_aload_n rfl rfl ?_
      refine g_getR rfl (cs.kd 0 (by omega) rfl) (cs.rf 4 (by omega) rfl) ?_
      refine g_iload_n rfl rfl ?_
      refine g_callVI [aI a] [] rfl rfl rfl rfl (Nat.le_of_ble_eq_true rfl) (cs.kd 3 (by omega) rfl) (x_has (by omega) cs V (sN S) xn.1 ok.1 a) ?_
      rintro _ _ ⟨rfl, rfl⟩
      refine g_b_eq rfl (fun c18 => ?_) (fun c18 => ?_)
      · skip
        refine g_iconst rfl ?_
        refine g_iret rfl ?_
        unfold spApp
        first
          | (rw [if_neg (by omega)]; exact ⟨V, rfl, xn, fun _ _ _ _ => rfl, rfl⟩)
          | (rw [if_pos (by omega), if_pos (by omega)]; exact ⟨_, rfl, hx, hf, rfl⟩)
          | (rw [if_pos (by omega), if_neg (by omega)]; exact ⟨_, rfl, hx, hf, rfl⟩)
      · skip
        refine g_aload_n rfl rfl ?_
        refine g_getR rfl (cs.kd 0 (by omega) rfl) (cs.rf 4 (by omega) rfl) ?_
        refine g_iload_n rfl rfl ?_
        refine g_callVI [aI b] [] rfl rfl rfl rfl (Nat.le_of_ble_eq_true rfl) (cs.kd 3 (by omega) rfl) (x_has (by omega) cs V (sN S) xn.1 ok.1 b) ?_
        rintro _ _ ⟨rfl, rfl⟩
        refine g_b_ne rfl (fun c29 => ?_) (fun c29 => ?_)
        · skip
          refine g_iload_n rfl rfl ?_
          refine g_iconst rfl ?_
          refine g_icmp_ge rfl (fun c36 => ?_) (fun c36 => ?_)
          · skip
            refine g_aload_n rfl rfl ?_
            refine g_getR rfl (cs.kd 0 (by omega) rfl) (cs.rf 4 (by omega) rfl) ?_
            refine g_iload_n rfl rfl ?_
            refine g_iload_n rfl rfl ?_
            refine g_iload_n rfl rfl ?_
            refine g_callVI [aI op, aI a, aI b] [] rfl rfl rfl rfl (Nat.le_of_ble_eq_true rfl) (cs.kd 3 (by omega) rfl) (x_choose (by omega) cs V xn ok op (by omega) a b (by omega) (by omega)) ?_
            rintro _ _ ⟨W3, rfl, hx, hf, rfl⟩
            refine g_iret rfl ?_
            unfold spApp
            first
              | (rw [if_neg (by omega)]; exact ⟨V, rfl, xn, fun _ _ _ _ => rfl, rfl⟩)
              | (rw [if_pos (by omega), if_pos (by omega)]; exact ⟨_, rfl, hx, hf, rfl⟩)
              | (rw [if_pos (by omega), if_neg (by omega)]; exact ⟨_, rfl, hx, hf, rfl⟩)
          · skip
            refine g_aload_n rfl rfl ?_
            refine g_getR rfl (cs.kd 0 (by omega) rfl) (cs.rf 4 (by omega) rfl) ?_
            refine g_iload_n rfl rfl ?_
            refine g_iload_n rfl rfl ?_
            refine g_iload_n rfl rfl ?_
            refine g_callVI [aI op, aI a, aI b] [] rfl rfl rfl rfl (Nat.le_of_ble_eq_true rfl) (cs.kd 3 (by omega) rfl) (x_reckon (by omega) cs V xn ok op (by omega) a b (by omega) (by omega)) ?_
            rintro _ _ ⟨W4, rfl, hx, hf, rfl⟩
            refine g_goto rfl ?_
            refine g_iret rfl ?_
            unfold spApp
            first
              | (rw [if_neg (by omega)]; exact ⟨V, rfl, xn, fun _ _ _ _ => rfl, rfl⟩)
              | (rw [if_pos (by omega), if_pos (by omega)]; exact ⟨_, rfl, hx, hf, rfl⟩)
              | (rw [if_pos (by omega), if_neg (by omega)]; exact ⟨_, rfl, hx, hf, rfl⟩)
        · skip
          refine g_iconst rfl ?_
          refine g_iret rfl ?_
          unfold spApp
          first
            | (rw [if_neg (by omega)]; exact ⟨V, rfl, xn, fun _ _ _ _ => rfl, rfl⟩)
            | (rw [if_pos (by omega), if_pos (by omega)]; exact ⟨_, rfl, hx, hf, rfl⟩)
            | (rw [if_pos (by omega), if_neg (by omega)]; exact ⟨_, rfl, hx, hf, rfl⟩)
