/-! the reference's apply, op by op: printed by wip/whole/s89.py -/
theorem eqN {p q : Int × Int} (hp : NuOk p) (hq : NuOk q) (h : p.1 * q.2 = q.1 * p.2) : p = q := by
  obtain ⟨p1, p2⟩ := p
  obtain ⟨q1, q2⟩ := q
  obtain ⟨a1, -, -, -, a5⟩ := hp
  obtain ⟨b1, -, -, -, b5⟩ := hq
  have a1 : 0 < p2 := a1
  have b1 : 0 < q2 := b1
  have a5 : Int.gcd p1 p2 = 1 := a5
  have b5 : Int.gcd q1 q2 = 1 := b5
  have h : p1 * q2 = q1 * p2 := h
  have d1 : p2 ∣ q2 := by
    apply Int.natAbs_dvd_natAbs.mp
    refine Nat.Coprime.dvd_of_dvd_mul_left (m := p1.natAbs) (by rw [Nat.coprime_comm]; exact a5) ?_
    rw [← Int.natAbs_mul, h, Int.natAbs_mul]
    exact Nat.dvd_mul_left _ _
  have d2 : q2 ∣ p2 := by
    apply Int.natAbs_dvd_natAbs.mp
    refine Nat.Coprime.dvd_of_dvd_mul_left (m := q1.natAbs) (by rw [Nat.coprime_comm]; exact b5) ?_
    rw [← Int.natAbs_mul, ← h, Int.natAbs_mul]
    exact Nat.dvd_mul_left _ _
  have e : p2 = q2 := Int.le_antisymm (Int.le_of_dvd b1 d1) (Int.le_of_dvd a1 d2)
  subst e
  have e2 : p1 = q1 := Int.eq_of_mul_eq_mul_right (by omega) h
  rw [e2]
set_option maxRecDepth 100000 in
theorem m_apply0 {w : aW} {d : Nat} (hd : 3 ≤ d) {h : aH} {o : Nat} (ms : MS h o) (V : Nat → Nat → Int) {S : aS} (mn : MN V o S) (ok : OkN S) (a b : Int) (ha : 0 ≤ a ∧ a < sN S) (hb : 0 ≤ b ∧ b < sN S) : WP w d 275 [aO (some o), aI 0, aI a, aI b] (hw h V) (RI (fun r h1 => ∃ V1, h1 = hw h V1 ∧ MN V1 o (spR S 0 (sNu S a.toNat) (sNu S b.toNat)).2 ∧ FM V V1 o ∧ r = (spR S 0 (sNu S a.toNat) (sNu S b.toNat)).1)) := by
  obtain ⟨d, rfl⟩ : ∃ d1, d = d1 + 1 := ⟨d - 1, by omega⟩
  refine WP.enter (cd := cd_X12_apply) rfl ?_
  have mn2 := mn.own (i := 31) (by decide) 0
  have hn2 := ok.1
  have hp := ok.at ha
  have hq := ok.at hb
  have m0 := mulB (x := (sNu S a.toNat).1) (y := (sNu S b.toNat).2) (by omega) (by omega) (by omega) (by omega)
  have m1 := mulB (x := (sNu S b.toNat).1) (y := (sNu S a.toNat).2) (by omega) (by omega) (by omega) (by omega)
  have m2 := mulB (x := (sNu S a.toNat).2) (y := (sNu S b.toNat).2) (by omega) (by omega) (by omega) (by omega)
  have m3 := mulB (x := (sNu S a.toNat).1) (y := (sNu S b.toNat).1) (by omega) (by omega) (by omega) (by omega)
  have m4 := mulB (x := (sNu S a.toNat).2) (y := (sNu S b.toNat).1) (by omega) (by omega) (by omega) (by omega)
  have pm := Int.mul_pos hp.1 hq.1
  have hls : largs 0 [aO (some o), aI 0, aI a, aI b] = [(0, aO (some o)), (1, aI 0), (2, aI a), (3, aI b)] := rfl
  rw [hls]
  clear hls
  refine g_aload_n rfl rfl ?_
  refine g_iconst rfl ?_
  refine g_putI rfl ms.1 ?_
  refine g_iload_n rfl rfl ?_
  refine g_i2l rfl ?_
  refine g_lconst0 rfl ?_
  refine g_ldc2 rfl ?_
  refine g_callSI [aJ 0, aJ 0, aJ 9] [] rfl rfl rfl rfl (Nat.le_of_ble_eq_true rfl) (c_in (by omega) 0 0 9 _) ?_
  rintro _ _ ⟨rfl, rfl⟩
  refine g_if_eq_f rfl (by decide) ?_
  refine g_aload_n rfl rfl ?_
  refine g_iload_n rfl rfl ?_
  refine g_callVI [aI a] [] rfl rfl rfl rfl (Nat.le_of_ble_eq_true rfl) ms.1 (m_isN (by omega) ms (((vset V o 31 0))) mn2 ok a) ?_
  rintro _ _ ⟨rfl, rfl⟩
  refine g_if_eq_f rfl (by rw [if_pos ha]; decide) ?_
  refine g_aload_n rfl rfl ?_
  refine g_iload_n rfl rfl ?_
  refine g_callVI [aI b] [] rfl rfl rfl rfl (Nat.le_of_ble_eq_true rfl) ms.1 (m_isN (by omega) ms ((((vset V o 31 0)))) mn2 ok b) ?_
  rintro _ _ ⟨rfl, rfl⟩
  refine g_if_ne_t rfl (by rw [if_pos hb]; decide) ?_
  refine g_aload_n rfl rfl ?_
  refine g_getR rfl ms.1 (mr_upper ms) ?_
  refine g_iload_n rfl rfl ?_
  refine g_lald (i := a.toNat) rfl (mt_upper ms) (by omega) (by omega) ?_
  refine g_top (v2 := aJ ((sNu S (a.toNat)).1)) (congrArg aJ (by exact (mn2.2 _ (by omega)).1)) ?_
  refine g_lstore (l1 := [(4, aJ ((sNu S (a.toNat)).1)), (0, aO (some o)), (1, aI 0), (2, aI a), (3, aI b)]) rfl rfl ?_
  refine g_aload_n rfl rfl ?_
  refine g_getR rfl ms.1 (mr_lower ms) ?_
  refine g_iload_n rfl rfl ?_
  refine g_lald (i := a.toNat) rfl (mt_lower ms) (by omega) (by omega) ?_
  refine g_top (v2 := aJ ((sNu S (a.toNat)).2)) (congrArg aJ (by exact (mn2.2 _ (by omega)).2)) ?_
  refine g_lstore (l1 := [(6, aJ ((sNu S (a.toNat)).2)), (4, aJ ((sNu S (a.toNat)).1)), (0, aO (some o)), (1, aI 0), (2, aI a), (3, aI b)]) rfl rfl ?_
  refine g_aload_n rfl rfl ?_
  refine g_getR rfl ms.1 (mr_upper ms) ?_
  refine g_iload_n rfl rfl ?_
  refine g_lald (i := b.toNat) rfl (mt_upper ms) (by omega) (by omega) ?_
  refine g_top (v2 := aJ ((sNu S (b.toNat)).1)) (congrArg aJ (by exact (mn2.2 _ (by omega)).1)) ?_
  refine g_lstore (l1 := [(8, aJ ((sNu S (b.toNat)).1)), (6, aJ ((sNu S (a.toNat)).2)), (4, aJ ((sNu S (a.toNat)).1)), (0, aO (some o)), (1, aI 0), (2, aI a), (3, aI b)]) rfl rfl ?_
  refine g_aload_n rfl rfl ?_
  refine g_getR rfl ms.1 (mr_lower ms) ?_
  refine g_iload_n rfl rfl ?_
  refine g_lald (i := b.toNat) rfl (mt_lower ms) (by omega) (by omega) ?_
  refine g_top (v2 := aJ ((sNu S (b.toNat)).2)) (congrArg aJ (by exact (mn2.2 _ (by omega)).2)) ?_
  refine g_lstore (l1 := [(10, aJ ((sNu S (b.toNat)).2)), (8, aJ ((sNu S (b.toNat)).1)), (6, aJ ((sNu S (a.toNat)).2)), (4, aJ ((sNu S (a.toNat)).1)), (0, aO (some o)), (1, aI 0), (2, aI a), (3, aI b)]) rfl rfl ?_
  refine g_lload rfl rfl ?_
  refine g_lload rfl rfl ?_
  refine g_lmul rfl (by omega) (by omega) ?_
  refine g_lload rfl rfl ?_
  refine g_lload rfl rfl ?_
  refine g_lmul rfl (by omega) (by omega) ?_
  refine g_lc_ge rfl rfl (fun c77 => ?_) (fun c77 => ?_)
  · skip
    refine g_iconst rfl ?_
    refine g_istore (l1 := [(12, aI 0), (10, aJ ((sNu S (b.toNat)).2)), (8, aJ ((sNu S (b.toNat)).1)), (6, aJ ((sNu S (a.toNat)).2)), (4, aJ ((sNu S (a.toNat)).1)), (0, aO (some o)), (1, aI 0), (2, aI a), (3, aI b)]) rfl rfl ?_
    refine g_iconst rfl ?_
    refine g_istore (l1 := [(13, aI 1), (12, aI 0), (10, aJ ((sNu S (b.toNat)).2)), (8, aJ ((sNu S (b.toNat)).1)), (6, aJ ((sNu S (a.toNat)).2)), (4, aJ ((sNu S (a.toNat)).1)), (0, aO (some o)), (1, aI 0), (2, aI a), (3, aI b)]) rfl rfl ?_
    refine g_iload_n rfl rfl ?_
    refine g_tsw (t := 144) rfl (by rfl) ?_
    refine g_aload_n rfl rfl ?_
    refine g_lload rfl rfl ?_
    refine g_lload rfl rfl ?_
    refine g_lmul rfl (by omega) (by omega) ?_
    refine g_lload rfl rfl ?_
    refine g_lload rfl rfl ?_
    refine g_lmul rfl (by omega) (by omega) ?_
    refine g_ladd rfl (by omega) (by omega) ?_
    refine g_lload rfl rfl ?_
    refine g_lload rfl rfl ?_
    refine g_lmul rfl (by omega) (by omega) ?_
    refine g_callVI [aJ ((((sNu S (a.toNat)).1) * ((sNu S (b.toNat)).2)) + (((sNu S (b.toNat)).1) * ((sNu S (a.toNat)).2))), aJ (((sNu S (a.toNat)).2) * ((sNu S (b.toNat)).2))] [] rfl rfl rfl rfl (Nat.le_of_ble_eq_true rfl) ms.1 (m_reduce (by omega) ms (((((vset V o 31 0))))) ((((sNu S (a.toNat)).1) * ((sNu S (b.toNat)).2)) + (((sNu S (b.toNat)).1) * ((sNu S (a.toNat)).2))) (((sNu S (a.toNat)).2) * ((sNu S (b.toNat)).2)) (by omega) (by omega) (by omega)) ?_
    rintro _ _ ⟨rfl, rfl⟩
    refine g_istore (l1 := [(13, aI (if smallF (lowF ((((sNu S (a.toNat)).1) * ((sNu S (b.toNat)).2)) + (((sNu S (b.toNat)).1) * ((sNu S (a.toNat)).2))) (((sNu S (a.toNat)).2) * ((sNu S (b.toNat)).2))) = true then 1 else 0)), (12, aI 0), (10, aJ ((sNu S (b.toNat)).2)), (8, aJ ((sNu S (b.toNat)).1)), (6, aJ ((sNu S (a.toNat)).2)), (4, aJ ((sNu S (a.toNat)).1)), (0, aO (some o)), (1, aI 0), (2, aI a), (3, aI b)]) rfl rfl ?_
    refine g_goto rfl ?_
    refine g_aload_n rfl rfl ?_
    refine g_iload rfl rfl ?_
    refine g_callVI [aI (if smallF (lowF ((((sNu S (a.toNat)).1) * ((sNu S (b.toNat)).2)) + (((sNu S (b.toNat)).1) * ((sNu S (a.toNat)).2))) (((sNu S (a.toNat)).2) * ((sNu S (b.toNat)).2))) = true then 1 else 0)] [] rfl rfl rfl rfl (Nat.le_of_ble_eq_true rfl) ms.1 (m_keepN (by omega) ms ((vset (vset (((((vset V o 31 0))))) o 5 (lowF ((((sNu S (a.toNat)).1) * ((sNu S (b.toNat)).2)) + (((sNu S (b.toNat)).1) * ((sNu S (a.toNat)).2))) (((sNu S (a.toNat)).2) * ((sNu S (b.toNat)).2))).1) o 6 (lowF ((((sNu S (a.toNat)).1) * ((sNu S (b.toNat)).2)) + (((sNu S (b.toNat)).1) * ((sNu S (a.toNat)).2))) (((sNu S (a.toNat)).2) * ((sNu S (b.toNat)).2))).2)) ((mn2.own (i := 5) (by decide) _).own (i := 6) (by decide) _) ok (lowF ((sNu S a.toNat).1 * (sNu S b.toNat).2 + (sNu S b.toNat).1 * (sNu S a.toNat).2) ((sNu S a.toNat).2 * (sNu S b.toNat).2)) (by rw [vset_ne _ _ _ _ (by omega), vset_eq]) (vset_eq ..) _ rfl) ?_
    rintro _ _ ⟨W5, rfl, hx, hf, rfl⟩
    refine g_iret rfl ?_
    have eb : badF ((sNu S a.toNat).1 * (sNu S b.toNat).2 + (sNu S b.toNat).1 * (sNu S a.toNat).2) ((sNu S a.toNat).2 * (sNu S b.toNat).2) ≠ true := by
      rw [Ne, badF_iff]
      omega
    have eS : spR S 0 (sNu S a.toNat) (sNu S b.toNat) = keepN S (lowF ((sNu S a.toNat).1 * (sNu S b.toNat).2 + (sNu S b.toNat).1 * (sNu S a.toNat).2) ((sNu S a.toNat).2 * (sNu S b.toNat).2)) := by
      show (spF S ((sNu S a.toNat).1 * (sNu S b.toNat).2 + (sNu S b.toNat).1 * (sNu S a.toNat).2) ((sNu S a.toNat).2 * (sNu S b.toNat).2)) = _
      skip
      unfold spF
      rw [if_neg eb]
    rw [eS]
    have f0 := (FM.own V o (i := 31) (by omega) 0).trans ((FM.own (vset V o 31 0) o (i := 5) (by omega) (lowF ((sNu S a.toNat).1 * (sNu S b.toNat).2 + (sNu S b.toNat).1 * (sNu S a.toNat).2) ((sNu S a.toNat).2 * (sNu S b.toNat).2)).1).trans (FM.own _ o (i := 6) (by omega) (lowF ((sNu S a.toNat).1 * (sNu S b.toNat).2 + (sNu S b.toNat).1 * (sNu S a.toNat).2) ((sNu S a.toNat).2 * (sNu S b.toNat).2)).2))
    exact ⟨_, rfl, hx, f0.trans hf, rfl⟩
  · skip
    refine g_iconst rfl ?_
    refine g_goto rfl ?_
    refine g_istore (l1 := [(12, aI 1), (10, aJ ((sNu S (b.toNat)).2)), (8, aJ ((sNu S (b.toNat)).1)), (6, aJ ((sNu S (a.toNat)).2)), (4, aJ ((sNu S (a.toNat)).1)), (0, aO (some o)), (1, aI 0), (2, aI a), (3, aI b)]) rfl rfl ?_
    refine g_iconst rfl ?_
    refine g_istore (l1 := [(13, aI 1), (12, aI 1), (10, aJ ((sNu S (b.toNat)).2)), (8, aJ ((sNu S (b.toNat)).1)), (6, aJ ((sNu S (a.toNat)).2)), (4, aJ ((sNu S (a.toNat)).1)), (0, aO (some o)), (1, aI 0), (2, aI a), (3, aI b)]) rfl rfl ?_
    refine g_iload_n rfl rfl ?_
    refine g_tsw (t := 144) rfl (by rfl) ?_
    refine g_aload_n rfl rfl ?_
    refine g_lload rfl rfl ?_
    refine g_lload rfl rfl ?_
    refine g_lmul rfl (by omega) (by omega) ?_
    refine g_lload rfl rfl ?_
    refine g_lload rfl rfl ?_
    refine g_lmul rfl (by omega) (by omega) ?_
    refine g_ladd rfl (by omega) (by omega) ?_
    refine g_lload rfl rfl ?_
    refine g_lload rfl rfl ?_
    refine g_lmul rfl (by omega) (by omega) ?_
    refine g_callVI [aJ ((((sNu S (a.toNat)).1) * ((sNu S (b.toNat)).2)) + (((sNu S (b.toNat)).1) * ((sNu S (a.toNat)).2))), aJ (((sNu S (a.toNat)).2) * ((sNu S (b.toNat)).2))] [] rfl rfl rfl rfl (Nat.le_of_ble_eq_true rfl) ms.1 (m_reduce (by omega) ms (((((vset V o 31 0))))) ((((sNu S (a.toNat)).1) * ((sNu S (b.toNat)).2)) + (((sNu S (b.toNat)).1) * ((sNu S (a.toNat)).2))) (((sNu S (a.toNat)).2) * ((sNu S (b.toNat)).2)) (by omega) (by omega) (by omega)) ?_
    rintro _ _ ⟨rfl, rfl⟩
    refine g_istore (l1 := [(13, aI (if smallF (lowF ((((sNu S (a.toNat)).1) * ((sNu S (b.toNat)).2)) + (((sNu S (b.toNat)).1) * ((sNu S (a.toNat)).2))) (((sNu S (a.toNat)).2) * ((sNu S (b.toNat)).2))) = true then 1 else 0)), (12, aI 1), (10, aJ ((sNu S (b.toNat)).2)), (8, aJ ((sNu S (b.toNat)).1)), (6, aJ ((sNu S (a.toNat)).2)), (4, aJ ((sNu S (a.toNat)).1)), (0, aO (some o)), (1, aI 0), (2, aI a), (3, aI b)]) rfl rfl ?_
    refine g_goto rfl ?_
    refine g_aload_n rfl rfl ?_
    refine g_iload rfl rfl ?_
    refine g_callVI [aI (if smallF (lowF ((((sNu S (a.toNat)).1) * ((sNu S (b.toNat)).2)) + (((sNu S (b.toNat)).1) * ((sNu S (a.toNat)).2))) (((sNu S (a.toNat)).2) * ((sNu S (b.toNat)).2))) = true then 1 else 0)] [] rfl rfl rfl rfl (Nat.le_of_ble_eq_true rfl) ms.1 (m_keepN (by omega) ms ((vset (vset (((((vset V o 31 0))))) o 5 (lowF ((((sNu S (a.toNat)).1) * ((sNu S (b.toNat)).2)) + (((sNu S (b.toNat)).1) * ((sNu S (a.toNat)).2))) (((sNu S (a.toNat)).2) * ((sNu S (b.toNat)).2))).1) o 6 (lowF ((((sNu S (a.toNat)).1) * ((sNu S (b.toNat)).2)) + (((sNu S (b.toNat)).1) * ((sNu S (a.toNat)).2))) (((sNu S (a.toNat)).2) * ((sNu S (b.toNat)).2))).2)) ((mn2.own (i := 5) (by decide) _).own (i := 6) (by decide) _) ok (lowF ((sNu S a.toNat).1 * (sNu S b.toNat).2 + (sNu S b.toNat).1 * (sNu S a.toNat).2) ((sNu S a.toNat).2 * (sNu S b.toNat).2)) (by rw [vset_ne _ _ _ _ (by omega), vset_eq]) (vset_eq ..) _ rfl) ?_
    rintro _ _ ⟨W7, rfl, hx, hf, rfl⟩
    refine g_iret rfl ?_
    have eb : badF ((sNu S a.toNat).1 * (sNu S b.toNat).2 + (sNu S b.toNat).1 * (sNu S a.toNat).2) ((sNu S a.toNat).2 * (sNu S b.toNat).2) ≠ true := by
      rw [Ne, badF_iff]
      omega
    have eS : spR S 0 (sNu S a.toNat) (sNu S b.toNat) = keepN S (lowF ((sNu S a.toNat).1 * (sNu S b.toNat).2 + (sNu S b.toNat).1 * (sNu S a.toNat).2) ((sNu S a.toNat).2 * (sNu S b.toNat).2)) := by
      show (spF S ((sNu S a.toNat).1 * (sNu S b.toNat).2 + (sNu S b.toNat).1 * (sNu S a.toNat).2) ((sNu S a.toNat).2 * (sNu S b.toNat).2)) = _
      skip
      unfold spF
      rw [if_neg eb]
    rw [eS]
    have f0 := (FM.own V o (i := 31) (by omega) 0).trans ((FM.own (vset V o 31 0) o (i := 5) (by omega) (lowF ((sNu S a.toNat).1 * (sNu S b.toNat).2 + (sNu S b.toNat).1 * (sNu S a.toNat).2) ((sNu S a.toNat).2 * (sNu S b.toNat).2)).1).trans (FM.own _ o (i := 6) (by omega) (lowF ((sNu S a.toNat).1 * (sNu S b.toNat).2 + (sNu S b.toNat).1 * (sNu S a.toNat).2) ((sNu S a.toNat).2 * (sNu S b.toNat).2)).2))
    exact ⟨_, rfl, hx, f0.trans hf, rfl⟩
set_option maxRecDepth 100000 in
theorem m_apply1 {w : aW} {d : Nat} (hd : 3 ≤ d) {h : aH} {o : Nat} (ms : MS h o) (V : Nat → Nat → Int) {S : aS} (mn : MN V o S) (ok : OkN S) (a b : Int) (ha : 0 ≤ a ∧ a < sN S) (hb : 0 ≤ b ∧ b < sN S) : WP w d 275 [aO (some o), aI 1, aI a, aI b] (hw h V) (RI (fun r h1 => ∃ V1, h1 = hw h V1 ∧ MN V1 o (spR S 1 (sNu S a.toNat) (sNu S b.toNat)).2 ∧ FM V V1 o ∧ r = (spR S 1 (sNu S a.toNat) (sNu S b.toNat)).1)) := by
  obtain ⟨d, rfl⟩ : ∃ d1, d = d1 + 1 := ⟨d - 1, by omega⟩
  refine WP.enter (cd := cd_X12_apply) rfl ?_
  have mn2 := mn.own (i := 31) (by decide) 0
  have hn2 := ok.1
  have hp := ok.at ha
  have hq := ok.at hb
  have m0 := mulB (x := (sNu S a.toNat).1) (y := (sNu S b.toNat).2) (by omega) (by omega) (by omega) (by omega)
  have m1 := mulB (x := (sNu S b.toNat).1) (y := (sNu S a.toNat).2) (by omega) (by omega) (by omega) (by omega)
  have m2 := mulB (x := (sNu S a.toNat).2) (y := (sNu S b.toNat).2) (by omega) (by omega) (by omega) (by omega)
  have m3 := mulB (x := (sNu S a.toNat).1) (y := (sNu S b.toNat).1) (by omega) (by omega) (by omega) (by omega)
  have m4 := mulB (x := (sNu S a.toNat).2) (y := (sNu S b.toNat).1) (by omega) (by omega) (by omega) (by omega)
  have pm := Int.mul_pos hp.1 hq.1
  have hls : largs 0 [aO (some o), aI 1, aI a, aI b] = [(0, aO (some o)), (1, aI 1), (2, aI a), (3, aI b)] := rfl
  rw [hls]
  clear hls
  refine g_aload_n rfl rfl ?_
  refine g_iconst rfl ?_
  refine g_putI rfl ms.1 ?_
  refine g_iload_n rfl rfl ?_
  refine g_i2l rfl ?_
  refine g_lconst0 rfl ?_
  refine g_ldc2 rfl ?_
  refine g_callSI [aJ 1, aJ 0, aJ 9] [] rfl rfl rfl rfl (Nat.le_of_ble_eq_true rfl) (c_in (by omega) 1 0 9 _) ?_
  rintro _ _ ⟨rfl, rfl⟩
  refine g_if_eq_f rfl (by decide) ?_
  refine g_aload_n rfl rfl ?_
  refine g_iload_n rfl rfl ?_
  refine g_callVI [aI a] [] rfl rfl rfl rfl (Nat.le_of_ble_eq_true rfl) ms.1 (m_isN (by omega) ms (((vset V o 31 0))) mn2 ok a) ?_
  rintro _ _ ⟨rfl, rfl⟩
  refine g_if_eq_f rfl (by rw [if_pos ha]; decide) ?_
  refine g_aload_n rfl rfl ?_
  refine g_iload_n rfl rfl ?_
  refine g_callVI [aI b] [] rfl rfl rfl rfl (Nat.le_of_ble_eq_true rfl) ms.1 (m_isN (by omega) ms ((((vset V o 31 0)))) mn2 ok b) ?_
  rintro _ _ ⟨rfl, rfl⟩
  refine g_if_ne_t rfl (by rw [if_pos hb]; decide) ?_
  refine g_aload_n rfl rfl ?_
  refine g_getR rfl ms.1 (mr_upper ms) ?_
  refine g_iload_n rfl rfl ?_
  refine g_lald (i := a.toNat) rfl (mt_upper ms) (by omega) (by omega) ?_
  refine g_top (v2 := aJ ((sNu S (a.toNat)).1)) (congrArg aJ (by exact (mn2.2 _ (by omega)).1)) ?_
  refine g_lstore (l1 := [(4, aJ ((sNu S (a.toNat)).1)), (0, aO (some o)), (1, aI 1), (2, aI a), (3, aI b)]) rfl rfl ?_
  refine g_aload_n rfl rfl ?_
  refine g_getR rfl ms.1 (mr_lower ms) ?_
  refine g_iload_n rfl rfl ?_
  refine g_lald (i := a.toNat) rfl (mt_lower ms) (by omega) (by omega) ?_
  refine g_top (v2 := aJ ((sNu S (a.toNat)).2)) (congrArg aJ (by exact (mn2.2 _ (by omega)).2)) ?_
  refine g_lstore (l1 := [(6, aJ ((sNu S (a.toNat)).2)), (4, aJ ((sNu S (a.toNat)).1)), (0, aO (some o)), (1, aI 1), (2, aI a), (3, aI b)]) rfl rfl ?_
  refine g_aload_n rfl rfl ?_
  refine g_getR rfl ms.1 (mr_upper ms) ?_
  refine g_iload_n rfl rfl ?_
  refine g_lald (i := b.toNat) rfl (mt_upper ms) (by omega) (by omega) ?_
  refine g_top (v2 := aJ ((sNu S (b.toNat)).1)) (congrArg aJ (by exact (mn2.2 _ (by omega)).1)) ?_
  refine g_lstore (l1 := [(8, aJ ((sNu S (b.toNat)).1)), (6, aJ ((sNu S (a.toNat)).2)), (4, aJ ((sNu S (a.toNat)).1)), (0, aO (some o)), (1, aI 1), (2, aI a), (3, aI b)]) rfl rfl ?_
  refine g_aload_n rfl rfl ?_
  refine g_getR rfl ms.1 (mr_lower ms) ?_
  refine g_iload_n rfl rfl ?_
  refine g_lald (i := b.toNat) rfl (mt_lower ms) (by omega) (by omega) ?_
  refine g_top (v2 := aJ ((sNu S (b.toNat)).2)) (congrArg aJ (by exact (mn2.2 _ (by omega)).2)) ?_
  refine g_lstore (l1 := [(10, aJ ((sNu S (b.toNat)).2)), (8, aJ ((sNu S (b.toNat)).1)), (6, aJ ((sNu S (a.toNat)).2)), (4, aJ ((sNu S (a.toNat)).1)), (0, aO (some o)), (1, aI 1), (2, aI a), (3, aI b)]) rfl rfl ?_
  refine g_lload rfl rfl ?_
  refine g_lload rfl rfl ?_
  refine g_lmul rfl (by omega) (by omega) ?_
  refine g_lload rfl rfl ?_
  refine g_lload rfl rfl ?_
  refine g_lmul rfl (by omega) (by omega) ?_
  refine g_lc_ge rfl rfl (fun c77 => ?_) (fun c77 => ?_)
  · skip
    refine g_iconst rfl ?_
    refine g_istore (l1 := [(12, aI 0), (10, aJ ((sNu S (b.toNat)).2)), (8, aJ ((sNu S (b.toNat)).1)), (6, aJ ((sNu S (a.toNat)).2)), (4, aJ ((sNu S (a.toNat)).1)), (0, aO (some o)), (1, aI 1), (2, aI a), (3, aI b)]) rfl rfl ?_
    refine g_iconst rfl ?_
    refine g_istore (l1 := [(13, aI 1), (12, aI 0), (10, aJ ((sNu S (b.toNat)).2)), (8, aJ ((sNu S (b.toNat)).1)), (6, aJ ((sNu S (a.toNat)).2)), (4, aJ ((sNu S (a.toNat)).1)), (0, aO (some o)), (1, aI 1), (2, aI a), (3, aI b)]) rfl rfl ?_
    refine g_iload_n rfl rfl ?_
    refine g_tsw (t := 169) rfl (by rfl) ?_
    refine g_aload_n rfl rfl ?_
    refine g_lload rfl rfl ?_
    refine g_lload rfl rfl ?_
    refine g_lmul rfl (by omega) (by omega) ?_
    refine g_lload rfl rfl ?_
    refine g_lload rfl rfl ?_
    refine g_lmul rfl (by omega) (by omega) ?_
    refine g_lsub rfl (by omega) (by omega) ?_
    refine g_lload rfl rfl ?_
    refine g_lload rfl rfl ?_
    refine g_lmul rfl (by omega) (by omega) ?_
    refine g_callVI [aJ ((((sNu S (a.toNat)).1) * ((sNu S (b.toNat)).2)) - (((sNu S (b.toNat)).1) * ((sNu S (a.toNat)).2))), aJ (((sNu S (a.toNat)).2) * ((sNu S (b.toNat)).2))] [] rfl rfl rfl rfl (Nat.le_of_ble_eq_true rfl) ms.1 (m_reduce (by omega) ms (((((vset V o 31 0))))) ((((sNu S (a.toNat)).1) * ((sNu S (b.toNat)).2)) - (((sNu S (b.toNat)).1) * ((sNu S (a.toNat)).2))) (((sNu S (a.toNat)).2) * ((sNu S (b.toNat)).2)) (by omega) (by omega) (by omega)) ?_
    rintro _ _ ⟨rfl, rfl⟩
    refine g_istore (l1 := [(13, aI (if smallF (lowF ((((sNu S (a.toNat)).1) * ((sNu S (b.toNat)).2)) - (((sNu S (b.toNat)).1) * ((sNu S (a.toNat)).2))) (((sNu S (a.toNat)).2) * ((sNu S (b.toNat)).2))) = true then 1 else 0)), (12, aI 0), (10, aJ ((sNu S (b.toNat)).2)), (8, aJ ((sNu S (b.toNat)).1)), (6, aJ ((sNu S (a.toNat)).2)), (4, aJ ((sNu S (a.toNat)).1)), (0, aO (some o)), (1, aI 1), (2, aI a), (3, aI b)]) rfl rfl ?_
    refine g_goto rfl ?_
    refine g_aload_n rfl rfl ?_
    refine g_iload rfl rfl ?_
    refine g_callVI [aI (if smallF (lowF ((((sNu S (a.toNat)).1) * ((sNu S (b.toNat)).2)) - (((sNu S (b.toNat)).1) * ((sNu S (a.toNat)).2))) (((sNu S (a.toNat)).2) * ((sNu S (b.toNat)).2))) = true then 1 else 0)] [] rfl rfl rfl rfl (Nat.le_of_ble_eq_true rfl) ms.1 (m_keepN (by omega) ms ((vset (vset (((((vset V o 31 0))))) o 5 (lowF ((((sNu S (a.toNat)).1) * ((sNu S (b.toNat)).2)) - (((sNu S (b.toNat)).1) * ((sNu S (a.toNat)).2))) (((sNu S (a.toNat)).2) * ((sNu S (b.toNat)).2))).1) o 6 (lowF ((((sNu S (a.toNat)).1) * ((sNu S (b.toNat)).2)) - (((sNu S (b.toNat)).1) * ((sNu S (a.toNat)).2))) (((sNu S (a.toNat)).2) * ((sNu S (b.toNat)).2))).2)) ((mn2.own (i := 5) (by decide) _).own (i := 6) (by decide) _) ok (lowF ((sNu S a.toNat).1 * (sNu S b.toNat).2 - (sNu S b.toNat).1 * (sNu S a.toNat).2) ((sNu S a.toNat).2 * (sNu S b.toNat).2)) (by rw [vset_ne _ _ _ _ (by omega), vset_eq]) (vset_eq ..) _ rfl) ?_
    rintro _ _ ⟨W5, rfl, hx, hf, rfl⟩
    refine g_iret rfl ?_
    have eb : badF ((sNu S a.toNat).1 * (sNu S b.toNat).2 - (sNu S b.toNat).1 * (sNu S a.toNat).2) ((sNu S a.toNat).2 * (sNu S b.toNat).2) ≠ true := by
      rw [Ne, badF_iff]
      omega
    have eS : spR S 1 (sNu S a.toNat) (sNu S b.toNat) = keepN S (lowF ((sNu S a.toNat).1 * (sNu S b.toNat).2 - (sNu S b.toNat).1 * (sNu S a.toNat).2) ((sNu S a.toNat).2 * (sNu S b.toNat).2)) := by
      show (spF S ((sNu S a.toNat).1 * (sNu S b.toNat).2 - (sNu S b.toNat).1 * (sNu S a.toNat).2) ((sNu S a.toNat).2 * (sNu S b.toNat).2)) = _
      skip
      unfold spF
      rw [if_neg eb]
    rw [eS]
    have f0 := (FM.own V o (i := 31) (by omega) 0).trans ((FM.own (vset V o 31 0) o (i := 5) (by omega) (lowF ((sNu S a.toNat).1 * (sNu S b.toNat).2 - (sNu S b.toNat).1 * (sNu S a.toNat).2) ((sNu S a.toNat).2 * (sNu S b.toNat).2)).1).trans (FM.own _ o (i := 6) (by omega) (lowF ((sNu S a.toNat).1 * (sNu S b.toNat).2 - (sNu S b.toNat).1 * (sNu S a.toNat).2) ((sNu S a.toNat).2 * (sNu S b.toNat).2)).2))
    exact ⟨_, rfl, hx, f0.trans hf, rfl⟩
  · skip
    refine g_iconst rfl ?_
    refine g_goto rfl ?_
    refine g_istore (l1 := [(12, aI 1), (10, aJ ((sNu S (b.toNat)).2)), (8, aJ ((sNu S (b.toNat)).1)), (6, aJ ((sNu S (a.toNat)).2)), (4, aJ ((sNu S (a.toNat)).1)), (0, aO (some o)), (1, aI 1), (2, aI a), (3, aI b)]) rfl rfl ?_
    refine g_iconst rfl ?_
    refine g_istore (l1 := [(13, aI 1), (12, aI 1), (10, aJ ((sNu S (b.toNat)).2)), (8, aJ ((sNu S (b.toNat)).1)), (6, aJ ((sNu S (a.toNat)).2)), (4, aJ ((sNu S (a.toNat)).1)), (0, aO (some o)), (1, aI 1), (2, aI a), (3, aI b)]) rfl rfl ?_
    refine g_iload_n rfl rfl ?_
    refine g_tsw (t := 169) rfl (by rfl) ?_
    refine g_aload_n rfl rfl ?_
    refine g_lload rfl rfl ?_
    refine g_lload rfl rfl ?_
    refine g_lmul rfl (by omega) (by omega) ?_
    refine g_lload rfl rfl ?_
    refine g_lload rfl rfl ?_
    refine g_lmul rfl (by omega) (by omega) ?_
    refine g_lsub rfl (by omega) (by omega) ?_
    refine g_lload rfl rfl ?_
    refine g_lload rfl rfl ?_
    refine g_lmul rfl (by omega) (by omega) ?_
    refine g_callVI [aJ ((((sNu S (a.toNat)).1) * ((sNu S (b.toNat)).2)) - (((sNu S (b.toNat)).1) * ((sNu S (a.toNat)).2))), aJ (((sNu S (a.toNat)).2) * ((sNu S (b.toNat)).2))] [] rfl rfl rfl rfl (Nat.le_of_ble_eq_true rfl) ms.1 (m_reduce (by omega) ms (((((vset V o 31 0))))) ((((sNu S (a.toNat)).1) * ((sNu S (b.toNat)).2)) - (((sNu S (b.toNat)).1) * ((sNu S (a.toNat)).2))) (((sNu S (a.toNat)).2) * ((sNu S (b.toNat)).2)) (by omega) (by omega) (by omega)) ?_
    rintro _ _ ⟨rfl, rfl⟩
    refine g_istore (l1 := [(13, aI (if smallF (lowF ((((sNu S (a.toNat)).1) * ((sNu S (b.toNat)).2)) - (((sNu S (b.toNat)).1) * ((sNu S (a.toNat)).2))) (((sNu S (a.toNat)).2) * ((sNu S (b.toNat)).2))) = true then 1 else 0)), (12, aI 1), (10, aJ ((sNu S (b.toNat)).2)), (8, aJ ((sNu S (b.toNat)).1)), (6, aJ ((sNu S (a.toNat)).2)), (4, aJ ((sNu S (a.toNat)).1)), (0, aO (some o)), (1, aI 1), (2, aI a), (3, aI b)]) rfl rfl ?_
    refine g_goto rfl ?_
    refine g_aload_n rfl rfl ?_
    refine g_iload rfl rfl ?_
    refine g_callVI [aI (if smallF (lowF ((((sNu S (a.toNat)).1) * ((sNu S (b.toNat)).2)) - (((sNu S (b.toNat)).1) * ((sNu S (a.toNat)).2))) (((sNu S (a.toNat)).2) * ((sNu S (b.toNat)).2))) = true then 1 else 0)] [] rfl rfl rfl rfl (Nat.le_of_ble_eq_true rfl) ms.1 (m_keepN (by omega) ms ((vset (vset (((((vset V o 31 0))))) o 5 (lowF ((((sNu S (a.toNat)).1) * ((sNu S (b.toNat)).2)) - (((sNu S (b.toNat)).1) * ((sNu S (a.toNat)).2))) (((sNu S (a.toNat)).2) * ((sNu S (b.toNat)).2))).1) o 6 (lowF ((((sNu S (a.toNat)).1) * ((sNu S (b.toNat)).2)) - (((sNu S (b.toNat)).1) * ((sNu S (a.toNat)).2))) (((sNu S (a.toNat)).2) * ((sNu S (b.toNat)).2))).2)) ((mn2.own (i := 5) (by decide) _).own (i := 6) (by decide) _) ok (lowF ((sNu S a.toNat).1 * (sNu S b.toNat).2 - (sNu S b.toNat).1 * (sNu S a.toNat).2) ((sNu S a.toNat).2 * (sNu S b.toNat).2)) (by rw [vset_ne _ _ _ _ (by omega), vset_eq]) (vset_eq ..) _ rfl) ?_
    rintro _ _ ⟨W7, rfl, hx, hf, rfl⟩
    refine g_iret rfl ?_
    have eb : badF ((sNu S a.toNat).1 * (sNu S b.toNat).2 - (sNu S b.toNat).1 * (sNu S a.toNat).2) ((sNu S a.toNat).2 * (sNu S b.toNat).2) ≠ true := by
      rw [Ne, badF_iff]
      omega
    have eS : spR S 1 (sNu S a.toNat) (sNu S b.toNat) = keepN S (lowF ((sNu S a.toNat).1 * (sNu S b.toNat).2 - (sNu S b.toNat).1 * (sNu S a.toNat).2) ((sNu S a.toNat).2 * (sNu S b.toNat).2)) := by
      show (spF S ((sNu S a.toNat).1 * (sNu S b.toNat).2 - (sNu S b.toNat).1 * (sNu S a.toNat).2) ((sNu S a.toNat).2 * (sNu S b.toNat).2)) = _
      skip
      unfold spF
      rw [if_neg eb]
    rw [eS]
    have f0 := (FM.own V o (i := 31) (by omega) 0).trans ((FM.own (vset V o 31 0) o (i := 5) (by omega) (lowF ((sNu S a.toNat).1 * (sNu S b.toNat).2 - (sNu S b.toNat).1 * (sNu S a.toNat).2) ((sNu S a.toNat).2 * (sNu S b.toNat).2)).1).trans (FM.own _ o (i := 6) (by omega) (lowF ((sNu S a.toNat).1 * (sNu S b.toNat).2 - (sNu S b.toNat).1 * (sNu S a.toNat).2) ((sNu S a.toNat).2 * (sNu S b.toNat).2)).2))
    exact ⟨_, rfl, hx, f0.trans hf, rfl⟩
set_option maxRecDepth 100000 in
theorem m_apply2 {w : aW} {d : Nat} (hd : 3 ≤ d) {h : aH} {o : Nat} (ms : MS h o) (V : Nat → Nat → Int) {S : aS} (mn : MN V o S) (ok : OkN S) (a b : Int) (ha : 0 ≤ a ∧ a < sN S) (hb : 0 ≤ b ∧ b < sN S) : WP w d 275 [aO (some o), aI 2, aI a, aI b] (hw h V) (RI (fun r h1 => ∃ V1, h1 = hw h V1 ∧ MN V1 o (spR S 2 (sNu S a.toNat) (sNu S b.toNat)).2 ∧ FM V V1 o ∧ r = (spR S 2 (sNu S a.toNat) (sNu S b.toNat)).1)) := by
  obtain ⟨d, rfl⟩ : ∃ d1, d = d1 + 1 := ⟨d - 1, by omega⟩
  refine WP.enter (cd := cd_X12_apply) rfl ?_
  have mn2 := mn.own (i := 31) (by decide) 0
  have hn2 := ok.1
  have hp := ok.at ha
  have hq := ok.at hb
  have m0 := mulB (x := (sNu S a.toNat).1) (y := (sNu S b.toNat).2) (by omega) (by omega) (by omega) (by omega)
  have m1 := mulB (x := (sNu S b.toNat).1) (y := (sNu S a.toNat).2) (by omega) (by omega) (by omega) (by omega)
  have m2 := mulB (x := (sNu S a.toNat).2) (y := (sNu S b.toNat).2) (by omega) (by omega) (by omega) (by omega)
  have m3 := mulB (x := (sNu S a.toNat).1) (y := (sNu S b.toNat).1) (by omega) (by omega) (by omega) (by omega)
  have m4 := mulB (x := (sNu S a.toNat).2) (y := (sNu S b.toNat).1) (by omega) (by omega) (by omega) (by omega)
  have pm := Int.mul_pos hp.1 hq.1
  have hls : largs 0 [aO (some o), aI 2, aI a, aI b] = [(0, aO (some o)), (1, aI 2), (2, aI a), (3, aI b)] := rfl
  rw [hls]
  clear hls
  refine g_aload_n rfl rfl ?_
  refine g_iconst rfl ?_
  refine g_putI rfl ms.1 ?_
  refine g_iload_n rfl rfl ?_
  refine g_i2l rfl ?_
  refine g_lconst0 rfl ?_
  refine g_ldc2 rfl ?_
  refine g_callSI [aJ 2, aJ 0, aJ 9] [] rfl rfl rfl rfl (Nat.le_of_ble_eq_true rfl) (c_in (by omega) 2 0 9 _) ?_
  rintro _ _ ⟨rfl, rfl⟩
  refine g_if_eq_f rfl (by decide) ?_
  refine g_aload_n rfl rfl ?_
  refine g_iload_n rfl rfl ?_
  refine g_callVI [aI a] [] rfl rfl rfl rfl (Nat.le_of_ble_eq_true rfl) ms.1 (m_isN (by omega) ms (((vset V o 31 0))) mn2 ok a) ?_
  rintro _ _ ⟨rfl, rfl⟩
  refine g_if_eq_f rfl (by rw [if_pos ha]; decide) ?_
  refine g_aload_n rfl rfl ?_
  refine g_iload_n rfl rfl ?_
  refine g_callVI [aI b] [] rfl rfl rfl rfl (Nat.le_of_ble_eq_true rfl) ms.1 (m_isN (by omega) ms ((((vset V o 31 0)))) mn2 ok b) ?_
  rintro _ _ ⟨rfl, rfl⟩
  refine g_if_ne_t rfl (by rw [if_pos hb]; decide) ?_
  refine g_aload_n rfl rfl ?_
  refine g_getR rfl ms.1 (mr_upper ms) ?_
  refine g_iload_n rfl rfl ?_
  refine g_lald (i := a.toNat) rfl (mt_upper ms) (by omega) (by omega) ?_
  refine g_top (v2 := aJ ((sNu S (a.toNat)).1)) (congrArg aJ (by exact (mn2.2 _ (by omega)).1)) ?_
  refine g_lstore (l1 := [(4, aJ ((sNu S (a.toNat)).1)), (0, aO (some o)), (1, aI 2), (2, aI a), (3, aI b)]) rfl rfl ?_
  refine g_aload_n rfl rfl ?_
  refine g_getR rfl ms.1 (mr_lower ms) ?_
  refine g_iload_n rfl rfl ?_
  refine g_lald (i := a.toNat) rfl (mt_lower ms) (by omega) (by omega) ?_
  refine g_top (v2 := aJ ((sNu S (a.toNat)).2)) (congrArg aJ (by exact (mn2.2 _ (by omega)).2)) ?_
  refine g_lstore (l1 := [(6, aJ ((sNu S (a.toNat)).2)), (4, aJ ((sNu S (a.toNat)).1)), (0, aO (some o)), (1, aI 2), (2, aI a), (3, aI b)]) rfl rfl ?_
  refine g_aload_n rfl rfl ?_
  refine g_getR rfl ms.1 (mr_upper ms) ?_
  refine g_iload_n rfl rfl ?_
  refine g_lald (i := b.toNat) rfl (mt_upper ms) (by omega) (by omega) ?_
  refine g_top (v2 := aJ ((sNu S (b.toNat)).1)) (congrArg aJ (by exact (mn2.2 _ (by omega)).1)) ?_
  refine g_lstore (l1 := [(8, aJ ((sNu S (b.toNat)).1)), (6, aJ ((sNu S (a.toNat)).2)), (4, aJ ((sNu S (a.toNat)).1)), (0, aO (some o)), (1, aI 2), (2, aI a), (3, aI b)]) rfl rfl ?_
  refine g_aload_n rfl rfl ?_
  refine g_getR rfl ms.1 (mr_lower ms) ?_
  refine g_iload_n rfl rfl ?_
  refine g_lald (i := b.toNat) rfl (mt_lower ms) (by omega) (by omega) ?_
  refine g_top (v2 := aJ ((sNu S (b.toNat)).2)) (congrArg aJ (by exact (mn2.2 _ (by omega)).2)) ?_
  refine g_lstore (l1 := [(10, aJ ((sNu S (b.toNat)).2)), (8, aJ ((sNu S (b.toNat)).1)), (6, aJ ((sNu S (a.toNat)).2)), (4, aJ ((sNu S (a.toNat)).1)), (0, aO (some o)), (1, aI 2), (2, aI a), (3, aI b)]) rfl rfl ?_
  refine g_lload rfl rfl ?_
  refine g_lload rfl rfl ?_
  refine g_lmul rfl (by omega) (by omega) ?_
  refine g_lload rfl rfl ?_
  refine g_lload rfl rfl ?_
  refine g_lmul rfl (by omega) (by omega) ?_
  refine g_lc_ge rfl rfl (fun c77 => ?_) (fun c77 => ?_)
  · skip
    refine g_iconst rfl ?_
    refine g_istore (l1 := [(12, aI 0), (10, aJ ((sNu S (b.toNat)).2)), (8, aJ ((sNu S (b.toNat)).1)), (6, aJ ((sNu S (a.toNat)).2)), (4, aJ ((sNu S (a.toNat)).1)), (0, aO (some o)), (1, aI 2), (2, aI a), (3, aI b)]) rfl rfl ?_
    refine g_iconst rfl ?_
    refine g_istore (l1 := [(13, aI 1), (12, aI 0), (10, aJ ((sNu S (b.toNat)).2)), (8, aJ ((sNu S (b.toNat)).1)), (6, aJ ((sNu S (a.toNat)).2)), (4, aJ ((sNu S (a.toNat)).1)), (0, aO (some o)), (1, aI 2), (2, aI a), (3, aI b)]) rfl rfl ?_
    refine g_iload_n rfl rfl ?_
    refine g_tsw (t := 194) rfl (by rfl) ?_
    refine g_aload_n rfl rfl ?_
    refine g_lload rfl rfl ?_
    refine g_lload rfl rfl ?_
    refine g_lmul rfl (by omega) (by omega) ?_
    refine g_lload rfl rfl ?_
    refine g_lload rfl rfl ?_
    refine g_lmul rfl (by omega) (by omega) ?_
    refine g_callVI [aJ (((sNu S (a.toNat)).1) * ((sNu S (b.toNat)).1)), aJ (((sNu S (a.toNat)).2) * ((sNu S (b.toNat)).2))] [] rfl rfl rfl rfl (Nat.le_of_ble_eq_true rfl) ms.1 (m_reduce (by omega) ms (((((vset V o 31 0))))) (((sNu S (a.toNat)).1) * ((sNu S (b.toNat)).1)) (((sNu S (a.toNat)).2) * ((sNu S (b.toNat)).2)) (by omega) (by omega) (by omega)) ?_
    rintro _ _ ⟨rfl, rfl⟩
    refine g_istore (l1 := [(13, aI (if smallF (lowF (((sNu S (a.toNat)).1) * ((sNu S (b.toNat)).1)) (((sNu S (a.toNat)).2) * ((sNu S (b.toNat)).2))) = true then 1 else 0)), (12, aI 0), (10, aJ ((sNu S (b.toNat)).2)), (8, aJ ((sNu S (b.toNat)).1)), (6, aJ ((sNu S (a.toNat)).2)), (4, aJ ((sNu S (a.toNat)).1)), (0, aO (some o)), (1, aI 2), (2, aI a), (3, aI b)]) rfl rfl ?_
    refine g_goto rfl ?_
    refine g_aload_n rfl rfl ?_
    refine g_iload rfl rfl ?_
    refine g_callVI [aI (if smallF (lowF (((sNu S (a.toNat)).1) * ((sNu S (b.toNat)).1)) (((sNu S (a.toNat)).2) * ((sNu S (b.toNat)).2))) = true then 1 else 0)] [] rfl rfl rfl rfl (Nat.le_of_ble_eq_true rfl) ms.1 (m_keepN (by omega) ms ((vset (vset (((((vset V o 31 0))))) o 5 (lowF (((sNu S (a.toNat)).1) * ((sNu S (b.toNat)).1)) (((sNu S (a.toNat)).2) * ((sNu S (b.toNat)).2))).1) o 6 (lowF (((sNu S (a.toNat)).1) * ((sNu S (b.toNat)).1)) (((sNu S (a.toNat)).2) * ((sNu S (b.toNat)).2))).2)) ((mn2.own (i := 5) (by decide) _).own (i := 6) (by decide) _) ok (lowF ((sNu S a.toNat).1 * (sNu S b.toNat).1) ((sNu S a.toNat).2 * (sNu S b.toNat).2)) (by rw [vset_ne _ _ _ _ (by omega), vset_eq]) (vset_eq ..) _ rfl) ?_
    rintro _ _ ⟨W5, rfl, hx, hf, rfl⟩
    refine g_iret rfl ?_
    have eb : badF ((sNu S a.toNat).1 * (sNu S b.toNat).1) ((sNu S a.toNat).2 * (sNu S b.toNat).2) ≠ true := by
      rw [Ne, badF_iff]
      omega
    have eS : spR S 2 (sNu S a.toNat) (sNu S b.toNat) = keepN S (lowF ((sNu S a.toNat).1 * (sNu S b.toNat).1) ((sNu S a.toNat).2 * (sNu S b.toNat).2)) := by
      show (spF S ((sNu S a.toNat).1 * (sNu S b.toNat).1) ((sNu S a.toNat).2 * (sNu S b.toNat).2)) = _
      skip
      unfold spF
      rw [if_neg eb]
    rw [eS]
    have f0 := (FM.own V o (i := 31) (by omega) 0).trans ((FM.own (vset V o 31 0) o (i := 5) (by omega) (lowF ((sNu S a.toNat).1 * (sNu S b.toNat).1) ((sNu S a.toNat).2 * (sNu S b.toNat).2)).1).trans (FM.own _ o (i := 6) (by omega) (lowF ((sNu S a.toNat).1 * (sNu S b.toNat).1) ((sNu S a.toNat).2 * (sNu S b.toNat).2)).2))
    exact ⟨_, rfl, hx, f0.trans hf, rfl⟩
  · skip
    refine g_iconst rfl ?_
    refine g_goto rfl ?_
    refine g_istore (l1 := [(12, aI 1), (10, aJ ((sNu S (b.toNat)).2)), (8, aJ ((sNu S (b.toNat)).1)), (6, aJ ((sNu S (a.toNat)).2)), (4, aJ ((sNu S (a.toNat)).1)), (0, aO (some o)), (1, aI 2), (2, aI a), (3, aI b)]) rfl rfl ?_
    refine g_iconst rfl ?_
    refine g_istore (l1 := [(13, aI 1), (12, aI 1), (10, aJ ((sNu S (b.toNat)).2)), (8, aJ ((sNu S (b.toNat)).1)), (6, aJ ((sNu S (a.toNat)).2)), (4, aJ ((sNu S (a.toNat)).1)), (0, aO (some o)), (1, aI 2), (2, aI a), (3, aI b)]) rfl rfl ?_
    refine g_iload_n rfl rfl ?_
    refine g_tsw (t := 194) rfl (by rfl) ?_
    refine g_aload_n rfl rfl ?_
    refine g_lload rfl rfl ?_
    refine g_lload rfl rfl ?_
    refine g_lmul rfl (by omega) (by omega) ?_
    refine g_lload rfl rfl ?_
    refine g_lload rfl rfl ?_
    refine g_lmul rfl (by omega) (by omega) ?_
    refine g_callVI [aJ (((sNu S (a.toNat)).1) * ((sNu S (b.toNat)).1)), aJ (((sNu S (a.toNat)).2) * ((sNu S (b.toNat)).2))] [] rfl rfl rfl rfl (Nat.le_of_ble_eq_true rfl) ms.1 (m_reduce (by omega) ms (((((vset V o 31 0))))) (((sNu S (a.toNat)).1) * ((sNu S (b.toNat)).1)) (((sNu S (a.toNat)).2) * ((sNu S (b.toNat)).2)) (by omega) (by omega) (by omega)) ?_
    rintro _ _ ⟨rfl, rfl⟩
    refine g_istore (l1 := [(13, aI (if smallF (lowF (((sNu S (a.toNat)).1) * ((sNu S (b.toNat)).1)) (((sNu S (a.toNat)).2) * ((sNu S (b.toNat)).2))) = true then 1 else 0)), (12, aI 1), (10, aJ ((sNu S (b.toNat)).2)), (8, aJ ((sNu S (b.toNat)).1)), (6, aJ ((sNu S (a.toNat)).2)), (4, aJ ((sNu S (a.toNat)).1)), (0, aO (some o)), (1, aI 2), (2, aI a), (3, aI b)]) rfl rfl ?_
    refine g_goto rfl ?_
    refine g_aload_n rfl rfl ?_
    refine g_iload rfl rfl ?_
    refine g_callVI [aI (if smallF (lowF (((sNu S (a.toNat)).1) * ((sNu S (b.toNat)).1)) (((sNu S (a.toNat)).2) * ((sNu S (b.toNat)).2))) = true then 1 else 0)] [] rfl rfl rfl rfl (Nat.le_of_ble_eq_true rfl) ms.1 (m_keepN (by omega) ms ((vset (vset (((((vset V o 31 0))))) o 5 (lowF (((sNu S (a.toNat)).1) * ((sNu S (b.toNat)).1)) (((sNu S (a.toNat)).2) * ((sNu S (b.toNat)).2))).1) o 6 (lowF (((sNu S (a.toNat)).1) * ((sNu S (b.toNat)).1)) (((sNu S (a.toNat)).2) * ((sNu S (b.toNat)).2))).2)) ((mn2.own (i := 5) (by decide) _).own (i := 6) (by decide) _) ok (lowF ((sNu S a.toNat).1 * (sNu S b.toNat).1) ((sNu S a.toNat).2 * (sNu S b.toNat).2)) (by rw [vset_ne _ _ _ _ (by omega), vset_eq]) (vset_eq ..) _ rfl) ?_
    rintro _ _ ⟨W7, rfl, hx, hf, rfl⟩
    refine g_iret rfl ?_
    have eb : badF ((sNu S a.toNat).1 * (sNu S b.toNat).1) ((sNu S a.toNat).2 * (sNu S b.toNat).2) ≠ true := by
      rw [Ne, badF_iff]
      omega
    have eS : spR S 2 (sNu S a.toNat) (sNu S b.toNat) = keepN S (lowF ((sNu S a.toNat).1 * (sNu S b.toNat).1) ((sNu S a.toNat).2 * (sNu S b.toNat).2)) := by
      show (spF S ((sNu S a.toNat).1 * (sNu S b.toNat).1) ((sNu S a.toNat).2 * (sNu S b.toNat).2)) = _
      skip
      unfold spF
      rw [if_neg eb]
    rw [eS]
    have f0 := (FM.own V o (i := 31) (by omega) 0).trans ((FM.own (vset V o 31 0) o (i := 5) (by omega) (lowF ((sNu S a.toNat).1 * (sNu S b.toNat).1) ((sNu S a.toNat).2 * (sNu S b.toNat).2)).1).trans (FM.own _ o (i := 6) (by omega) (lowF ((sNu S a.toNat).1 * (sNu S b.toNat).1) ((sNu S a.toNat).2 * (sNu S b.toNat).2)).2))
    exact ⟨_, rfl, hx, f0.trans hf, rfl⟩
set_option maxRecDepth 100000 in
theorem m_apply3 {w : aW} {d : Nat} (hd : 3 ≤ d) {h : aH} {o : Nat} (ms : MS h o) (V : Nat → Nat → Int) {S : aS} (mn : MN V o S) (ok : OkN S) (a b : Int) (ha : 0 ≤ a ∧ a < sN S) (hb : 0 ≤ b ∧ b < sN S) : WP w d 275 [aO (some o), aI 3, aI a, aI b] (hw h V) (RI (fun r h1 => ∃ V1, h1 = hw h V1 ∧ MN V1 o (spR S 3 (sNu S a.toNat) (sNu S b.toNat)).2 ∧ FM V V1 o ∧ r = (spR S 3 (sNu S a.toNat) (sNu S b.toNat)).1)) := by
  obtain ⟨d, rfl⟩ : ∃ d1, d = d1 + 1 := ⟨d - 1, by omega⟩
  refine WP.enter (cd := cd_X12_apply) rfl ?_
  have mn2 := mn.own (i := 31) (by decide) 0
  have hn2 := ok.1
  have hp := ok.at ha
  have hq := ok.at hb
  have m0 := mulB (x := (sNu S a.toNat).1) (y := (sNu S b.toNat).2) (by omega) (by omega) (by omega) (by omega)
  have m1 := mulB (x := (sNu S b.toNat).1) (y := (sNu S a.toNat).2) (by omega) (by omega) (by omega) (by omega)
  have m2 := mulB (x := (sNu S a.toNat).2) (y := (sNu S b.toNat).2) (by omega) (by omega) (by omega) (by omega)
  have m3 := mulB (x := (sNu S a.toNat).1) (y := (sNu S b.toNat).1) (by omega) (by omega) (by omega) (by omega)
  have m4 := mulB (x := (sNu S a.toNat).2) (y := (sNu S b.toNat).1) (by omega) (by omega) (by omega) (by omega)
  have pm := Int.mul_pos hp.1 hq.1
  have hqn : (sNu S b.toNat).1 ≠ 0 → (sNu S a.toNat).2 * (sNu S b.toNat).1 ≠ 0 := fun u => Int.mul_ne_zero (by omega) u
  have hls : largs 0 [aO (some o), aI 3, aI a, aI b] = [(0, aO (some o)), (1, aI 3), (2, aI a), (3, aI b)] := rfl
  rw [hls]
  clear hls
  refine g_aload_n rfl rfl ?_
  refine g_iconst rfl ?_
  refine g_putI rfl ms.1 ?_
  refine g_iload_n rfl rfl ?_
  refine g_i2l rfl ?_
  refine g_lconst0 rfl ?_
  refine g_ldc2 rfl ?_
  refine g_callSI [aJ 3, aJ 0, aJ 9] [] rfl rfl rfl rfl (Nat.le_of_ble_eq_true rfl) (c_in (by omega) 3 0 9 _) ?_
  rintro _ _ ⟨rfl, rfl⟩
  refine g_if_eq_f rfl (by decide) ?_
  refine g_aload_n rfl rfl ?_
  refine g_iload_n rfl rfl ?_
  refine g_callVI [aI a] [] rfl rfl rfl rfl (Nat.le_of_ble_eq_true rfl) ms.1 (m_isN (by omega) ms (((vset V o 31 0))) mn2 ok a) ?_
  rintro _ _ ⟨rfl, rfl⟩
  refine g_if_eq_f rfl (by rw [if_pos ha]; decide) ?_
  refine g_aload_n rfl rfl ?_
  refine g_iload_n rfl rfl ?_
  refine g_callVI [aI b] [] rfl rfl rfl rfl (Nat.le_of_ble_eq_true rfl) ms.1 (m_isN (by omega) ms ((((vset V o 31 0)))) mn2 ok b) ?_
  rintro _ _ ⟨rfl, rfl⟩
  refine g_if_ne_t rfl (by rw [if_pos hb]; decide) ?_
  refine g_aload_n rfl rfl ?_
  refine g_getR rfl ms.1 (mr_upper ms) ?_
  refine g_iload_n rfl rfl ?_
  refine g_lald (i := a.toNat) rfl (mt_upper ms) (by omega) (by omega) ?_
  refine g_top (v2 := aJ ((sNu S (a.toNat)).1)) (congrArg aJ (by exact (mn2.2 _ (by omega)).1)) ?_
  refine g_lstore (l1 := [(4, aJ ((sNu S (a.toNat)).1)), (0, aO (some o)), (1, aI 3), (2, aI a), (3, aI b)]) rfl rfl ?_
  refine g_aload_n rfl rfl ?_
  refine g_getR rfl ms.1 (mr_lower ms) ?_
  refine g_iload_n rfl rfl ?_
  refine g_lald (i := a.toNat) rfl (mt_lower ms) (by omega) (by omega) ?_
  refine g_top (v2 := aJ ((sNu S (a.toNat)).2)) (congrArg aJ (by exact (mn2.2 _ (by omega)).2)) ?_
  refine g_lstore (l1 := [(6, aJ ((sNu S (a.toNat)).2)), (4, aJ ((sNu S (a.toNat)).1)), (0, aO (some o)), (1, aI 3), (2, aI a), (3, aI b)]) rfl rfl ?_
  refine g_aload_n rfl rfl ?_
  refine g_getR rfl ms.1 (mr_upper ms) ?_
  refine g_iload_n rfl rfl ?_
  refine g_lald (i := b.toNat) rfl (mt_upper ms) (by omega) (by omega) ?_
  refine g_top (v2 := aJ ((sNu S (b.toNat)).1)) (congrArg aJ (by exact (mn2.2 _ (by omega)).1)) ?_
  refine g_lstore (l1 := [(8, aJ ((sNu S (b.toNat)).1)), (6, aJ ((sNu S (a.toNat)).2)), (4, aJ ((sNu S (a.toNat)).1)), (0, aO (some o)), (1, aI 3), (2, aI a), (3, aI b)]) rfl rfl ?_
  refine g_aload_n rfl rfl ?_
  refine g_getR rfl ms.1 (mr_lower ms) ?_
  refine g_iload_n rfl rfl ?_
  refine g_lald (i := b.toNat) rfl (mt_lower ms) (by omega) (by omega) ?_
  refine g_top (v2 := aJ ((sNu S (b.toNat)).2)) (congrArg aJ (by exact (mn2.2 _ (by omega)).2)) ?_
  refine g_lstore (l1 := [(10, aJ ((sNu S (b.toNat)).2)), (8, aJ ((sNu S (b.toNat)).1)), (6, aJ ((sNu S (a.toNat)).2)), (4, aJ ((sNu S (a.toNat)).1)), (0, aO (some o)), (1, aI 3), (2, aI a), (3, aI b)]) rfl rfl ?_
  refine g_lload rfl rfl ?_
  refine g_lload rfl rfl ?_
  refine g_lmul rfl (by omega) (by omega) ?_
  refine g_lload rfl rfl ?_
  refine g_lload rfl rfl ?_
  refine g_lmul rfl (by omega) (by omega) ?_
  refine g_lc_ge rfl rfl (fun c77 => ?_) (fun c77 => ?_)
  · skip
    refine g_iconst rfl ?_
    refine g_istore (l1 := [(12, aI 0), (10, aJ ((sNu S (b.toNat)).2)), (8, aJ ((sNu S (b.toNat)).1)), (6, aJ ((sNu S (a.toNat)).2)), (4, aJ ((sNu S (a.toNat)).1)), (0, aO (some o)), (1, aI 3), (2, aI a), (3, aI b)]) rfl rfl ?_
    refine g_iconst rfl ?_
    refine g_istore (l1 := [(13, aI 1), (12, aI 0), (10, aJ ((sNu S (b.toNat)).2)), (8, aJ ((sNu S (b.toNat)).1)), (6, aJ ((sNu S (a.toNat)).2)), (4, aJ ((sNu S (a.toNat)).1)), (0, aO (some o)), (1, aI 3), (2, aI a), (3, aI b)]) rfl rfl ?_
    refine g_iload_n rfl rfl ?_
    refine g_tsw (t := 213) rfl (by rfl) ?_
    refine g_lload rfl rfl ?_
    refine g_lconst0 rfl ?_
    refine g_lc_ne rfl rfl (fun c216 => ?_) (fun c216 => ?_)
    · skip
      refine g_aload_n rfl rfl ?_
      refine g_lload rfl rfl ?_
      refine g_lload rfl rfl ?_
      refine g_lmul rfl (by omega) (by omega) ?_
      refine g_lload rfl rfl ?_
      refine g_lload rfl rfl ?_
      refine g_lmul rfl (by omega) (by omega) ?_
      refine g_callVI [aJ (((sNu S (a.toNat)).1) * ((sNu S (b.toNat)).2)), aJ (((sNu S (a.toNat)).2) * ((sNu S (b.toNat)).1))] [] rfl rfl rfl rfl (Nat.le_of_ble_eq_true rfl) ms.1 (m_reduce (by omega) ms (((((vset V o 31 0))))) (((sNu S (a.toNat)).1) * ((sNu S (b.toNat)).2)) (((sNu S (a.toNat)).2) * ((sNu S (b.toNat)).1)) (by omega) (by omega) (by omega)) ?_
      rintro _ _ ⟨rfl, rfl⟩
      refine g_istore (l1 := [(13, aI (if smallF (lowF (((sNu S (a.toNat)).1) * ((sNu S (b.toNat)).2)) (((sNu S (a.toNat)).2) * ((sNu S (b.toNat)).1))) = true then 1 else 0)), (12, aI 0), (10, aJ ((sNu S (b.toNat)).2)), (8, aJ ((sNu S (b.toNat)).1)), (6, aJ ((sNu S (a.toNat)).2)), (4, aJ ((sNu S (a.toNat)).1)), (0, aO (some o)), (1, aI 3), (2, aI a), (3, aI b)]) rfl rfl ?_
      refine g_goto rfl ?_
      refine g_aload_n rfl rfl ?_
      refine g_iload rfl rfl ?_
      refine g_callVI [aI (if smallF (lowF (((sNu S (a.toNat)).1) * ((sNu S (b.toNat)).2)) (((sNu S (a.toNat)).2) * ((sNu S (b.toNat)).1))) = true then 1 else 0)] [] rfl rfl rfl rfl (Nat.le_of_ble_eq_true rfl) ms.1 (m_keepN (by omega) ms ((vset (vset (((((vset V o 31 0))))) o 5 (lowF (((sNu S (a.toNat)).1) * ((sNu S (b.toNat)).2)) (((sNu S (a.toNat)).2) * ((sNu S (b.toNat)).1))).1) o 6 (lowF (((sNu S (a.toNat)).1) * ((sNu S (b.toNat)).2)) (((sNu S (a.toNat)).2) * ((sNu S (b.toNat)).1))).2)) ((mn2.own (i := 5) (by decide) _).own (i := 6) (by decide) _) ok (lowF ((sNu S a.toNat).1 * (sNu S b.toNat).2) ((sNu S a.toNat).2 * (sNu S b.toNat).1)) (by rw [vset_ne _ _ _ _ (by omega), vset_eq]) (vset_eq ..) _ rfl) ?_
      rintro _ _ ⟨W5, rfl, hx, hf, rfl⟩
      refine g_iret rfl ?_
      have eb : badF ((sNu S a.toNat).1 * (sNu S b.toNat).2) ((sNu S a.toNat).2 * (sNu S b.toNat).1) ≠ true := by
        rw [Ne, badF_iff]
        omega
      have eS : spR S 3 (sNu S a.toNat) (sNu S b.toNat) = keepN S (lowF ((sNu S a.toNat).1 * (sNu S b.toNat).2) ((sNu S a.toNat).2 * (sNu S b.toNat).1)) := by
        show (if (sNu S b.toNat).1 = 0 then (-3, S) else spF S ((sNu S a.toNat).1 * (sNu S b.toNat).2) ((sNu S a.toNat).2 * (sNu S b.toNat).1)) = _
        rw [if_neg (by omega)]
        unfold spF
        rw [if_neg eb]
      rw [eS]
      have f0 := (FM.own V o (i := 31) (by omega) 0).trans ((FM.own (vset V o 31 0) o (i := 5) (by omega) (lowF ((sNu S a.toNat).1 * (sNu S b.toNat).2) ((sNu S a.toNat).2 * (sNu S b.toNat).1)).1).trans (FM.own _ o (i := 6) (by omega) (lowF ((sNu S a.toNat).1 * (sNu S b.toNat).2) ((sNu S a.toNat).2 * (sNu S b.toNat).1)).2))
      exact ⟨_, rfl, hx, f0.trans hf, rfl⟩
    · skip
      refine g_bipush rfl ?_
      refine g_iret rfl ?_
      have eS : spR S 3 (sNu S a.toNat) (sNu S b.toNat) = (-3, S) := by
        show (if (sNu S b.toNat).1 = 0 then (-3, S) else _) = _
        rw [if_pos (by omega)]
      rw [eS]
      exact ⟨_, rfl, mn2, FM.own V o (i := 31) (by omega) 0, rfl⟩
  · skip
    refine g_iconst rfl ?_
    refine g_goto rfl ?_
    refine g_istore (l1 := [(12, aI 1), (10, aJ ((sNu S (b.toNat)).2)), (8, aJ ((sNu S (b.toNat)).1)), (6, aJ ((sNu S (a.toNat)).2)), (4, aJ ((sNu S (a.toNat)).1)), (0, aO (some o)), (1, aI 3), (2, aI a), (3, aI b)]) rfl rfl ?_
    refine g_iconst rfl ?_
    refine g_istore (l1 := [(13, aI 1), (12, aI 1), (10, aJ ((sNu S (b.toNat)).2)), (8, aJ ((sNu S (b.toNat)).1)), (6, aJ ((sNu S (a.toNat)).2)), (4, aJ ((sNu S (a.toNat)).1)), (0, aO (some o)), (1, aI 3), (2, aI a), (3, aI b)]) rfl rfl ?_
    refine g_iload_n rfl rfl ?_
    refine g_tsw (t := 213) rfl (by rfl) ?_
    refine g_lload rfl rfl ?_
    refine g_lconst0 rfl ?_
    refine g_lc_ne rfl rfl (fun c216 => ?_) (fun c216 => ?_)
    · skip
      refine g_aload_n rfl rfl ?_
      refine g_lload rfl rfl ?_
      refine g_lload rfl rfl ?_
      refine g_lmul rfl (by omega) (by omega) ?_
      refine g_lload rfl rfl ?_
      refine g_lload rfl rfl ?_
      refine g_lmul rfl (by omega) (by omega) ?_
      refine g_callVI [aJ (((sNu S (a.toNat)).1) * ((sNu S (b.toNat)).2)), aJ (((sNu S (a.toNat)).2) * ((sNu S (b.toNat)).1))] [] rfl rfl rfl rfl (Nat.le_of_ble_eq_true rfl) ms.1 (m_reduce (by omega) ms (((((vset V o 31 0))))) (((sNu S (a.toNat)).1) * ((sNu S (b.toNat)).2)) (((sNu S (a.toNat)).2) * ((sNu S (b.toNat)).1)) (by omega) (by omega) (by omega)) ?_
      rintro _ _ ⟨rfl, rfl⟩
      refine g_istore (l1 := [(13, aI (if smallF (lowF (((sNu S (a.toNat)).1) * ((sNu S (b.toNat)).2)) (((sNu S (a.toNat)).2) * ((sNu S (b.toNat)).1))) = true then 1 else 0)), (12, aI 1), (10, aJ ((sNu S (b.toNat)).2)), (8, aJ ((sNu S (b.toNat)).1)), (6, aJ ((sNu S (a.toNat)).2)), (4, aJ ((sNu S (a.toNat)).1)), (0, aO (some o)), (1, aI 3), (2, aI a), (3, aI b)]) rfl rfl ?_
      refine g_goto rfl ?_
      refine g_aload_n rfl rfl ?_
      refine g_iload rfl rfl ?_
      refine g_callVI [aI (if smallF (lowF (((sNu S (a.toNat)).1) * ((sNu S (b.toNat)).2)) (((sNu S (a.toNat)).2) * ((sNu S (b.toNat)).1))) = true then 1 else 0)] [] rfl rfl rfl rfl (Nat.le_of_ble_eq_true rfl) ms.1 (m_keepN (by omega) ms ((vset (vset (((((vset V o 31 0))))) o 5 (lowF (((sNu S (a.toNat)).1) * ((sNu S (b.toNat)).2)) (((sNu S (a.toNat)).2) * ((sNu S (b.toNat)).1))).1) o 6 (lowF (((sNu S (a.toNat)).1) * ((sNu S (b.toNat)).2)) (((sNu S (a.toNat)).2) * ((sNu S (b.toNat)).1))).2)) ((mn2.own (i := 5) (by decide) _).own (i := 6) (by decide) _) ok (lowF ((sNu S a.toNat).1 * (sNu S b.toNat).2) ((sNu S a.toNat).2 * (sNu S b.toNat).1)) (by rw [vset_ne _ _ _ _ (by omega), vset_eq]) (vset_eq ..) _ rfl) ?_
      rintro _ _ ⟨W7, rfl, hx, hf, rfl⟩
      refine g_iret rfl ?_
      have eb : badF ((sNu S a.toNat).1 * (sNu S b.toNat).2) ((sNu S a.toNat).2 * (sNu S b.toNat).1) ≠ true := by
        rw [Ne, badF_iff]
        omega
      have eS : spR S 3 (sNu S a.toNat) (sNu S b.toNat) = keepN S (lowF ((sNu S a.toNat).1 * (sNu S b.toNat).2) ((sNu S a.toNat).2 * (sNu S b.toNat).1)) := by
        show (if (sNu S b.toNat).1 = 0 then (-3, S) else spF S ((sNu S a.toNat).1 * (sNu S b.toNat).2) ((sNu S a.toNat).2 * (sNu S b.toNat).1)) = _
        rw [if_neg (by omega)]
        unfold spF
        rw [if_neg eb]
      rw [eS]
      have f0 := (FM.own V o (i := 31) (by omega) 0).trans ((FM.own (vset V o 31 0) o (i := 5) (by omega) (lowF ((sNu S a.toNat).1 * (sNu S b.toNat).2) ((sNu S a.toNat).2 * (sNu S b.toNat).1)).1).trans (FM.own _ o (i := 6) (by omega) (lowF ((sNu S a.toNat).1 * (sNu S b.toNat).2) ((sNu S a.toNat).2 * (sNu S b.toNat).1)).2))
      exact ⟨_, rfl, hx, f0.trans hf, rfl⟩
    · skip
      refine g_bipush rfl ?_
      refine g_iret rfl ?_
      have eS : spR S 3 (sNu S a.toNat) (sNu S b.toNat) = (-3, S) := by
        show (if (sNu S b.toNat).1 = 0 then (-3, S) else _) = _
        rw [if_pos (by omega)]
      rw [eS]
      exact ⟨_, rfl, mn2, FM.own V o (i := 31) (by omega) 0, rfl⟩
