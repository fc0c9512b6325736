/-! the reference's apply, on: printed by wip/whole/s90.py -/
theorem FM.own3 {V W : Nat → Nat → Int} {o : Nat} {x y : Int} (hf : FM (vset (vset (vset V o 31 0) o 5 x) o 6 y) W o) : FM V W o := ((FM.own V o (i := 31) (by omega) 0).trans ((FM.own (vset V o 31 0) o (i := 5) (by omega) x).trans (FM.own (vset (vset V o 31 0) o 5 x) o (i := 6) (by omega) y))).trans hf
theorem ordL {p q : Int × Int} (h : p.1 * q.2 < q.1 * p.2) : ordF p q = -1 := by
  unfold ordF
  rw [if_pos h]
theorem ordN {p q : Int × Int} (h : ¬ p.1 * q.2 < q.1 * p.2) : 0 ≤ ordF p q ∧ (ordF p q ≤ 0 → p.1 * q.2 = q.1 * p.2) := by
  unfold ordF
  rw [if_neg h]
  by_cases u : p.1 * q.2 = q.1 * p.2
  · rw [if_pos u]
    exact ⟨by decide, fun _ => u⟩
  · rw [if_neg u]
    exact ⟨by decide, fun v => absurd v (by decide)⟩
theorem smpF_ok {p q : Int × Int} (hp : NuOk p) (hq : NuOk q) (h : p.1 * q.2 ≤ q.1 * p.2) : NuOk (smpF p q) := by
  have b1 := hp.b
  have b2 := hq.b
  unfold smpF
  split
  · exact smF_ok (by omega) (by omega) (by omega) (by omega) h
  · split
    · exact (smF_ok (x := -q.1) (y := q.2) (z := -p.1) (t := p.2) (by omega) (by omega) (by omega) (by omega) (by rw [Int.neg_mul, Int.neg_mul]; omega)).neg
    · exact nu01
set_option maxRecDepth 100000 in
theorem m_apply4L {w : aW} {d : Nat} (hd : 3 ≤ d) {h : aH} {o : Nat} (ms : MS h o) (V : Nat → Nat → Int) {S : aS} (mn : MN V o S) (ok : OkN S) (a b : Int) (ha : 0 ≤ a ∧ a < sN S) (hb : 0 ≤ b ∧ b < sN S) (hl : (sNu S a.toNat).1 * (sNu S b.toNat).2 < (sNu S b.toNat).1 * (sNu S a.toNat).2) : WP w d 275 [aO (some o), aI 4, aI a, aI b] (hw h V) (RI (fun r h1 => ∃ V1, h1 = hw h V1 ∧ MN V1 o (spC S 4 (sNu S a.toNat) (sNu S b.toNat)).2 ∧ FM V V1 o ∧ r = (spC S 4 (sNu S a.toNat) (sNu S b.toNat)).1)) := by
  obtain ⟨d, rfl⟩ : ∃ d1, d = d1 + 1 := ⟨d - 1, by omega⟩
  refine WP.enter (cd := cd_X12_apply) rfl ?_
  have mn2 := mn.own (i := 31) (by decide) 0
  have hn2 := ok.1
  have hp := ok.at ha
  have hq := ok.at hb
  have m0 := mulB (x := (sNu S a.toNat).1) (y := (sNu S b.toNat).2) (by omega) (by omega) (by omega) (by omega)
  have m1 := mulB (x := (sNu S b.toNat).1) (y := (sNu S a.toNat).2) (by omega) (by omega) (by omega) (by omega)
  have m2 := mulB (x := (sNu S a.toNat).2) (y := (sNu S b.toNat).2) (by omega) (by omega) (by omega) (by omega)
  have m3 := mulB (x := (sNu S a.toNat).1) (y := (sNu S b.toNat).1) (by omega) (by omega) (by omega) (by omega)
  have m4 := mulB (x := (sNu S a.toNat).2) (y := (sNu S b.toNat).1) (by omega) (by omega) (by omega) (by omega)
  have hls : largs 0 [aO (some o), aI 4, aI a, aI b] = [(0, aO (some o)), (1, aI 4), (2, aI a), (3, aI b)] := rfl
  rw [hls]
  clear hls
  refine g_aload_n rfl rfl ?_
  refine g_iconst rfl ?_
  refine g_putI rfl ms.1 ?_
  refine g_iload_n rfl rfl ?_
  refine g_i2l rfl ?_
  refine g_lconst0 rfl ?_
  refine g_ldc2 rfl ?_
  refine g_callSI [aJ 4, aJ 0, aJ 9] [] rfl rfl rfl rfl (Nat.le_of_ble_eq_true rfl) (c_in (by omega) 4 0 9 _) ?_
  rintro _ _ ⟨rfl, rfl⟩
  refine g_if_eq_f rfl (by decide) ?_
  refine g_aload_n rfl rfl ?_
  refine g_iload_n rfl rfl ?_
  refine g_callVI [aI a] [] rfl rfl rfl rfl (Nat.le_of_ble_eq_true rfl) ms.1 (m_isN (by omega) ms (((vset V o 31 0))) mn2 ok a) ?_
  rintro _ _ ⟨rfl, rfl⟩
  refine g_if_eq_f rfl (by rw [if_pos ha]; decide) ?_
  refine g_aload_n rfl rfl ?_
  refine g_iload_n rfl rfl ?_
  refine g_callVI [aI b] [] rfl rfl rfl rfl (Nat.le_of_ble_eq_true rfl) ms.1 (m_isN (by omega) ms ((((vset V o 31 0)))) mn2 ok b) ?_
  rintro _ _ ⟨rfl, rfl⟩
  refine g_if_ne_t rfl (by rw [if_pos hb]; decide) ?_
  refine g_aload_n rfl rfl ?_
  refine g_getR rfl ms.1 (mr_upper ms) ?_
  refine g_iload_n rfl rfl ?_
  refine g_lald (i := a.toNat) rfl (mt_upper ms) (by omega) (by omega) ?_
  refine g_top (v2 := aJ ((sNu S (a.toNat)).1)) (congrArg aJ (by exact (mn2.2 _ (by omega)).1)) ?_
  refine g_lstore (l1 := [(4, aJ ((sNu S (a.toNat)).1)), (0, aO (some o)), (1, aI 4), (2, aI a), (3, aI b)]) rfl rfl ?_
  refine g_aload_n rfl rfl ?_
  refine g_getR rfl ms.1 (mr_lower ms) ?_
  refine g_iload_n rfl rfl ?_
  refine g_lald (i := a.toNat) rfl (mt_lower ms) (by omega) (by omega) ?_
  refine g_top (v2 := aJ ((sNu S (a.toNat)).2)) (congrArg aJ (by exact (mn2.2 _ (by omega)).2)) ?_
  refine g_lstore (l1 := [(6, aJ ((sNu S (a.toNat)).2)), (4, aJ ((sNu S (a.toNat)).1)), (0, aO (some o)), (1, aI 4), (2, aI a), (3, aI b)]) rfl rfl ?_
  refine g_aload_n rfl rfl ?_
  refine g_getR rfl ms.1 (mr_upper ms) ?_
  refine g_iload_n rfl rfl ?_
  refine g_lald (i := b.toNat) rfl (mt_upper ms) (by omega) (by omega) ?_
  refine g_top (v2 := aJ ((sNu S (b.toNat)).1)) (congrArg aJ (by exact (mn2.2 _ (by omega)).1)) ?_
  refine g_lstore (l1 := [(8, aJ ((sNu S (b.toNat)).1)), (6, aJ ((sNu S (a.toNat)).2)), (4, aJ ((sNu S (a.toNat)).1)), (0, aO (some o)), (1, aI 4), (2, aI a), (3, aI b)]) rfl rfl ?_
  refine g_aload_n rfl rfl ?_
  refine g_getR rfl ms.1 (mr_lower ms) ?_
  refine g_iload_n rfl rfl ?_
  refine g_lald (i := b.toNat) rfl (mt_lower ms) (by omega) (by omega) ?_
  refine g_top (v2 := aJ ((sNu S (b.toNat)).2)) (congrArg aJ (by exact (mn2.2 _ (by omega)).2)) ?_
  refine g_lstore (l1 := [(10, aJ ((sNu S (b.toNat)).2)), (8, aJ ((sNu S (b.toNat)).1)), (6, aJ ((sNu S (a.toNat)).2)), (4, aJ ((sNu S (a.toNat)).1)), (0, aO (some o)), (1, aI 4), (2, aI a), (3, aI b)]) rfl rfl ?_
  refine g_lload rfl rfl ?_
  refine g_lload rfl rfl ?_
  refine g_lmul rfl (by omega) (by omega) ?_
  refine g_lload rfl rfl ?_
  refine g_lload rfl rfl ?_
  refine g_lmul rfl (by omega) (by omega) ?_
  refine g_lc_ge_f rfl rfl (by omega) ?_
  refine g_iconst rfl ?_
  refine g_goto rfl ?_
  refine g_istore (l1 := [(12, aI 1), (10, aJ ((sNu S (b.toNat)).2)), (8, aJ ((sNu S (b.toNat)).1)), (6, aJ ((sNu S (a.toNat)).2)), (4, aJ ((sNu S (a.toNat)).1)), (0, aO (some o)), (1, aI 4), (2, aI a), (3, aI b)]) rfl rfl ?_
  refine g_iconst rfl ?_
  refine g_istore (l1 := [(13, aI 1), (12, aI 1), (10, aJ ((sNu S (b.toNat)).2)), (8, aJ ((sNu S (b.toNat)).1)), (6, aJ ((sNu S (a.toNat)).2)), (4, aJ ((sNu S (a.toNat)).1)), (0, aO (some o)), (1, aI 4), (2, aI a), (3, aI b)]) rfl rfl ?_
  refine g_iload_n rfl rfl ?_
  refine g_tsw (t := 242) rfl (by rfl) ?_
  refine g_aload_n rfl rfl ?_
  refine g_iload rfl rfl ?_
  refine g_iload_n rfl rfl ?_
  refine g_iconst rfl ?_
  refine g_icmp_ne_f rfl (by omega) ?_
  refine g_iconst rfl ?_
  refine g_goto rfl ?_
  refine g_icmp_ne_f rfl (by omega) ?_
  refine g_lload rfl rfl ?_
  refine g_goto rfl ?_
  refine g_putJ rfl ms.1 ?_
  refine g_aload_n rfl rfl ?_
  refine g_iload rfl rfl ?_
  refine g_iload_n rfl rfl ?_
  refine g_iconst rfl ?_
  refine g_icmp_ne_f rfl (by omega) ?_
  refine g_iconst rfl ?_
  refine g_goto rfl ?_
  refine g_icmp_ne_f rfl (by omega) ?_
  refine g_lload rfl rfl ?_
  refine g_goto rfl ?_
  refine g_putJ rfl ms.1 ?_
  refine g_goto rfl ?_
  refine g_aload_n rfl rfl ?_
  refine g_iload rfl rfl ?_
  refine g_callVI [aI 1] [] rfl rfl rfl rfl (Nat.le_of_ble_eq_true rfl) ms.1 (m_keepN (by omega) ms ((vset (vset ((((vset V o 31 0)))) o 5 ((sNu S (a.toNat)).1)) o 6 ((sNu S (a.toNat)).2))) ((mn2.own (i := 5) (by decide) _).own (i := 6) (by decide) _) ok (sNu S a.toNat) (by first | (rw [vset_ne _ _ _ _ (by omega), vset_eq]; done) | (rw [vset_ne _ _ _ _ (by omega), vset_eq]; show _ = _; omega)) (by rw [vset_eq]) _ (by rw [if_pos (NuOk.small (ok.2 a.toNat (by omega)))])) ?_
  rintro _ _ ⟨W4, rfl, hx, hf, rfl⟩
  refine g_iret rfl ?_
  have eS : spC S 4 (sNu S a.toNat) (sNu S b.toNat) = keepN S (sNu S a.toNat) := by
    show keepN S (if ordF (sNu S a.toNat) (sNu S b.toNat) ≤ 0 then _ else _) = _
    rw [if_pos (by rw [ordL hl]; decide)]
  rw [eS]
  exact ⟨_, rfl, hx, FM.own3 hf, rfl⟩
set_option maxRecDepth 100000 in
theorem m_apply4N {w : aW} {d : Nat} (hd : 3 ≤ d) {h : aH} {o : Nat} (ms : MS h o) (V : Nat → Nat → Int) {S : aS} (mn : MN V o S) (ok : OkN S) (a b : Int) (ha : 0 ≤ a ∧ a < sN S) (hb : 0 ≤ b ∧ b < sN S) (hl : ¬ (sNu S a.toNat).1 * (sNu S b.toNat).2 < (sNu S b.toNat).1 * (sNu S a.toNat).2) : WP w d 275 [aO (some o), aI 4, aI a, aI b] (hw h V) (RI (fun r h1 => ∃ V1, h1 = hw h V1 ∧ MN V1 o (spC S 4 (sNu S a.toNat) (sNu S b.toNat)).2 ∧ FM V V1 o ∧ r = (spC S 4 (sNu S a.toNat) (sNu S b.toNat)).1)) := by
  obtain ⟨d, rfl⟩ : ∃ d1, d = d1 + 1 := ⟨d - 1, by omega⟩
  refine WP.enter (cd := cd_X12_apply) rfl ?_
  have mn2 := mn.own (i := 31) (by decide) 0
  have hn2 := ok.1
  have hp := ok.at ha
  have hq := ok.at hb
  have m0 := mulB (x := (sNu S a.toNat).1) (y := (sNu S b.toNat).2) (by omega) (by omega) (by omega) (by omega)
  have m1 := mulB (x := (sNu S b.toNat).1) (y := (sNu S a.toNat).2) (by omega) (by omega) (by omega) (by omega)
  have m2 := mulB (x := (sNu S a.toNat).2) (y := (sNu S b.toNat).2) (by omega) (by omega) (by omega) (by omega)
  have m3 := mulB (x := (sNu S a.toNat).1) (y := (sNu S b.toNat).1) (by omega) (by omega) (by omega) (by omega)
  have m4 := mulB (x := (sNu S a.toNat).2) (y := (sNu S b.toNat).1) (by omega) (by omega) (by omega) (by omega)
  have hls : largs 0 [aO (some o), aI 4, aI a, aI b] = [(0, aO (some o)), (1, aI 4), (2, aI a), (3, aI b)] := rfl
  rw [hls]
  clear hls
  refine g_aload_n rfl rfl ?_
  refine g_iconst rfl ?_
  refine g_putI rfl ms.1 ?_
  refine g_iload_n rfl rfl ?_
  refine g_i2l rfl ?_
  refine g_lconst0 rfl ?_
  refine g_ldc2 rfl ?_
  refine g_callSI [aJ 4, aJ 0, aJ 9] [] rfl rfl rfl rfl (Nat.le_of_ble_eq_true rfl) (c_in (by omega) 4 0 9 _) ?_
  rintro _ _ ⟨rfl, rfl⟩
  refine g_if_eq_f rfl (by decide) ?_
  refine g_aload_n rfl rfl ?_
  refine g_iload_n rfl rfl ?_
  refine g_callVI [aI a] [] rfl rfl rfl rfl (Nat.le_of_ble_eq_true rfl) ms.1 (m_isN (by omega) ms (((vset V o 31 0))) mn2 ok a) ?_
  rintro _ _ ⟨rfl, rfl⟩
  refine g_if_eq_f rfl (by rw [if_pos ha]; decide) ?_
  refine g_aload_n rfl rfl ?_
  refine g_iload_n rfl rfl ?_
  refine g_callVI [aI b] [] rfl rfl rfl rfl (Nat.le_of_ble_eq_true rfl) ms.1 (m_isN (by omega) ms ((((vset V o 31 0)))) mn2 ok b) ?_
  rintro _ _ ⟨rfl, rfl⟩
  refine g_if_ne_t rfl (by rw [if_pos hb]; decide) ?_
  refine g_aload_n rfl rfl ?_
  refine g_getR rfl ms.1 (mr_upper ms) ?_
  refine g_iload_n rfl rfl ?_
  refine g_lald (i := a.toNat) rfl (mt_upper ms) (by omega) (by omega) ?_
  refine g_top (v2 := aJ ((sNu S (a.toNat)).1)) (congrArg aJ (by exact (mn2.2 _ (by omega)).1)) ?_
  refine g_lstore (l1 := [(4, aJ ((sNu S (a.toNat)).1)), (0, aO (some o)), (1, aI 4), (2, aI a), (3, aI b)]) rfl rfl ?_
  refine g_aload_n rfl rfl ?_
  refine g_getR rfl ms.1 (mr_lower ms) ?_
  refine g_iload_n rfl rfl ?_
  refine g_lald (i := a.toNat) rfl (mt_lower ms) (by omega) (by omega) ?_
  refine g_top (v2 := aJ ((sNu S (a.toNat)).2)) (congrArg aJ (by exact (mn2.2 _ (by omega)).2)) ?_
  refine g_lstore (l1 := [(6, aJ ((sNu S (a.toNat)).2)), (4, aJ ((sNu S (a.toNat)).1)), (0, aO (some o)), (1, aI 4), (2, aI a), (3, aI b)]) rfl rfl ?_
  refine g_aload_n rfl rfl ?_
  refine g_getR rfl ms.1 (mr_upper ms) ?_
  refine g_iload_n rfl rfl ?_
  refine g_lald (i := b.toNat) rfl (mt_upper ms) (by omega) (by omega) ?_
  refine g_top (v2 := aJ ((sNu S (b.toNat)).1)) (congrArg aJ (by exact (mn2.2 _ (by omega)).1)) ?_
  refine g_lstore (l1 := [(8, aJ ((sNu S (b.toNat)).1)), (6, aJ ((sNu S (a.toNat)).2)), (4, aJ ((sNu S (a.toNat)).1)), (0, aO (some o)), (1, aI 4), (2, aI a), (3, aI b)]) rfl rfl ?_
  refine g_aload_n rfl rfl ?_
  refine g_getR rfl ms.1 (mr_lower ms) ?_
  refine g_iload_n rfl rfl ?_
  refine g_lald (i := b.toNat) rfl (mt_lower ms) (by omega) (by omega) ?_
  refine g_top (v2 := aJ ((sNu S (b.toNat)).2)) (congrArg aJ (by exact (mn2.2 _ (by omega)).2)) ?_
  refine g_lstore (l1 := [(10, aJ ((sNu S (b.toNat)).2)), (8, aJ ((sNu S (b.toNat)).1)), (6, aJ ((sNu S (a.toNat)).2)), (4, aJ ((sNu S (a.toNat)).1)), (0, aO (some o)), (1, aI 4), (2, aI a), (3, aI b)]) rfl rfl ?_
  refine g_lload rfl rfl ?_
  refine g_lload rfl rfl ?_
  refine g_lmul rfl (by omega) (by omega) ?_
  refine g_lload rfl rfl ?_
  refine g_lload rfl rfl ?_
  refine g_lmul rfl (by omega) (by omega) ?_
  refine g_lc_ge_t rfl rfl (by omega) ?_
  refine g_iconst rfl ?_
  refine g_istore (l1 := [(12, aI 0), (10, aJ ((sNu S (b.toNat)).2)), (8, aJ ((sNu S (b.toNat)).1)), (6, aJ ((sNu S (a.toNat)).2)), (4, aJ ((sNu S (a.toNat)).1)), (0, aO (some o)), (1, aI 4), (2, aI a), (3, aI b)]) rfl rfl ?_
  refine g_iconst rfl ?_
  refine g_istore (l1 := [(13, aI 1), (12, aI 0), (10, aJ ((sNu S (b.toNat)).2)), (8, aJ ((sNu S (b.toNat)).1)), (6, aJ ((sNu S (a.toNat)).2)), (4, aJ ((sNu S (a.toNat)).1)), (0, aO (some o)), (1, aI 4), (2, aI a), (3, aI b)]) rfl rfl ?_
  refine g_iload_n rfl rfl ?_
  refine g_tsw (t := 242) rfl (by rfl) ?_
  refine g_aload_n rfl rfl ?_
  refine g_iload rfl rfl ?_
  refine g_iload_n rfl rfl ?_
  refine g_iconst rfl ?_
  refine g_icmp_ne_f rfl (by omega) ?_
  refine g_iconst rfl ?_
  refine g_goto rfl ?_
  refine g_icmp_ne_t rfl (by omega) ?_
  refine g_lload rfl rfl ?_
  refine g_putJ rfl ms.1 ?_
  refine g_aload_n rfl rfl ?_
  refine g_iload rfl rfl ?_
  refine g_iload_n rfl rfl ?_
  refine g_iconst rfl ?_
  refine g_icmp_ne_f rfl (by omega) ?_
  refine g_iconst rfl ?_
  refine g_goto rfl ?_
  refine g_icmp_ne_t rfl (by omega) ?_
  refine g_lload rfl rfl ?_
  refine g_putJ rfl ms.1 ?_
  refine g_goto rfl ?_
  refine g_aload_n rfl rfl ?_
  refine g_iload rfl rfl ?_
  refine g_callVI [aI 1] [] rfl rfl rfl rfl (Nat.le_of_ble_eq_true rfl) ms.1 (m_keepN (by omega) ms ((vset (vset ((((vset V o 31 0)))) o 5 ((sNu S (b.toNat)).1)) o 6 ((sNu S (b.toNat)).2))) ((mn2.own (i := 5) (by decide) _).own (i := 6) (by decide) _) ok (sNu S b.toNat) (by first | (rw [vset_ne _ _ _ _ (by omega), vset_eq]; done) | (rw [vset_ne _ _ _ _ (by omega), vset_eq]; show _ = _; omega)) (by rw [vset_eq]) _ (by rw [if_pos (NuOk.small (ok.2 b.toNat (by omega)))])) ?_
  rintro _ _ ⟨W4, rfl, hx, hf, rfl⟩
  refine g_iret rfl ?_
  have eS : spC S 4 (sNu S a.toNat) (sNu S b.toNat) = keepN S (sNu S b.toNat) := by
    show keepN S (if ordF (sNu S a.toNat) (sNu S b.toNat) ≤ 0 then _ else _) = _
    by_cases u : ordF (sNu S a.toNat) (sNu S b.toNat) ≤ 0
    · rw [if_pos u, eqN (ok.2 a.toNat (by omega)) (ok.2 b.toNat (by omega)) ((ordN hl).2 u)]
    · rw [if_neg u]
  rw [eS]
  exact ⟨_, rfl, hx, FM.own3 hf, rfl⟩
set_option maxRecDepth 100000 in
theorem m_apply5L {w : aW} {d : Nat} (hd : 3 ≤ d) {h : aH} {o : Nat} (ms : MS h o) (V : Nat → Nat → Int) {S : aS} (mn : MN V o S) (ok : OkN S) (a b : Int) (ha : 0 ≤ a ∧ a < sN S) (hb : 0 ≤ b ∧ b < sN S) (hl : (sNu S a.toNat).1 * (sNu S b.toNat).2 < (sNu S b.toNat).1 * (sNu S a.toNat).2) : WP w d 275 [aO (some o), aI 5, aI a, aI b] (hw h V) (RI (fun r h1 => ∃ V1, h1 = hw h V1 ∧ MN V1 o (spC S 5 (sNu S a.toNat) (sNu S b.toNat)).2 ∧ FM V V1 o ∧ r = (spC S 5 (sNu S a.toNat) (sNu S b.toNat)).1)) := by
  obtain ⟨d, rfl⟩ : ∃ d1, d = d1 + 1 := ⟨d - 1, by omega⟩
  refine WP.enter (cd := cd_X12_apply) rfl ?_
  have mn2 := mn.own (i := 31) (by decide) 0
  have hn2 := ok.1
  have hp := ok.at ha
  have hq := ok.at hb
  have m0 := mulB (x := (sNu S a.toNat).1) (y := (sNu S b.toNat).2) (by omega) (by omega) (by omega) (by omega)
  have m1 := mulB (x := (sNu S b.toNat).1) (y := (sNu S a.toNat).2) (by omega) (by omega) (by omega) (by omega)
  have m2 := mulB (x := (sNu S a.toNat).2) (y := (sNu S b.toNat).2) (by omega) (by omega) (by omega) (by omega)
  have m3 := mulB (x := (sNu S a.toNat).1) (y := (sNu S b.toNat).1) (by omega) (by omega) (by omega) (by omega)
  have m4 := mulB (x := (sNu S a.toNat).2) (y := (sNu S b.toNat).1) (by omega) (by omega) (by omega) (by omega)
  have hls : largs 0 [aO (some o), aI 5, aI a, aI b] = [(0, aO (some o)), (1, aI 5), (2, aI a), (3, aI b)] := rfl
  rw [hls]
  clear hls
  refine g_aload_n rfl rfl ?_
  refine g_iconst rfl ?_
  refine g_putI rfl ms.1 ?_
  refine g_iload_n rfl rfl ?_
  refine g_i2l rfl ?_
  refine g_lconst0 rfl ?_
  refine g_ldc2 rfl ?_
  refine g_callSI [aJ 5, aJ 0, aJ 9] [] rfl rfl rfl rfl (Nat.le_of_ble_eq_true rfl) (c_in (by omega) 5 0 9 _) ?_
  rintro _ _ ⟨rfl, rfl⟩
  refine g_if_eq_f rfl (by decide) ?_
  refine g_aload_n rfl rfl ?_
  refine g_iload_n rfl rfl ?_
  refine g_callVI [aI a] [] rfl rfl rfl rfl (Nat.le_of_ble_eq_true rfl) ms.1 (m_isN (by omega) ms (((vset V o 31 0))) mn2 ok a) ?_
  rintro _ _ ⟨rfl, rfl⟩
  refine g_if_eq_f rfl (by rw [if_pos ha]; decide) ?_
  refine g_aload_n rfl rfl ?_
  refine g_iload_n rfl rfl ?_
  refine g_callVI [aI b] [] rfl rfl rfl rfl (Nat.le_of_ble_eq_true rfl) ms.1 (m_isN (by omega) ms ((((vset V o 31 0)))) mn2 ok b) ?_
  rintro _ _ ⟨rfl, rfl⟩
  refine g_if_ne_t rfl (by rw [if_pos hb]; decide) ?_
  refine g_aload_n rfl rfl ?_
  refine g_getR rfl ms.1 (mr_upper ms) ?_
  refine g_iload_n rfl rfl ?_
  refine g_lald (i := a.toNat) rfl (mt_upper ms) (by omega) (by omega) ?_
  refine g_top (v2 := aJ ((sNu S (a.toNat)).1)) (congrArg aJ (by exact (mn2.2 _ (by omega)).1)) ?_
  refine g_lstore (l1 := [(4, aJ ((sNu S (a.toNat)).1)), (0, aO (some o)), (1, aI 5), (2, aI a), (3, aI b)]) rfl rfl ?_
  refine g_aload_n rfl rfl ?_
  refine g_getR rfl ms.1 (mr_lower ms) ?_
  refine g_iload_n rfl rfl ?_
  refine g_lald (i := a.toNat) rfl (mt_lower ms) (by omega) (by omega) ?_
  refine g_top (v2 := aJ ((sNu S (a.toNat)).2)) (congrArg aJ (by exact (mn2.2 _ (by omega)).2)) ?_
  refine g_lstore (l1 := [(6, aJ ((sNu S (a.toNat)).2)), (4, aJ ((sNu S (a.toNat)).1)), (0, aO (some o)), (1, aI 5), (2, aI a), (3, aI b)]) rfl rfl ?_
  refine g_aload_n rfl rfl ?_
  refine g_getR rfl ms.1 (mr_upper ms) ?_
  refine g_iload_n rfl rfl ?_
  refine g_lald (i := b.toNat) rfl (mt_upper ms) (by omega) (by omega) ?_
  refine g_top (v2 := aJ ((sNu S (b.toNat)).1)) (congrArg aJ (by exact (mn2.2 _ (by omega)).1)) ?_
  refine g_lstore (l1 := [(8, aJ ((sNu S (b.toNat)).1)), (6, aJ ((sNu S (a.toNat)).2)), (4, aJ ((sNu S (a.toNat)).1)), (0, aO (some o)), (1, aI 5), (2, aI a), (3, aI b)]) rfl rfl ?_
  refine g_aload_n rfl rfl ?_
  refine g_getR rfl ms.1 (mr_lower ms) ?_
  refine g_iload_n rfl rfl ?_
  refine g_lald (i := b.toNat) rfl (mt_lower ms) (by omega) (by omega) ?_
  refine g_top (v2 := aJ ((sNu S (b.toNat)).2)) (congrArg aJ (by exact (mn2.2 _ (by omega)).2)) ?_
  refine g_lstore (l1 := [(10, aJ ((sNu S (b.toNat)).2)), (8, aJ ((sNu S (b.toNat)).1)), (6, aJ ((sNu S (a.toNat)).2)), (4, aJ ((sNu S (a.toNat)).1)), (0, aO (some o)), (1, aI 5), (2, aI a), (3, aI b)]) rfl rfl ?_
  refine g_lload rfl rfl ?_
  refine g_lload rfl rfl ?_
  refine g_lmul rfl (by omega) (by omega) ?_
  refine g_lload rfl rfl ?_
  refine g_lload rfl rfl ?_
  refine g_lmul rfl (by omega) (by omega) ?_
  refine g_lc_ge_f rfl rfl (by omega) ?_
  refine g_iconst rfl ?_
  refine g_goto rfl ?_
  refine g_istore (l1 := [(12, aI 1), (10, aJ ((sNu S (b.toNat)).2)), (8, aJ ((sNu S (b.toNat)).1)), (6, aJ ((sNu S (a.toNat)).2)), (4, aJ ((sNu S (a.toNat)).1)), (0, aO (some o)), (1, aI 5), (2, aI a), (3, aI b)]) rfl rfl ?_
  refine g_iconst rfl ?_
  refine g_istore (l1 := [(13, aI 1), (12, aI 1), (10, aJ ((sNu S (b.toNat)).2)), (8, aJ ((sNu S (b.toNat)).1)), (6, aJ ((sNu S (a.toNat)).2)), (4, aJ ((sNu S (a.toNat)).1)), (0, aO (some o)), (1, aI 5), (2, aI a), (3, aI b)]) rfl rfl ?_
  refine g_iload_n rfl rfl ?_
  refine g_tsw (t := 242) rfl (by rfl) ?_
  refine g_aload_n rfl rfl ?_
  refine g_iload rfl rfl ?_
  refine g_iload_n rfl rfl ?_
  refine g_iconst rfl ?_
  refine g_icmp_ne_t rfl (by omega) ?_
  refine g_iconst rfl ?_
  refine g_icmp_ne_t rfl (by omega) ?_
  refine g_lload rfl rfl ?_
  refine g_putJ rfl ms.1 ?_
  refine g_aload_n rfl rfl ?_
  refine g_iload rfl rfl ?_
  refine g_iload_n rfl rfl ?_
  refine g_iconst rfl ?_
  refine g_icmp_ne_t rfl (by omega) ?_
  refine g_iconst rfl ?_
  refine g_icmp_ne_t rfl (by omega) ?_
  refine g_lload rfl rfl ?_
  refine g_putJ rfl ms.1 ?_
  refine g_goto rfl ?_
  refine g_aload_n rfl rfl ?_
  refine g_iload rfl rfl ?_
  refine g_callVI [aI 1] [] rfl rfl rfl rfl (Nat.le_of_ble_eq_true rfl) ms.1 (m_keepN (by omega) ms ((vset (vset ((((vset V o 31 0)))) o 5 ((sNu S (b.toNat)).1)) o 6 ((sNu S (b.toNat)).2))) ((mn2.own (i := 5) (by decide) _).own (i := 6) (by decide) _) ok (sNu S b.toNat) (by first | (rw [vset_ne _ _ _ _ (by omega), vset_eq]; done) | (rw [vset_ne _ _ _ _ (by omega), vset_eq]; show _ = _; omega)) (by rw [vset_eq]) _ (by rw [if_pos (NuOk.small (ok.2 b.toNat (by omega)))])) ?_
  rintro _ _ ⟨W4, rfl, hx, hf, rfl⟩
  refine g_iret rfl ?_
  have eS : spC S 5 (sNu S a.toNat) (sNu S b.toNat) = keepN S (sNu S b.toNat) := by
    show keepN S (if 0 ≤ ordF (sNu S a.toNat) (sNu S b.toNat) then _ else _) = _
    rw [if_neg (by rw [ordL hl]; decide)]
  rw [eS]
  exact ⟨_, rfl, hx, FM.own3 hf, rfl⟩
set_option maxRecDepth 100000 in
theorem m_apply5N {w : aW} {d : Nat} (hd : 3 ≤ d) {h : aH} {o : Nat} (ms : MS h o) (V : Nat → Nat → Int) {S : aS} (mn : MN V o S) (ok : OkN S) (a b : Int) (ha : 0 ≤ a ∧ a < sN S) (hb : 0 ≤ b ∧ b < sN S) (hl : ¬ (sNu S a.toNat).1 * (sNu S b.toNat).2 < (sNu S b.toNat).1 * (sNu S a.toNat).2) : WP w d 275 [aO (some o), aI 5, aI a, aI b] (hw h V) (RI (fun r h1 => ∃ V1, h1 = hw h V1 ∧ MN V1 o (spC S 5 (sNu S a.toNat) (sNu S b.toNat)).2 ∧ FM V V1 o ∧ r = (spC S 5 (sNu S a.toNat) (sNu S b.toNat)).1)) := by
  obtain ⟨d, rfl⟩ : ∃ d1, d = d1 + 1 := ⟨d - 1, by omega⟩
  refine WP.enter (cd := cd_X12_apply) rfl ?_
  have mn2 := mn.own (i := 31) (by decide) 0
  have hn2 := ok.1
  have hp := ok.at ha
  have hq := ok.at hb
  have m0 := mulB (x := (sNu S a.toNat).1) (y := (sNu S b.toNat).2) (by omega) (by omega) (by omega) (by omega)
  have m1 := mulB (x := (sNu S b.toNat).1) (y := (sNu S a.toNat).2) (by omega) (by omega) (by omega) (by omega)
  have m2 := mulB (x := (sNu S a.toNat).2) (y := (sNu S b.toNat).2) (by omega) (by omega) (by omega) (by omega)
  have m3 := mulB (x := (sNu S a.toNat).1) (y := (sNu S b.toNat).1) (by omega) (by omega) (by omega) (by omega)
  have m4 := mulB (x := (sNu S a.toNat).2) (y := (sNu S b.toNat).1) (by omega) (by omega) (by omega) (by omega)
  have hls : largs 0 [aO (some o), aI 5, aI a, aI b] = [(0, aO (some o)), (1, aI 5), (2, aI a), (3, aI b)] := rfl
  rw [hls]
  clear hls
  refine g_aload_n rfl rfl ?_
  refine g_iconst rfl ?_
  refine g_putI rfl ms.1 ?_
  refine g_iload_n rfl rfl ?_
  refine g_i2l rfl ?_
  refine g_lconst0 rfl ?_
  refine g_ldc2 rfl ?_
  refine g_callSI [aJ 5, aJ 0, aJ 9] [] rfl rfl rfl rfl (Nat.le_of_ble_eq_true rfl) (c_in (by omega) 5 0 9 _) ?_
  rintro _ _ ⟨rfl, rfl⟩
  refine g_if_eq_f rfl (by decide) ?_
  refine g_aload_n rfl rfl ?_
  refine g_iload_n rfl rfl ?_
  refine g_callVI [aI a] [] rfl rfl rfl rfl (Nat.le_of_ble_eq_true rfl) ms.1 (m_isN (by omega) ms (((vset V o 31 0))) mn2 ok a) ?_
  rintro _ _ ⟨rfl, rfl⟩
  refine g_if_eq_f rfl (by rw [if_pos ha]; decide) ?_
  refine g_aload_n rfl rfl ?_
  refine g_iload_n rfl rfl ?_
  refine g_callVI [aI b] [] rfl rfl rfl rfl (Nat.le_of_ble_eq_true rfl) ms.1 (m_isN (by omega) ms ((((vset V o 31 0)))) mn2 ok b) ?_
  rintro _ _ ⟨rfl, rfl⟩
  refine g_if_ne_t rfl (by rw [if_pos hb]; decide) ?_
  refine g_aload_n rfl rfl ?_
  refine g_getR rfl ms.1 (mr_upper ms) ?_
  refine g_iload_n rfl rfl ?_
  refine g_lald (i := a.toNat) rfl (mt_upper ms) (by omega) (by omega) ?_
  refine g_top (v2 := aJ ((sNu S (a.toNat)).1)) (congrArg aJ (by exact (mn2.2 _ (by omega)).1)) ?_
  refine g_lstore (l1 := [(4, aJ ((sNu S (a.toNat)).1)), (0, aO (some o)), (1, aI 5), (2, aI a), (3, aI b)]) rfl rfl ?_
  refine g_aload_n rfl rfl ?_
  refine g_getR rfl ms.1 (mr_lower ms) ?_
  refine g_iload_n rfl rfl ?_
  refine g_lald (i := a.toNat) rfl (mt_lower ms) (by omega) (by omega) ?_
  refine g_top (v2 := aJ ((sNu S (a.toNat)).2)) (congrArg aJ (by exact (mn2.2 _ (by omega)).2)) ?_
  refine g_lstore (l1 := [(6, aJ ((sNu S (a.toNat)).2)), (4, aJ ((sNu S (a.toNat)).1)), (0, aO (some o)), (1, aI 5), (2, aI a), (3, aI b)]) rfl rfl ?_
  refine g_aload_n rfl rfl ?_
  refine g_getR rfl ms.1 (mr_upper ms) ?_
  refine g_iload_n rfl rfl ?_
  refine g_lald (i := b.toNat) rfl (mt_upper ms) (by omega) (by omega) ?_
  refine g_top (v2 := aJ ((sNu S (b.toNat)).1)) (congrArg aJ (by exact (mn2.2 _ (by omega)).1)) ?_
  refine g_lstore (l1 := [(8, aJ ((sNu S (b.toNat)).1)), (6, aJ ((sNu S (a.toNat)).2)), (4, aJ ((sNu S (a.toNat)).1)), (0, aO (some o)), (1, aI 5), (2, aI a), (3, aI b)]) rfl rfl ?_
  refine g_aload_n rfl rfl ?_
  refine g_getR rfl ms.1 (mr_lower ms) ?_
  refine g_iload_n rfl rfl ?_
  refine g_lald (i := b.toNat) rfl (mt_lower ms) (by omega) (by omega) ?_
  refine g_top (v2 := aJ ((sNu S (b.toNat)).2)) (congrArg aJ (by exact (mn2.2 _ (by omega)).2)) ?_
  refine g_lstore (l1 := [(10, aJ ((sNu S (b.toNat)).2)), (8, aJ ((sNu S (b.toNat)).1)), (6, aJ ((sNu S (a.toNat)).2)), (4, aJ ((sNu S (a.toNat)).1)), (0, aO (some o)), (1, aI 5), (2, aI a), (3, aI b)]) rfl rfl ?_
  refine g_lload rfl rfl ?_
  refine g_lload rfl rfl ?_
  refine g_lmul rfl (by omega) (by omega) ?_
  refine g_lload rfl rfl ?_
  refine g_lload rfl rfl ?_
  refine g_lmul rfl (by omega) (by omega) ?_
  refine g_lc_ge_t rfl rfl (by omega) ?_
  refine g_iconst rfl ?_
  refine g_istore (l1 := [(12, aI 0), (10, aJ ((sNu S (b.toNat)).2)), (8, aJ ((sNu S (b.toNat)).1)), (6, aJ ((sNu S (a.toNat)).2)), (4, aJ ((sNu S (a.toNat)).1)), (0, aO (some o)), (1, aI 5), (2, aI a), (3, aI b)]) rfl rfl ?_
  refine g_iconst rfl ?_
  refine g_istore (l1 := [(13, aI 1), (12, aI 0), (10, aJ ((sNu S (b.toNat)).2)), (8, aJ ((sNu S (b.toNat)).1)), (6, aJ ((sNu S (a.toNat)).2)), (4, aJ ((sNu S (a.toNat)).1)), (0, aO (some o)), (1, aI 5), (2, aI a), (3, aI b)]) rfl rfl ?_
  refine g_iload_n rfl rfl ?_
  refine g_tsw (t := 242) rfl (by rfl) ?_
  refine g_aload_n rfl rfl ?_
  refine g_iload rfl rfl ?_
  refine g_iload_n rfl rfl ?_
  refine g_iconst rfl ?_
  refine g_icmp_ne_t rfl (by omega) ?_
  refine g_iconst rfl ?_
  refine g_icmp_ne_f rfl (by omega) ?_
  refine g_lload rfl rfl ?_
  refine g_goto rfl ?_
  refine g_putJ rfl ms.1 ?_
  refine g_aload_n rfl rfl ?_
  refine g_iload rfl rfl ?_
  refine g_iload_n rfl rfl ?_
  refine g_iconst rfl ?_
  refine g_icmp_ne_t rfl (by omega) ?_
  refine g_iconst rfl ?_
  refine g_icmp_ne_f rfl (by omega) ?_
  refine g_lload rfl rfl ?_
  refine g_goto rfl ?_
  refine g_putJ rfl ms.1 ?_
  refine g_goto rfl ?_
  refine g_aload_n rfl rfl ?_
  refine g_iload rfl rfl ?_
  refine g_callVI [aI 1] [] rfl rfl rfl rfl (Nat.le_of_ble_eq_true rfl) ms.1 (m_keepN (by omega) ms ((vset (vset ((((vset V o 31 0)))) o 5 ((sNu S (a.toNat)).1)) o 6 ((sNu S (a.toNat)).2))) ((mn2.own (i := 5) (by decide) _).own (i := 6) (by decide) _) ok (sNu S a.toNat) (by first | (rw [vset_ne _ _ _ _ (by omega), vset_eq]; done) | (rw [vset_ne _ _ _ _ (by omega), vset_eq]; show _ = _; omega)) (by rw [vset_eq]) _ (by rw [if_pos (NuOk.small (ok.2 a.toNat (by omega)))])) ?_
  rintro _ _ ⟨W4, rfl, hx, hf, rfl⟩
  refine g_iret rfl ?_
  have eS : spC S 5 (sNu S a.toNat) (sNu S b.toNat) = keepN S (sNu S a.toNat) := by
    show keepN S (if 0 ≤ ordF (sNu S a.toNat) (sNu S b.toNat) then _ else _) = _
    rw [if_pos (ordN hl).1]
  rw [eS]
  exact ⟨_, rfl, hx, FM.own3 hf, rfl⟩
set_option maxRecDepth 100000 in
theorem m_apply6 {w : aW} {d : Nat} (hd : 3 ≤ d) {h : aH} {o : Nat} (ms : MS h o) (V : Nat → Nat → Int) {S : aS} (mn : MN V o S) (ok : OkN S) (a b : Int) (ha : 0 ≤ a ∧ a < sN S) (hb : 0 ≤ b ∧ b < sN S)  : WP w d 275 [aO (some o), aI 6, aI a, aI b] (hw h V) (RI (fun r h1 => ∃ V1, h1 = hw h V1 ∧ MN V1 o (spC S 6 (sNu S a.toNat) (sNu S b.toNat)).2 ∧ FM V V1 o ∧ r = (spC S 6 (sNu S a.toNat) (sNu S b.toNat)).1)) := by
  obtain ⟨d, rfl⟩ : ∃ d1, d = d1 + 1 := ⟨d - 1, by omega⟩
  refine WP.enter (cd := cd_X12_apply) rfl ?_
  have mn2 := mn.own (i := 31) (by decide) 0
  have hn2 := ok.1
  have hp := ok.at ha
  have hq := ok.at hb
  have m0 := mulB (x := (sNu S a.toNat).1) (y := (sNu S b.toNat).2) (by omega) (by omega) (by omega) (by omega)
  have m1 := mulB (x := (sNu S b.toNat).1) (y := (sNu S a.toNat).2) (by omega) (by omega) (by omega) (by omega)
  have m2 := mulB (x := (sNu S a.toNat).2) (y := (sNu S b.toNat).2) (by omega) (by omega) (by omega) (by omega)
  have m3 := mulB (x := (sNu S a.toNat).1) (y := (sNu S b.toNat).1) (by omega) (by omega) (by omega) (by omega)
  have m4 := mulB (x := (sNu S a.toNat).2) (y := (sNu S b.toNat).1) (by omega) (by omega) (by omega) (by omega)
  have hfo := (fl_ok (ok.2 a.toNat (by omega))).b
  have hls : largs 0 [aO (some o), aI 6, aI a, aI b] = [(0, aO (some o)), (1, aI 6), (2, aI a), (3, aI b)] := rfl
  rw [hls]
  clear hls
  refine g_aload_n rfl rfl ?_
  refine g_iconst rfl ?_
  refine g_putI rfl ms.1 ?_
  refine g_iload_n rfl rfl ?_
  refine g_i2l rfl ?_
  refine g_lconst0 rfl ?_
  refine g_ldc2 rfl ?_
  refine g_callSI [aJ 6, aJ 0, aJ 9] [] rfl rfl rfl rfl (Nat.le_of_ble_eq_true rfl) (c_in (by omega) 6 0 9 _) ?_
  rintro _ _ ⟨rfl, rfl⟩
  refine g_if_eq_f rfl (by decide) ?_
  refine g_aload_n rfl rfl ?_
  refine g_iload_n rfl rfl ?_
  refine g_callVI [aI a] [] rfl rfl rfl rfl (Nat.le_of_ble_eq_true rfl) ms.1 (m_isN (by omega) ms (((vset V o 31 0))) mn2 ok a) ?_
  rintro _ _ ⟨rfl, rfl⟩
  refine g_if_eq_f rfl (by rw [if_pos ha]; decide) ?_
  refine g_aload_n rfl rfl ?_
  refine g_iload_n rfl rfl ?_
  refine g_callVI [aI b] [] rfl rfl rfl rfl (Nat.le_of_ble_eq_true rfl) ms.1 (m_isN (by omega) ms ((((vset V o 31 0)))) mn2 ok b) ?_
  rintro _ _ ⟨rfl, rfl⟩
  refine g_if_ne_t rfl (by rw [if_pos hb]; decide) ?_
  refine g_aload_n rfl rfl ?_
  refine g_getR rfl ms.1 (mr_upper ms) ?_
  refine g_iload_n rfl rfl ?_
  refine g_lald (i := a.toNat) rfl (mt_upper ms) (by omega) (by omega) ?_
  refine g_top (v2 := aJ ((sNu S (a.toNat)).1)) (congrArg aJ (by exact (mn2.2 _ (by omega)).1)) ?_
  refine g_lstore (l1 := [(4, aJ ((sNu S (a.toNat)).1)), (0, aO (some o)), (1, aI 6), (2, aI a), (3, aI b)]) rfl rfl ?_
  refine g_aload_n rfl rfl ?_
  refine g_getR rfl ms.1 (mr_lower ms) ?_
  refine g_iload_n rfl rfl ?_
  refine g_lald (i := a.toNat) rfl (mt_lower ms) (by omega) (by omega) ?_
  refine g_top (v2 := aJ ((sNu S (a.toNat)).2)) (congrArg aJ (by exact (mn2.2 _ (by omega)).2)) ?_
  refine g_lstore (l1 := [(6, aJ ((sNu S (a.toNat)).2)), (4, aJ ((sNu S (a.toNat)).1)), (0, aO (some o)), (1, aI 6), (2, aI a), (3, aI b)]) rfl rfl ?_
  refine g_aload_n rfl rfl ?_
  refine g_getR rfl ms.1 (mr_upper ms) ?_
  refine g_iload_n rfl rfl ?_
  refine g_lald (i := b.toNat) rfl (mt_upper ms) (by omega) (by omega) ?_
  refine g_top (v2 := aJ ((sNu S (b.toNat)).1)) (congrArg aJ (by exact (mn2.2 _ (by omega)).1)) ?_
  refine g_lstore (l1 := [(8, aJ ((sNu S (b.toNat)).1)), (6, aJ ((sNu S (a.toNat)).2)), (4, aJ ((sNu S (a.toNat)).1)), (0, aO (some o)), (1, aI 6), (2, aI a), (3, aI b)]) rfl rfl ?_
  refine g_aload_n rfl rfl ?_
  refine g_getR rfl ms.1 (mr_lower ms) ?_
  refine g_iload_n rfl rfl ?_
  refine g_lald (i := b.toNat) rfl (mt_lower ms) (by omega) (by omega) ?_
  refine g_top (v2 := aJ ((sNu S (b.toNat)).2)) (congrArg aJ (by exact (mn2.2 _ (by omega)).2)) ?_
  refine g_lstore (l1 := [(10, aJ ((sNu S (b.toNat)).2)), (8, aJ ((sNu S (b.toNat)).1)), (6, aJ ((sNu S (a.toNat)).2)), (4, aJ ((sNu S (a.toNat)).1)), (0, aO (some o)), (1, aI 6), (2, aI a), (3, aI b)]) rfl rfl ?_
  refine g_lload rfl rfl ?_
  refine g_lload rfl rfl ?_
  refine g_lmul rfl (by omega) (by omega) ?_
  refine g_lload rfl rfl ?_
  refine g_lload rfl rfl ?_
  refine g_lmul rfl (by omega) (by omega) ?_
  refine g_lc_ge rfl rfl (fun c77 => ?_) (fun c77 => ?_)
  · skip
    refine g_iconst rfl ?_
    refine g_istore (l1 := [(12, aI 0), (10, aJ ((sNu S (b.toNat)).2)), (8, aJ ((sNu S (b.toNat)).1)), (6, aJ ((sNu S (a.toNat)).2)), (4, aJ ((sNu S (a.toNat)).1)), (0, aO (some o)), (1, aI 6), (2, aI a), (3, aI b)]) rfl rfl ?_
    refine g_iconst rfl ?_
    refine g_istore (l1 := [(13, aI 1), (12, aI 0), (10, aJ ((sNu S (b.toNat)).2)), (8, aJ ((sNu S (b.toNat)).1)), (6, aJ ((sNu S (a.toNat)).2)), (4, aJ ((sNu S (a.toNat)).1)), (0, aO (some o)), (1, aI 6), (2, aI a), (3, aI b)]) rfl rfl ?_
    refine g_iload_n rfl rfl ?_
    refine g_tsw (t := 297) rfl (by rfl) ?_
    refine g_aload_n rfl rfl ?_
    refine g_lload rfl rfl ?_
    refine g_lload rfl rfl ?_
    refine g_callSJ [aJ ((sNu S (a.toNat)).1), aJ ((sNu S (a.toNat)).2)] [aO (some o)] rfl rfl rfl rfl (Nat.le_of_ble_eq_true rfl) (c_floor (by omega) ((sNu S (a.toNat)).1) ((sNu S (a.toNat)).2) (by omega) (by omega) _) ?_
    rintro _ _ ⟨rfl, rfl⟩
    refine g_putJ rfl ms.1 ?_
    refine g_aload_n rfl rfl ?_
    refine g_lconst1 rfl ?_
    refine g_putJ rfl ms.1 ?_
    refine g_goto rfl ?_
    refine g_aload_n rfl rfl ?_
    refine g_iload rfl rfl ?_
    refine g_callVI [aI 1] [] rfl rfl rfl rfl (Nat.le_of_ble_eq_true rfl) ms.1 (m_keepN (by omega) ms ((vset (vset (((((vset V o 31 0))))) o 5 ((((sNu S (a.toNat)).1) / ((sNu S (a.toNat)).2)))) o 6 1)) ((mn2.own (i := 5) (by decide) _).own (i := 6) (by decide) _) ok ((sNu S a.toNat).1 / (sNu S a.toNat).2, 1) (by first | (rw [vset_ne _ _ _ _ (by omega), vset_eq]; done) | (rw [vset_ne _ _ _ _ (by omega), vset_eq]; show _ = _; omega)) (by rw [vset_eq]) _ (by rw [if_pos (NuOk.small (fl_ok (ok.2 a.toNat (by omega))))])) ?_
    rintro _ _ ⟨W5, rfl, hx, hf, rfl⟩
    refine g_iret rfl ?_
    have eS : spC S 6 (sNu S a.toNat) (sNu S b.toNat) = keepN S ((sNu S a.toNat).1 / (sNu S a.toNat).2, 1) := by
      rfl
    rw [eS]
    exact ⟨_, rfl, hx, FM.own3 hf, rfl⟩
  · skip
    refine g_iconst rfl ?_
    refine g_goto rfl ?_
    refine g_istore (l1 := [(12, aI 1), (10, aJ ((sNu S (b.toNat)).2)), (8, aJ ((sNu S (b.toNat)).1)), (6, aJ ((sNu S (a.toNat)).2)), (4, aJ ((sNu S (a.toNat)).1)), (0, aO (some o)), (1, aI 6), (2, aI a), (3, aI b)]) rfl rfl ?_
    refine g_iconst rfl ?_
    refine g_istore (l1 := [(13, aI 1), (12, aI 1), (10, aJ ((sNu S (b.toNat)).2)), (8, aJ ((sNu S (b.toNat)).1)), (6, aJ ((sNu S (a.toNat)).2)), (4, aJ ((sNu S (a.toNat)).1)), (0, aO (some o)), (1, aI 6), (2, aI a), (3, aI b)]) rfl rfl ?_
    refine g_iload_n rfl rfl ?_
    refine g_tsw (t := 297) rfl (by rfl) ?_
    refine g_aload_n rfl rfl ?_
    refine g_lload rfl rfl ?_
    refine g_lload rfl rfl ?_
    refine g_callSJ [aJ ((sNu S (a.toNat)).1), aJ ((sNu S (a.toNat)).2)] [aO (some o)] rfl rfl rfl rfl (Nat.le_of_ble_eq_true rfl) (c_floor (by omega) ((sNu S (a.toNat)).1) ((sNu S (a.toNat)).2) (by omega) (by omega) _) ?_
    rintro _ _ ⟨rfl, rfl⟩
    refine g_putJ rfl ms.1 ?_
    refine g_aload_n rfl rfl ?_
    refine g_lconst1 rfl ?_
    refine g_putJ rfl ms.1 ?_
    refine g_goto rfl ?_
    refine g_aload_n rfl rfl ?_
    refine g_iload rfl rfl ?_
    refine g_callVI [aI 1] [] rfl rfl rfl rfl (Nat.le_of_ble_eq_true rfl) ms.1 (m_keepN (by omega) ms ((vset (vset (((((vset V o 31 0))))) o 5 ((((sNu S (a.toNat)).1) / ((sNu S (a.toNat)).2)))) o 6 1)) ((mn2.own (i := 5) (by decide) _).own (i := 6) (by decide) _) ok ((sNu S a.toNat).1 / (sNu S a.toNat).2, 1) (by first | (rw [vset_ne _ _ _ _ (by omega), vset_eq]; done) | (rw [vset_ne _ _ _ _ (by omega), vset_eq]; show _ = _; omega)) (by rw [vset_eq]) _ (by rw [if_pos (NuOk.small (fl_ok (ok.2 a.toNat (by omega))))])) ?_
    rintro _ _ ⟨W7, rfl, hx, hf, rfl⟩
    refine g_iret rfl ?_
    have eS : spC S 6 (sNu S a.toNat) (sNu S b.toNat) = keepN S ((sNu S a.toNat).1 / (sNu S a.toNat).2, 1) := by
      rfl
    rw [eS]
    exact ⟨_, rfl, hx, FM.own3 hf, rfl⟩
set_option maxRecDepth 100000 in
theorem m_apply7 {w : aW} {d : Nat} (hd : 3 ≤ d) {h : aH} {o : Nat} (ms : MS h o) (V : Nat → Nat → Int) {S : aS} (mn : MN V o S) (ok : OkN S) (a b : Int) (ha : 0 ≤ a ∧ a < sN S) (hb : 0 ≤ b ∧ b < sN S)  : WP w d 275 [aO (some o), aI 7, aI a, aI b] (hw h V) (RI (fun r h1 => ∃ V1, h1 = hw h V1 ∧ MN V1 o (spC S 7 (sNu S a.toNat) (sNu S b.toNat)).2 ∧ FM V V1 o ∧ r = (spC S 7 (sNu S a.toNat) (sNu S b.toNat)).1)) := by
  obtain ⟨d, rfl⟩ : ∃ d1, d = d1 + 1 := ⟨d - 1, by omega⟩
  refine WP.enter (cd := cd_X12_apply) rfl ?_
  have mn2 := mn.own (i := 31) (by decide) 0
  have hn2 := ok.1
  have hp := ok.at ha
  have hq := ok.at hb
  have m0 := mulB (x := (sNu S a.toNat).1) (y := (sNu S b.toNat).2) (by omega) (by omega) (by omega) (by omega)
  have m1 := mulB (x := (sNu S b.toNat).1) (y := (sNu S a.toNat).2) (by omega) (by omega) (by omega) (by omega)
  have m2 := mulB (x := (sNu S a.toNat).2) (y := (sNu S b.toNat).2) (by omega) (by omega) (by omega) (by omega)
  have m3 := mulB (x := (sNu S a.toNat).1) (y := (sNu S b.toNat).1) (by omega) (by omega) (by omega) (by omega)
  have m4 := mulB (x := (sNu S a.toNat).2) (y := (sNu S b.toNat).1) (by omega) (by omega) (by omega) (by omega)
  have r1 := rtF_le (sNu S a.toNat).1
  have q1 := mulB (x := (rtF (sNu S a.toNat).1 : Int)) (y := (rtF (sNu S a.toNat).1 : Int)) (by omega) (by omega) (by omega) (by omega)
  have r2 := rtF_le (sNu S a.toNat).2
  have q2 := mulB (x := (rtF (sNu S a.toNat).2 : Int)) (y := (rtF (sNu S a.toNat).2 : Int)) (by omega) (by omega) (by omega) (by omega)
  have r0 := Int.mul_nonneg (Int.natCast_nonneg (rtF (sNu S a.toNat).1)) (Int.natCast_nonneg (rtF (sNu S a.toNat).1))
  have hls : largs 0 [aO (some o), aI 7, aI a, aI b] = [(0, aO (some o)), (1, aI 7), (2, aI a), (3, aI b)] := rfl
  rw [hls]
  clear hls
  refine g_aload_n rfl rfl ?_
  refine g_iconst rfl ?_
  refine g_putI rfl ms.1 ?_
  refine g_iload_n rfl rfl ?_
  refine g_i2l rfl ?_
  refine g_lconst0 rfl ?_
  refine g_ldc2 rfl ?_
  refine g_callSI [aJ 7, aJ 0, aJ 9] [] rfl rfl rfl rfl (Nat.le_of_ble_eq_true rfl) (c_in (by omega) 7 0 9 _) ?_
  rintro _ _ ⟨rfl, rfl⟩
  refine g_if_eq_f rfl (by decide) ?_
  refine g_aload_n rfl rfl ?_
  refine g_iload_n rfl rfl ?_
  refine g_callVI [aI a] [] rfl rfl rfl rfl (Nat.le_of_ble_eq_true rfl) ms.1 (m_isN (by omega) ms (((vset V o 31 0))) mn2 ok a) ?_
  rintro _ _ ⟨rfl, rfl⟩
  refine g_if_eq_f rfl (by rw [if_pos ha]; decide) ?_
  refine g_aload_n rfl rfl ?_
  refine g_iload_n rfl rfl ?_
  refine g_callVI [aI b] [] rfl rfl rfl rfl (Nat.le_of_ble_eq_true rfl) ms.1 (m_isN (by omega) ms ((((vset V o 31 0)))) mn2 ok b) ?_
  rintro _ _ ⟨rfl, rfl⟩
  refine g_if_ne_t rfl (by rw [if_pos hb]; decide) ?_
  refine g_aload_n rfl rfl ?_
  refine g_getR rfl ms.1 (mr_upper ms) ?_
  refine g_iload_n rfl rfl ?_
  refine g_lald (i := a.toNat) rfl (mt_upper ms) (by omega) (by omega) ?_
  refine g_top (v2 := aJ ((sNu S (a.toNat)).1)) (congrArg aJ (by exact (mn2.2 _ (by omega)).1)) ?_
  refine g_lstore (l1 := [(4, aJ ((sNu S (a.toNat)).1)), (0, aO (some o)), (1, aI 7), (2, aI a), (3, aI b)]) rfl rfl ?_
  refine g_aload_n rfl rfl ?_
  refine g_getR rfl ms.1 (mr_lower ms) ?_
  refine g_iload_n rfl rfl ?_
  refine g_lald (i := a.toNat) rfl (mt_lower ms) (by omega) (by omega) ?_
  refine g_top (v2 := aJ ((sNu S (a.toNat)).2)) (congrArg aJ (by exact (mn2.2 _ (by omega)).2)) ?_
  refine g_lstore (l1 := [(6, aJ ((sNu S (a.toNat)).2)), (4, aJ ((sNu S (a.toNat)).1)), (0, aO (some o)), (1, aI 7), (2, aI a), (3, aI b)]) rfl rfl ?_
  refine g_aload_n rfl rfl ?_
  refine g_getR rfl ms.1 (mr_upper ms) ?_
  refine g_iload_n rfl rfl ?_
  refine g_lald (i := b.toNat) rfl (mt_upper ms) (by omega) (by omega) ?_
  refine g_top (v2 := aJ ((sNu S (b.toNat)).1)) (congrArg aJ (by exact (mn2.2 _ (by omega)).1)) ?_
  refine g_lstore (l1 := [(8, aJ ((sNu S (b.toNat)).1)), (6, aJ ((sNu S (a.toNat)).2)), (4, aJ ((sNu S (a.toNat)).1)), (0, aO (some o)), (1, aI 7), (2, aI a), (3, aI b)]) rfl rfl ?_
  refine g_aload_n rfl rfl ?_
  refine g_getR rfl ms.1 (mr_lower ms) ?_
  refine g_iload_n rfl rfl ?_
  refine g_lald (i := b.toNat) rfl (mt_lower ms) (by omega) (by omega) ?_
  refine g_top (v2 := aJ ((sNu S (b.toNat)).2)) (congrArg aJ (by exact (mn2.2 _ (by omega)).2)) ?_
  refine g_lstore (l1 := [(10, aJ ((sNu S (b.toNat)).2)), (8, aJ ((sNu S (b.toNat)).1)), (6, aJ ((sNu S (a.toNat)).2)), (4, aJ ((sNu S (a.toNat)).1)), (0, aO (some o)), (1, aI 7), (2, aI a), (3, aI b)]) rfl rfl ?_
  refine g_lload rfl rfl ?_
  refine g_lload rfl rfl ?_
  refine g_lmul rfl (by omega) (by omega) ?_
  refine g_lload rfl rfl ?_
  refine g_lload rfl rfl ?_
  refine g_lmul rfl (by omega) (by omega) ?_
  refine g_lc_ge rfl rfl (fun c77 => ?_) (fun c77 => ?_)
  · skip
    refine g_iconst rfl ?_
    refine g_istore (l1 := [(12, aI 0), (10, aJ ((sNu S (b.toNat)).2)), (8, aJ ((sNu S (b.toNat)).1)), (6, aJ ((sNu S (a.toNat)).2)), (4, aJ ((sNu S (a.toNat)).1)), (0, aO (some o)), (1, aI 7), (2, aI a), (3, aI b)]) rfl rfl ?_
    refine g_iconst rfl ?_
    refine g_istore (l1 := [(13, aI 1), (12, aI 0), (10, aJ ((sNu S (b.toNat)).2)), (8, aJ ((sNu S (b.toNat)).1)), (6, aJ ((sNu S (a.toNat)).2)), (4, aJ ((sNu S (a.toNat)).1)), (0, aO (some o)), (1, aI 7), (2, aI a), (3, aI b)]) rfl rfl ?_
    refine g_iload_n rfl rfl ?_
    refine g_tsw (t := 316) rfl (by rfl) ?_
    refine g_lload rfl rfl ?_
    refine g_lconst0 rfl ?_
    refine g_lc_lt rfl rfl (fun c319 => ?_) (fun c319 => ?_)
    · skip
      refine g_bipush rfl ?_
      refine g_iret rfl ?_
      have eS : spC S 7 (sNu S a.toNat) (sNu S b.toNat) = (-3, S) := by
        show spRt S (sNu S a.toNat) = _
        unfold spRt
        rw [if_neg (by omega)]
      rw [eS]
      exact ⟨_, rfl, mn2, FM.own V o (i := 31) (by omega) 0, rfl⟩
    · skip
      refine g_lload rfl rfl ?_
      refine g_callSJ [aJ ((sNu S (a.toNat)).1)] [] rfl rfl rfl rfl (Nat.le_of_ble_eq_true rfl) (c_rootOf (by omega) ((sNu S (a.toNat)).1) _) ?_
      rintro _ _ ⟨rfl, rfl⟩
      refine g_lload rfl rfl ?_
      refine g_callSJ [aJ ((sNu S (a.toNat)).1)] [aJ ((rtF ((sNu S (a.toNat)).1) : Int))] rfl rfl rfl rfl (Nat.le_of_ble_eq_true rfl) (c_rootOf (by omega) ((sNu S (a.toNat)).1) _) ?_
      rintro _ _ ⟨rfl, rfl⟩
      refine g_lmul rfl (by omega) (by omega) ?_
      refine g_lload rfl rfl ?_
      refine g_lc_ne rfl rfl (fun c336 => ?_) (fun c336 => ?_)
      · skip
        refine g_bipush rfl ?_
        refine g_iret rfl ?_
        have eS : spC S 7 (sNu S a.toNat) (sNu S b.toNat) = (-3, S) := by
          show spRt S (sNu S a.toNat) = _
          unfold spRt
          rw [if_neg (by omega)]
        rw [eS]
        exact ⟨_, rfl, mn2, FM.own V o (i := 31) (by omega) 0, rfl⟩
      · skip
        refine g_lload rfl rfl ?_
        refine g_callSJ [aJ ((sNu S (a.toNat)).2)] [] rfl rfl rfl rfl (Nat.le_of_ble_eq_true rfl) (c_rootOf (by omega) ((sNu S (a.toNat)).2) _) ?_
        rintro _ _ ⟨rfl, rfl⟩
        refine g_lload rfl rfl ?_
        refine g_callSJ [aJ ((sNu S (a.toNat)).2)] [aJ ((rtF ((sNu S (a.toNat)).2) : Int))] rfl rfl rfl rfl (Nat.le_of_ble_eq_true rfl) (c_rootOf (by omega) ((sNu S (a.toNat)).2) _) ?_
        rintro _ _ ⟨rfl, rfl⟩
        refine g_lmul rfl (by omega) (by omega) ?_
        refine g_lload rfl rfl ?_
        refine g_lc_eq rfl rfl (fun c353 => ?_) (fun c353 => ?_)
        · skip
          refine g_aload_n rfl rfl ?_
          refine g_lload rfl rfl ?_
          refine g_callSJ [aJ ((sNu S (a.toNat)).1)] [aO (some o)] rfl rfl rfl rfl (Nat.le_of_ble_eq_true rfl) (c_rootOf (by omega) ((sNu S (a.toNat)).1) _) ?_
          rintro _ _ ⟨rfl, rfl⟩
          refine g_putJ rfl ms.1 ?_
          refine g_aload_n rfl rfl ?_
          refine g_lload rfl rfl ?_
          refine g_callSJ [aJ ((sNu S (a.toNat)).2)] [aO (some o)] rfl rfl rfl rfl (Nat.le_of_ble_eq_true rfl) (c_rootOf (by omega) ((sNu S (a.toNat)).2) _) ?_
          rintro _ _ ⟨rfl, rfl⟩
          refine g_putJ rfl ms.1 ?_
          refine g_goto rfl ?_
          refine g_aload_n rfl rfl ?_
          refine g_iload rfl rfl ?_
          refine g_callVI [aI 1] [] rfl rfl rfl rfl (Nat.le_of_ble_eq_true rfl) ms.1 (m_keepN (by omega) ms ((vset ((vset (((((((((vset V o 31 0))))))))) o 5 ((rtF ((sNu S (a.toNat)).1) : Int)))) o 6 ((rtF ((sNu S (a.toNat)).2) : Int)))) ((mn2.own (i := 5) (by decide) _).own (i := 6) (by decide) _) ok ((rtF (sNu S a.toNat).1 : Int), (rtF (sNu S a.toNat).2 : Int)) (by first | (rw [vset_ne _ _ _ _ (by omega), vset_eq]; done) | (rw [vset_ne _ _ _ _ (by omega), vset_eq]; show _ = _; omega)) (by rw [vset_eq]) _ (by rw [if_pos (NuOk.small (rtF_ok (ok.2 a.toNat (by omega)) (by omega) (by omega)))])) ?_
          rintro _ _ ⟨W10, rfl, hx, hf, rfl⟩
          refine g_iret rfl ?_
          have eS : spC S 7 (sNu S a.toNat) (sNu S b.toNat) = keepN S ((rtF (sNu S a.toNat).1 : Int), (rtF (sNu S a.toNat).2 : Int)) := by
            show spRt S (sNu S a.toNat) = _
            unfold spRt
            rw [if_pos ⟨by omega, by omega⟩]
          rw [eS]
          exact ⟨_, rfl, hx, FM.own3 hf, rfl⟩
        · skip
          refine g_bipush rfl ?_
          refine g_iret rfl ?_
          have eS : spC S 7 (sNu S a.toNat) (sNu S b.toNat) = (-3, S) := by
            show spRt S (sNu S a.toNat) = _
            unfold spRt
            rw [if_neg (by omega)]
          rw [eS]
          exact ⟨_, rfl, mn2, FM.own V o (i := 31) (by omega) 0, rfl⟩
  · skip
    refine g_iconst rfl ?_
    refine g_goto rfl ?_
    refine g_istore (l1 := [(12, aI 1), (10, aJ ((sNu S (b.toNat)).2)), (8, aJ ((sNu S (b.toNat)).1)), (6, aJ ((sNu S (a.toNat)).2)), (4, aJ ((sNu S (a.toNat)).1)), (0, aO (some o)), (1, aI 7), (2, aI a), (3, aI b)]) rfl rfl ?_
    refine g_iconst rfl ?_
    refine g_istore (l1 := [(13, aI 1), (12, aI 1), (10, aJ ((sNu S (b.toNat)).2)), (8, aJ ((sNu S (b.toNat)).1)), (6, aJ ((sNu S (a.toNat)).2)), (4, aJ ((sNu S (a.toNat)).1)), (0, aO (some o)), (1, aI 7), (2, aI a), (3, aI b)]) rfl rfl ?_
    refine g_iload_n rfl rfl ?_
    refine g_tsw (t := 316) rfl (by rfl) ?_
    refine g_lload rfl rfl ?_
    refine g_lconst0 rfl ?_
    refine g_lc_lt rfl rfl (fun c319 => ?_) (fun c319 => ?_)
    · skip
      refine g_bipush rfl ?_
      refine g_iret rfl ?_
      have eS : spC S 7 (sNu S a.toNat) (sNu S b.toNat) = (-3, S) := by
        show spRt S (sNu S a.toNat) = _
        unfold spRt
        rw [if_neg (by omega)]
      rw [eS]
      exact ⟨_, rfl, mn2, FM.own V o (i := 31) (by omega) 0, rfl⟩
    · skip
      refine g_lload rfl rfl ?_
      refine g_callSJ [aJ ((sNu S (a.toNat)).1)] [] rfl rfl rfl rfl (Nat.le_of_ble_eq_true rfl) (c_rootOf (by omega) ((sNu S (a.toNat)).1) _) ?_
      rintro _ _ ⟨rfl, rfl⟩
      refine g_lload rfl rfl ?_
      refine g_callSJ [aJ ((sNu S (a.toNat)).1)] [aJ ((rtF ((sNu S (a.toNat)).1) : Int))] rfl rfl rfl rfl (Nat.le_of_ble_eq_true rfl) (c_rootOf (by omega) ((sNu S (a.toNat)).1) _) ?_
      rintro _ _ ⟨rfl, rfl⟩
      refine g_lmul rfl (by omega) (by omega) ?_
      refine g_lload rfl rfl ?_
      refine g_lc_ne rfl rfl (fun c336 => ?_) (fun c336 => ?_)
      · skip
        refine g_bipush rfl ?_
        refine g_iret rfl ?_
        have eS : spC S 7 (sNu S a.toNat) (sNu S b.toNat) = (-3, S) := by
          show spRt S (sNu S a.toNat) = _
          unfold spRt
          rw [if_neg (by omega)]
        rw [eS]
        exact ⟨_, rfl, mn2, FM.own V o (i := 31) (by omega) 0, rfl⟩
      · skip
        refine g_lload rfl rfl ?_
        refine g_callSJ [aJ ((sNu S (a.toNat)).2)] [] rfl rfl rfl rfl (Nat.le_of_ble_eq_true rfl) (c_rootOf (by omega) ((sNu S (a.toNat)).2) _) ?_
        rintro _ _ ⟨rfl, rfl⟩
        refine g_lload rfl rfl ?_
        refine g_callSJ [aJ ((sNu S (a.toNat)).2)] [aJ ((rtF ((sNu S (a.toNat)).2) : Int))] rfl rfl rfl rfl (Nat.le_of_ble_eq_true rfl) (c_rootOf (by omega) ((sNu S (a.toNat)).2) _) ?_
        rintro _ _ ⟨rfl, rfl⟩
        refine g_lmul rfl (by omega) (by omega) ?_
        refine g_lload rfl rfl ?_
        refine g_lc_eq rfl rfl (fun c353 => ?_) (fun c353 => ?_)
        · skip
          refine g_aload_n rfl rfl ?_
          refine g_lload rfl rfl ?_
          refine g_callSJ [aJ ((sNu S (a.toNat)).1)] [aO (some o)] rfl rfl rfl rfl (Nat.le_of_ble_eq_true rfl) (c_rootOf (by omega) ((sNu S (a.toNat)).1) _) ?_
          rintro _ _ ⟨rfl, rfl⟩
          refine g_putJ rfl ms.1 ?_
          refine g_aload_n rfl rfl ?_
          refine g_lload rfl rfl ?_
          refine g_callSJ [aJ ((sNu S (a.toNat)).2)] [aO (some o)] rfl rfl rfl rfl (Nat.le_of_ble_eq_true rfl) (c_rootOf (by omega) ((sNu S (a.toNat)).2) _) ?_
          rintro _ _ ⟨rfl, rfl⟩
          refine g_putJ rfl ms.1 ?_
          refine g_goto rfl ?_
          refine g_aload_n rfl rfl ?_
          refine g_iload rfl rfl ?_
          refine g_callVI [aI 1] [] rfl rfl rfl rfl (Nat.le_of_ble_eq_true rfl) ms.1 (m_keepN (by omega) ms ((vset ((vset (((((((((vset V o 31 0))))))))) o 5 ((rtF ((sNu S (a.toNat)).1) : Int)))) o 6 ((rtF ((sNu S (a.toNat)).2) : Int)))) ((mn2.own (i := 5) (by decide) _).own (i := 6) (by decide) _) ok ((rtF (sNu S a.toNat).1 : Int), (rtF (sNu S a.toNat).2 : Int)) (by first | (rw [vset_ne _ _ _ _ (by omega), vset_eq]; done) | (rw [vset_ne _ _ _ _ (by omega), vset_eq]; show _ = _; omega)) (by rw [vset_eq]) _ (by rw [if_pos (NuOk.small (rtF_ok (ok.2 a.toNat (by omega)) (by omega) (by omega)))])) ?_
          rintro _ _ ⟨W17, rfl, hx, hf, rfl⟩
          refine g_iret rfl ?_
          have eS : spC S 7 (sNu S a.toNat) (sNu S b.toNat) = keepN S ((rtF (sNu S a.toNat).1 : Int), (rtF (sNu S a.toNat).2 : Int)) := by
            show spRt S (sNu S a.toNat) = _
            unfold spRt
            rw [if_pos ⟨by omega, by omega⟩]
          rw [eS]
          exact ⟨_, rfl, hx, FM.own3 hf, rfl⟩
        · skip
          refine g_bipush rfl ?_
          refine g_iret rfl ?_
          have eS : spC S 7 (sNu S a.toNat) (sNu S b.toNat) = (-3, S) := by
            show spRt S (sNu S a.toNat) = _
            unfold spRt
            rw [if_neg (by omega)]
          rw [eS]
          exact ⟨_, rfl, mn2, FM.own V o (i := 31) (by omega) 0, rfl⟩
set_option maxRecDepth 100000 in
theorem m_apply8 {w : aW} {d : Nat} (hd : 3 ≤ d) {h : aH} {o : Nat} (ms : MS h o) (V : Nat → Nat → Int) {S : aS} (mn : MN V o S) (ok : OkN S) (a b : Int) (ha : 0 ≤ a ∧ a < sN S) (hb : 0 ≤ b ∧ b < sN S)  : WP w d 275 [aO (some o), aI 8, aI a, aI b] (hw h V) (RI (fun r h1 => ∃ V1, h1 = hw h V1 ∧ MN V1 o (spC S 8 (sNu S a.toNat) (sNu S b.toNat)).2 ∧ FM V V1 o ∧ r = (spC S 8 (sNu S a.toNat) (sNu S b.toNat)).1)) := by
  obtain ⟨d, rfl⟩ : ∃ d1, d = d1 + 1 := ⟨d - 1, by omega⟩
  refine WP.enter (cd := cd_X12_apply) rfl ?_
  have mn2 := mn.own (i := 31) (by decide) 0
  have hn2 := ok.1
  have hp := ok.at ha
  have hq := ok.at hb
  have m0 := mulB (x := (sNu S a.toNat).1) (y := (sNu S b.toNat).2) (by omega) (by omega) (by omega) (by omega)
  have m1 := mulB (x := (sNu S b.toNat).1) (y := (sNu S a.toNat).2) (by omega) (by omega) (by omega) (by omega)
  have m2 := mulB (x := (sNu S a.toNat).2) (y := (sNu S b.toNat).2) (by omega) (by omega) (by omega) (by omega)
  have m3 := mulB (x := (sNu S a.toNat).1) (y := (sNu S b.toNat).1) (by omega) (by omega) (by omega) (by omega)
  have m4 := mulB (x := (sNu S a.toNat).2) (y := (sNu S b.toNat).1) (by omega) (by omega) (by omega) (by omega)
  have hls : largs 0 [aO (some o), aI 8, aI a, aI b] = [(0, aO (some o)), (1, aI 8), (2, aI a), (3, aI b)] := rfl
  rw [hls]
  clear hls
  refine g_aload_n rfl rfl ?_
  refine g_iconst rfl ?_
  refine g_putI rfl ms.1 ?_
  refine g_iload_n rfl rfl ?_
  refine g_i2l rfl ?_
  refine g_lconst0 rfl ?_
  refine g_ldc2 rfl ?_
  refine g_callSI [aJ 8, aJ 0, aJ 9] [] rfl rfl rfl rfl (Nat.le_of_ble_eq_true rfl) (c_in (by omega) 8 0 9 _) ?_
  rintro _ _ ⟨rfl, rfl⟩
  refine g_if_eq_f rfl (by decide) ?_
  refine g_aload_n rfl rfl ?_
  refine g_iload_n rfl rfl ?_
  refine g_callVI [aI a] [] rfl rfl rfl rfl (Nat.le_of_ble_eq_true rfl) ms.1 (m_isN (by omega) ms (((vset V o 31 0))) mn2 ok a) ?_
  rintro _ _ ⟨rfl, rfl⟩
  refine g_if_eq_f rfl (by rw [if_pos ha]; decide) ?_
  refine g_aload_n rfl rfl ?_
  refine g_iload_n rfl rfl ?_
  refine g_callVI [aI b] [] rfl rfl rfl rfl (Nat.le_of_ble_eq_true rfl) ms.1 (m_isN (by omega) ms ((((vset V o 31 0)))) mn2 ok b) ?_
  rintro _ _ ⟨rfl, rfl⟩
  refine g_if_ne_t rfl (by rw [if_pos hb]; decide) ?_
  refine g_aload_n rfl rfl ?_
  refine g_getR rfl ms.1 (mr_upper ms) ?_
  refine g_iload_n rfl rfl ?_
  refine g_lald (i := a.toNat) rfl (mt_upper ms) (by omega) (by omega) ?_
  refine g_top (v2 := aJ ((sNu S (a.toNat)).1)) (congrArg aJ (by exact (mn2.2 _ (by omega)).1)) ?_
  refine g_lstore (l1 := [(4, aJ ((sNu S (a.toNat)).1)), (0, aO (some o)), (1, aI 8), (2, aI a), (3, aI b)]) rfl rfl ?_
  refine g_aload_n rfl rfl ?_
  refine g_getR rfl ms.1 (mr_lower ms) ?_
  refine g_iload_n rfl rfl ?_
  refine g_lald (i := a.toNat) rfl (mt_lower ms) (by omega) (by omega) ?_
  refine g_top (v2 := aJ ((sNu S (a.toNat)).2)) (congrArg aJ (by exact (mn2.2 _ (by omega)).2)) ?_
  refine g_lstore (l1 := [(6, aJ ((sNu S (a.toNat)).2)), (4, aJ ((sNu S (a.toNat)).1)), (0, aO (some o)), (1, aI 8), (2, aI a), (3, aI b)]) rfl rfl ?_
  refine g_aload_n rfl rfl ?_
  refine g_getR rfl ms.1 (mr_upper ms) ?_
  refine g_iload_n rfl rfl ?_
  refine g_lald (i := b.toNat) rfl (mt_upper ms) (by omega) (by omega) ?_
  refine g_top (v2 := aJ ((sNu S (b.toNat)).1)) (congrArg aJ (by exact (mn2.2 _ (by omega)).1)) ?_
  refine g_lstore (l1 := [(8, aJ ((sNu S (b.toNat)).1)), (6, aJ ((sNu S (a.toNat)).2)), (4, aJ ((sNu S (a.toNat)).1)), (0, aO (some o)), (1, aI 8), (2, aI a), (3, aI b)]) rfl rfl ?_
  refine g_aload_n rfl rfl ?_
  refine g_getR rfl ms.1 (mr_lower ms) ?_
  refine g_iload_n rfl rfl ?_
  refine g_lald (i := b.toNat) rfl (mt_lower ms) (by omega) (by omega) ?_
  refine g_top (v2 := aJ ((sNu S (b.toNat)).2)) (congrArg aJ (by exact (mn2.2 _ (by omega)).2)) ?_
  refine g_lstore (l1 := [(10, aJ ((sNu S (b.toNat)).2)), (8, aJ ((sNu S (b.toNat)).1)), (6, aJ ((sNu S (a.toNat)).2)), (4, aJ ((sNu S (a.toNat)).1)), (0, aO (some o)), (1, aI 8), (2, aI a), (3, aI b)]) rfl rfl ?_
  refine g_lload rfl rfl ?_
  refine g_lload rfl rfl ?_
  refine g_lmul rfl (by omega) (by omega) ?_
  refine g_lload rfl rfl ?_
  refine g_lload rfl rfl ?_
  refine g_lmul rfl (by omega) (by omega) ?_
  refine g_lc_ge rfl rfl (fun c77 => ?_) (fun c77 => ?_)
  · skip
    refine g_iconst rfl ?_
    refine g_istore (l1 := [(12, aI 0), (10, aJ ((sNu S (b.toNat)).2)), (8, aJ ((sNu S (b.toNat)).1)), (6, aJ ((sNu S (a.toNat)).2)), (4, aJ ((sNu S (a.toNat)).1)), (0, aO (some o)), (1, aI 8), (2, aI a), (3, aI b)]) rfl rfl ?_
    refine g_iconst rfl ?_
    refine g_istore (l1 := [(13, aI 1), (12, aI 0), (10, aJ ((sNu S (b.toNat)).2)), (8, aJ ((sNu S (b.toNat)).1)), (6, aJ ((sNu S (a.toNat)).2)), (4, aJ ((sNu S (a.toNat)).1)), (0, aO (some o)), (1, aI 8), (2, aI a), (3, aI b)]) rfl rfl ?_
    refine g_iload_n rfl rfl ?_
    refine g_tsw (t := 381) rfl (by rfl) ?_
    refine g_aload_n rfl rfl ?_
    refine g_lload rfl rfl ?_
    refine g_lconst0 rfl ?_
    refine g_lc_ge rfl rfl (fun c385 => ?_) (fun c385 => ?_)
    · skip
      refine g_lload rfl rfl ?_
      refine g_putJ rfl ms.1 ?_
      refine g_aload_n rfl rfl ?_
      refine g_lload rfl rfl ?_
      refine g_putJ rfl ms.1 ?_
      refine g_goto rfl ?_
      refine g_aload_n rfl rfl ?_
      refine g_iload rfl rfl ?_
      refine g_callVI [aI 1] [] rfl rfl rfl rfl (Nat.le_of_ble_eq_true rfl) ms.1 (m_keepN (by omega) ms ((vset (vset ((((vset V o 31 0)))) o 5 ((sNu S (a.toNat)).1)) o 6 ((sNu S (a.toNat)).2))) ((mn2.own (i := 5) (by decide) _).own (i := 6) (by decide) _) ok (((sNu S a.toNat).1.natAbs : Int), (sNu S a.toNat).2) (by first | (rw [vset_ne _ _ _ _ (by omega), vset_eq]; done) | (rw [vset_ne _ _ _ _ (by omega), vset_eq]; show _ = _; omega)) (by rw [vset_eq]) _ (by rw [if_pos (NuOk.small (abs_ok (ok.2 a.toNat (by omega))))])) ?_
      rintro _ _ ⟨W4, rfl, hx, hf, rfl⟩
      refine g_iret rfl ?_
      have eS : spC S 8 (sNu S a.toNat) (sNu S b.toNat) = keepN S (((sNu S a.toNat).1.natAbs : Int), (sNu S a.toNat).2) := by
        rfl
      rw [eS]
      exact ⟨_, rfl, hx, FM.own3 hf, rfl⟩
    · skip
      refine g_lload rfl rfl ?_
      refine g_lneg2 rfl (by omega) (by omega) ?_
      refine g_goto rfl ?_
      refine g_putJ rfl ms.1 ?_
      refine g_aload_n rfl rfl ?_
      refine g_lload rfl rfl ?_
      refine g_putJ rfl ms.1 ?_
      refine g_goto rfl ?_
      refine g_aload_n rfl rfl ?_
      refine g_iload rfl rfl ?_
      refine g_callVI [aI 1] [] rfl rfl rfl rfl (Nat.le_of_ble_eq_true rfl) ms.1 (m_keepN (by omega) ms ((vset (vset ((((vset V o 31 0)))) o 5 (-((sNu S (a.toNat)).1))) o 6 ((sNu S (a.toNat)).2))) ((mn2.own (i := 5) (by decide) _).own (i := 6) (by decide) _) ok (((sNu S a.toNat).1.natAbs : Int), (sNu S a.toNat).2) (by first | (rw [vset_ne _ _ _ _ (by omega), vset_eq]; done) | (rw [vset_ne _ _ _ _ (by omega), vset_eq]; show _ = _; omega)) (by rw [vset_eq]) _ (by rw [if_pos (NuOk.small (abs_ok (ok.2 a.toNat (by omega))))])) ?_
      rintro _ _ ⟨W5, rfl, hx, hf, rfl⟩
      refine g_iret rfl ?_
      have eS : spC S 8 (sNu S a.toNat) (sNu S b.toNat) = keepN S (((sNu S a.toNat).1.natAbs : Int), (sNu S a.toNat).2) := by
        rfl
      rw [eS]
      exact ⟨_, rfl, hx, FM.own3 hf, rfl⟩
  · skip
    refine g_iconst rfl ?_
    refine g_goto rfl ?_
    refine g_istore (l1 := [(12, aI 1), (10, aJ ((sNu S (b.toNat)).2)), (8, aJ ((sNu S (b.toNat)).1)), (6, aJ ((sNu S (a.toNat)).2)), (4, aJ ((sNu S (a.toNat)).1)), (0, aO (some o)), (1, aI 8), (2, aI a), (3, aI b)]) rfl rfl ?_
    refine g_iconst rfl ?_
    refine g_istore (l1 := [(13, aI 1), (12, aI 1), (10, aJ ((sNu S (b.toNat)).2)), (8, aJ ((sNu S (b.toNat)).1)), (6, aJ ((sNu S (a.toNat)).2)), (4, aJ ((sNu S (a.toNat)).1)), (0, aO (some o)), (1, aI 8), (2, aI a), (3, aI b)]) rfl rfl ?_
    refine g_iload_n rfl rfl ?_
    refine g_tsw (t := 381) rfl (by rfl) ?_
    refine g_aload_n rfl rfl ?_
    refine g_lload rfl rfl ?_
    refine g_lconst0 rfl ?_
    refine g_lc_ge rfl rfl (fun c385 => ?_) (fun c385 => ?_)
    · skip
      refine g_lload rfl rfl ?_
      refine g_putJ rfl ms.1 ?_
      refine g_aload_n rfl rfl ?_
      refine g_lload rfl rfl ?_
      refine g_putJ rfl ms.1 ?_
      refine g_goto rfl ?_
      refine g_aload_n rfl rfl ?_
      refine g_iload rfl rfl ?_
      refine g_callVI [aI 1] [] rfl rfl rfl rfl (Nat.le_of_ble_eq_true rfl) ms.1 (m_keepN (by omega) ms ((vset (vset ((((vset V o 31 0)))) o 5 ((sNu S (a.toNat)).1)) o 6 ((sNu S (a.toNat)).2))) ((mn2.own (i := 5) (by decide) _).own (i := 6) (by decide) _) ok (((sNu S a.toNat).1.natAbs : Int), (sNu S a.toNat).2) (by first | (rw [vset_ne _ _ _ _ (by omega), vset_eq]; done) | (rw [vset_ne _ _ _ _ (by omega), vset_eq]; show _ = _; omega)) (by rw [vset_eq]) _ (by rw [if_pos (NuOk.small (abs_ok (ok.2 a.toNat (by omega))))])) ?_
      rintro _ _ ⟨W6, rfl, hx, hf, rfl⟩
      refine g_iret rfl ?_
      have eS : spC S 8 (sNu S a.toNat) (sNu S b.toNat) = keepN S (((sNu S a.toNat).1.natAbs : Int), (sNu S a.toNat).2) := by
        rfl
      rw [eS]
      exact ⟨_, rfl, hx, FM.own3 hf, rfl⟩
    · skip
      refine g_lload rfl rfl ?_
      refine g_lneg2 rfl (by omega) (by omega) ?_
      refine g_goto rfl ?_
      refine g_putJ rfl ms.1 ?_
      refine g_aload_n rfl rfl ?_
      refine g_lload rfl rfl ?_
      refine g_putJ rfl ms.1 ?_
      refine g_goto rfl ?_
      refine g_aload_n rfl rfl ?_
      refine g_iload rfl rfl ?_
      refine g_callVI [aI 1] [] rfl rfl rfl rfl (Nat.le_of_ble_eq_true rfl) ms.1 (m_keepN (by omega) ms ((vset (vset ((((vset V o 31 0)))) o 5 (-((sNu S (a.toNat)).1))) o 6 ((sNu S (a.toNat)).2))) ((mn2.own (i := 5) (by decide) _).own (i := 6) (by decide) _) ok (((sNu S a.toNat).1.natAbs : Int), (sNu S a.toNat).2) (by first | (rw [vset_ne _ _ _ _ (by omega), vset_eq]; done) | (rw [vset_ne _ _ _ _ (by omega), vset_eq]; show _ = _; omega)) (by rw [vset_eq]) _ (by rw [if_pos (NuOk.small (abs_ok (ok.2 a.toNat (by omega))))])) ?_
      rintro _ _ ⟨W7, rfl, hx, hf, rfl⟩
      refine g_iret rfl ?_
      have eS : spC S 8 (sNu S a.toNat) (sNu S b.toNat) = keepN S (((sNu S a.toNat).1.natAbs : Int), (sNu S a.toNat).2) := by
        rfl
      rw [eS]
      exact ⟨_, rfl, hx, FM.own3 hf, rfl⟩
set_option maxRecDepth 100000 in
theorem m_apply9L {w : aW} {d : Nat} (hd : 3 ≤ d) {h : aH} {o : Nat} (ms : MS h o) (V : Nat → Nat → Int) {S : aS} (mn : MN V o S) (ok : OkN S) (a b : Int) (ha : 0 ≤ a ∧ a < sN S) (hb : 0 ≤ b ∧ b < sN S) (hl : (sNu S a.toNat).1 * (sNu S b.toNat).2 < (sNu S b.toNat).1 * (sNu S a.toNat).2) : WP w d 275 [aO (some o), aI 9, aI a, aI b] (hw h V) (RI (fun r h1 => ∃ V1, h1 = hw h V1 ∧ MN V1 o (spC S 9 (sNu S a.toNat) (sNu S b.toNat)).2 ∧ FM V V1 o ∧ r = (spC S 9 (sNu S a.toNat) (sNu S b.toNat)).1)) := by
  obtain ⟨d, rfl⟩ : ∃ d1, d = d1 + 1 := ⟨d - 1, by omega⟩
  refine WP.enter (cd := cd_X12_apply) rfl ?_
  have mn2 := mn.own (i := 31) (by decide) 0
  have hn2 := ok.1
  have hp := ok.at ha
  have hq := ok.at hb
  have m0 := mulB (x := (sNu S a.toNat).1) (y := (sNu S b.toNat).2) (by omega) (by omega) (by omega) (by omega)
  have m1 := mulB (x := (sNu S b.toNat).1) (y := (sNu S a.toNat).2) (by omega) (by omega) (by omega) (by omega)
  have m2 := mulB (x := (sNu S a.toNat).2) (y := (sNu S b.toNat).2) (by omega) (by omega) (by omega) (by omega)
  have m3 := mulB (x := (sNu S a.toNat).1) (y := (sNu S b.toNat).1) (by omega) (by omega) (by omega) (by omega)
  have m4 := mulB (x := (sNu S a.toNat).2) (y := (sNu S b.toNat).1) (by omega) (by omega) (by omega) (by omega)
  have hls : largs 0 [aO (some o), aI 9, aI a, aI b] = [(0, aO (some o)), (1, aI 9), (2, aI a), (3, aI b)] := rfl
  rw [hls]
  clear hls
  refine g_aload_n rfl rfl ?_
  refine g_iconst rfl ?_
  refine g_putI rfl ms.1 ?_
  refine g_iload_n rfl rfl ?_
  refine g_i2l rfl ?_
  refine g_lconst0 rfl ?_
  refine g_ldc2 rfl ?_
  refine g_callSI [aJ 9, aJ 0, aJ 9] [] rfl rfl rfl rfl (Nat.le_of_ble_eq_true rfl) (c_in (by omega) 9 0 9 _) ?_
  rintro _ _ ⟨rfl, rfl⟩
  refine g_if_eq_f rfl (by decide) ?_
  refine g_aload_n rfl rfl ?_
  refine g_iload_n rfl rfl ?_
  refine g_callVI [aI a] [] rfl rfl rfl rfl (Nat.le_of_ble_eq_true rfl) ms.1 (m_isN (by omega) ms (((vset V o 31 0))) mn2 ok a) ?_
  rintro _ _ ⟨rfl, rfl⟩
  refine g_if_eq_f rfl (by rw [if_pos ha]; decide) ?_
  refine g_aload_n rfl rfl ?_
  refine g_iload_n rfl rfl ?_
  refine g_callVI [aI b] [] rfl rfl rfl rfl (Nat.le_of_ble_eq_true rfl) ms.1 (m_isN (by omega) ms ((((vset V o 31 0)))) mn2 ok b) ?_
  rintro _ _ ⟨rfl, rfl⟩
  refine g_if_ne_t rfl (by rw [if_pos hb]; decide) ?_
  refine g_aload_n rfl rfl ?_
  refine g_getR rfl ms.1 (mr_upper ms) ?_
  refine g_iload_n rfl rfl ?_
  refine g_lald (i := a.toNat) rfl (mt_upper ms) (by omega) (by omega) ?_
  refine g_top (v2 := aJ ((sNu S (a.toNat)).1)) (congrArg aJ (by exact (mn2.2 _ (by omega)).1)) ?_
  refine g_lstore (l1 := [(4, aJ ((sNu S (a.toNat)).1)), (0, aO (some o)), (1, aI 9), (2, aI a), (3, aI b)]) rfl rfl ?_
  refine g_aload_n rfl rfl ?_
  refine g_getR rfl ms.1 (mr_lower ms) ?_
  refine g_iload_n rfl rfl ?_
  refine g_lald (i := a.toNat) rfl (mt_lower ms) (by omega) (by omega) ?_
  refine g_top (v2 := aJ ((sNu S (a.toNat)).2)) (congrArg aJ (by exact (mn2.2 _ (by omega)).2)) ?_
  refine g_lstore (l1 := [(6, aJ ((sNu S (a.toNat)).2)), (4, aJ ((sNu S (a.toNat)).1)), (0, aO (some o)), (1, aI 9), (2, aI a), (3, aI b)]) rfl rfl ?_
  refine g_aload_n rfl rfl ?_
  refine g_getR rfl ms.1 (mr_upper ms) ?_
  refine g_iload_n rfl rfl ?_
  refine g_lald (i := b.toNat) rfl (mt_upper ms) (by omega) (by omega) ?_
  refine g_top (v2 := aJ ((sNu S (b.toNat)).1)) (congrArg aJ (by exact (mn2.2 _ (by omega)).1)) ?_
  refine g_lstore (l1 := [(8, aJ ((sNu S (b.toNat)).1)), (6, aJ ((sNu S (a.toNat)).2)), (4, aJ ((sNu S (a.toNat)).1)), (0, aO (some o)), (1, aI 9), (2, aI a), (3, aI b)]) rfl rfl ?_
  refine g_aload_n rfl rfl ?_
  refine g_getR rfl ms.1 (mr_lower ms) ?_
  refine g_iload_n rfl rfl ?_
  refine g_lald (i := b.toNat) rfl (mt_lower ms) (by omega) (by omega) ?_
  refine g_top (v2 := aJ ((sNu S (b.toNat)).2)) (congrArg aJ (by exact (mn2.2 _ (by omega)).2)) ?_
  refine g_lstore (l1 := [(10, aJ ((sNu S (b.toNat)).2)), (8, aJ ((sNu S (b.toNat)).1)), (6, aJ ((sNu S (a.toNat)).2)), (4, aJ ((sNu S (a.toNat)).1)), (0, aO (some o)), (1, aI 9), (2, aI a), (3, aI b)]) rfl rfl ?_
  refine g_lload rfl rfl ?_
  refine g_lload rfl rfl ?_
  refine g_lmul rfl (by omega) (by omega) ?_
  refine g_lload rfl rfl ?_
  refine g_lload rfl rfl ?_
  refine g_lmul rfl (by omega) (by omega) ?_
  refine g_lc_ge_f rfl rfl (by omega) ?_
  refine g_iconst rfl ?_
  refine g_goto rfl ?_
  refine g_istore (l1 := [(12, aI 1), (10, aJ ((sNu S (b.toNat)).2)), (8, aJ ((sNu S (b.toNat)).1)), (6, aJ ((sNu S (a.toNat)).2)), (4, aJ ((sNu S (a.toNat)).1)), (0, aO (some o)), (1, aI 9), (2, aI a), (3, aI b)]) rfl rfl ?_
  refine g_iconst rfl ?_
  refine g_istore (l1 := [(13, aI 1), (12, aI 1), (10, aJ ((sNu S (b.toNat)).2)), (8, aJ ((sNu S (b.toNat)).1)), (6, aJ ((sNu S (a.toNat)).2)), (4, aJ ((sNu S (a.toNat)).1)), (0, aO (some o)), (1, aI 9), (2, aI a), (3, aI b)]) rfl rfl ?_
  refine g_iload_n rfl rfl ?_
  refine g_tsw_out (t := 409) rfl (by omega) rfl ?_
  refine g_aload_n rfl rfl ?_
  refine g_iload rfl rfl ?_
  refine g_if_eq_f rfl (by omega) ?_
  refine g_lload rfl rfl ?_
  refine g_goto rfl ?_
  refine g_iload rfl rfl ?_
  refine g_if_eq_f rfl (by omega) ?_
  refine g_lload rfl rfl ?_
  refine g_goto rfl ?_
  refine g_iload rfl rfl ?_
  refine g_if_eq_f rfl (by omega) ?_
  refine g_lload rfl rfl ?_
  refine g_goto rfl ?_
  refine g_iload rfl rfl ?_
  refine g_if_eq_f rfl (by omega) ?_
  refine g_lload rfl rfl ?_
  refine g_goto rfl ?_
  refine g_callVN [aJ ((sNu S (a.toNat)).1), aJ ((sNu S (a.toNat)).2), aJ ((sNu S (b.toNat)).1), aJ ((sNu S (b.toNat)).2)] [] rfl rfl rfl rfl (Nat.le_of_ble_eq_true rfl) ms.1 (m_simplest (by omega) ms (((((vset V o 31 0))))) ((sNu S (a.toNat)).1) ((sNu S (a.toNat)).2) ((sNu S (b.toNat)).1) ((sNu S (b.toNat)).2) (by omega) (by omega) (by omega) (by omega) (by omega)) ?_
  rintro _ rfl
  refine g_aload_n rfl rfl ?_
  refine g_iload rfl rfl ?_
  refine g_callVI [aI 1] [] rfl rfl rfl rfl (Nat.le_of_ble_eq_true rfl) ms.1 (m_keepN (by omega) ms ((vset (vset (((((vset V o 31 0))))) o 5 (smpF (((sNu S (a.toNat)).1), ((sNu S (a.toNat)).2)) (((sNu S (b.toNat)).1), ((sNu S (b.toNat)).2))).1) o 6 (smpF (((sNu S (a.toNat)).1), ((sNu S (a.toNat)).2)) (((sNu S (b.toNat)).1), ((sNu S (b.toNat)).2))).2)) ((mn2.own (i := 5) (by decide) _).own (i := 6) (by decide) _) ok (smpF (sNu S a.toNat) (sNu S b.toNat)) (by first | (rw [vset_ne _ _ _ _ (by omega), vset_eq]; done) | (rw [vset_ne _ _ _ _ (by omega), vset_eq]; show _ = _; omega)) (by rw [vset_eq]) _ (by rw [if_pos (NuOk.small (smpF_ok (ok.2 a.toNat (by omega)) (ok.2 b.toNat (by omega)) (by omega)))])) ?_
  rintro _ _ ⟨W5, rfl, hx, hf, rfl⟩
  refine g_iret rfl ?_
  have eS : spC S 9 (sNu S a.toNat) (sNu S b.toNat) = keepN S (smpF (sNu S a.toNat) (sNu S b.toNat)) := by
    show keepN S (if ordF (sNu S a.toNat) (sNu S b.toNat) ≤ 0 then _ else _) = _
    rw [if_pos (by rw [ordL hl]; decide)]
  rw [eS]
  exact ⟨_, rfl, hx, FM.own3 hf, rfl⟩
set_option maxRecDepth 100000 in
theorem m_apply9N {w : aW} {d : Nat} (hd : 3 ≤ d) {h : aH} {o : Nat} (ms : MS h o) (V : Nat → Nat → Int) {S : aS} (mn : MN V o S) (ok : OkN S) (a b : Int) (ha : 0 ≤ a ∧ a < sN S) (hb : 0 ≤ b ∧ b < sN S) (hl : ¬ (sNu S a.toNat).1 * (sNu S b.toNat).2 < (sNu S b.toNat).1 * (sNu S a.toNat).2) : WP w d 275 [aO (some o), aI 9, aI a, aI b] (hw h V) (RI (fun r h1 => ∃ V1, h1 = hw h V1 ∧ MN V1 o (spC S 9 (sNu S a.toNat) (sNu S b.toNat)).2 ∧ FM V V1 o ∧ r = (spC S 9 (sNu S a.toNat) (sNu S b.toNat)).1)) := by
  obtain ⟨d, rfl⟩ : ∃ d1, d = d1 + 1 := ⟨d - 1, by omega⟩
  refine WP.enter (cd := cd_X12_apply) rfl ?_
  have mn2 := mn.own (i := 31) (by decide) 0
  have hn2 := ok.1
  have hp := ok.at ha
  have hq := ok.at hb
  have m0 := mulB (x := (sNu S a.toNat).1) (y := (sNu S b.toNat).2) (by omega) (by omega) (by omega) (by omega)
  have m1 := mulB (x := (sNu S b.toNat).1) (y := (sNu S a.toNat).2) (by omega) (by omega) (by omega) (by omega)
  have m2 := mulB (x := (sNu S a.toNat).2) (y := (sNu S b.toNat).2) (by omega) (by omega) (by omega) (by omega)
  have m3 := mulB (x := (sNu S a.toNat).1) (y := (sNu S b.toNat).1) (by omega) (by omega) (by omega) (by omega)
  have m4 := mulB (x := (sNu S a.toNat).2) (y := (sNu S b.toNat).1) (by omega) (by omega) (by omega) (by omega)
  have hls : largs 0 [aO (some o), aI 9, aI a, aI b] = [(0, aO (some o)), (1, aI 9), (2, aI a), (3, aI b)] := rfl
  rw [hls]
  clear hls
  refine g_aload_n rfl rfl ?_
  refine g_iconst rfl ?_
  refine g_putI rfl ms.1 ?_
  refine g_iload_n rfl rfl ?_
  refine g_i2l rfl ?_
  refine g_lconst0 rfl ?_
  refine g_ldc2 rfl ?_
  refine g_callSI [aJ 9, aJ 0, aJ 9] [] rfl rfl rfl rfl (Nat.le_of_ble_eq_true rfl) (c_in (by omega) 9 0 9 _) ?_
  rintro _ _ ⟨rfl, rfl⟩
  refine g_if_eq_f rfl (by decide) ?_
  refine g_aload_n rfl rfl ?_
  refine g_iload_n rfl rfl ?_
  refine g_callVI [aI a] [] rfl rfl rfl rfl (Nat.le_of_ble_eq_true rfl) ms.1 (m_isN (by omega) ms (((vset V o 31 0))) mn2 ok a) ?_
  rintro _ _ ⟨rfl, rfl⟩
  refine g_if_eq_f rfl (by rw [if_pos ha]; decide) ?_
  refine g_aload_n rfl rfl ?_
  refine g_iload_n rfl rfl ?_
  refine g_callVI [aI b] [] rfl rfl rfl rfl (Nat.le_of_ble_eq_true rfl) ms.1 (m_isN (by omega) ms ((((vset V o 31 0)))) mn2 ok b) ?_
  rintro _ _ ⟨rfl, rfl⟩
  refine g_if_ne_t rfl (by rw [if_pos hb]; decide) ?_
  refine g_aload_n rfl rfl ?_
  refine g_getR rfl ms.1 (mr_upper ms) ?_
  refine g_iload_n rfl rfl ?_
  refine g_lald (i := a.toNat) rfl (mt_upper ms) (by omega) (by omega) ?_
  refine g_top (v2 := aJ ((sNu S (a.toNat)).1)) (congrArg aJ (by exact (mn2.2 _ (by omega)).1)) ?_
  refine g_lstore (l1 := [(4, aJ ((sNu S (a.toNat)).1)), (0, aO (some o)), (1, aI 9), (2, aI a), (3, aI b)]) rfl rfl ?_
  refine g_aload_n rfl rfl ?_
  refine g_getR rfl ms.1 (mr_lower ms) ?_
  refine g_iload_n rfl rfl ?_
  refine g_lald (i := a.toNat) rfl (mt_lower ms) (by omega) (by omega) ?_
  refine g_top (v2 := aJ ((sNu S (a.toNat)).2)) (congrArg aJ (by exact (mn2.2 _ (by omega)).2)) ?_
  refine g_lstore (l1 := [(6, aJ ((sNu S (a.toNat)).2)), (4, aJ ((sNu S (a.toNat)).1)), (0, aO (some o)), (1, aI 9), (2, aI a), (3, aI b)]) rfl rfl ?_
  refine g_aload_n rfl rfl ?_
  refine g_getR rfl ms.1 (mr_upper ms) ?_
  refine g_iload_n rfl rfl ?_
  refine g_lald (i := b.toNat) rfl (mt_upper ms) (by omega) (by omega) ?_
  refine g_top (v2 := aJ ((sNu S (b.toNat)).1)) (congrArg aJ (by exact (mn2.2 _ (by omega)).1)) ?_
  refine g_lstore (l1 := [(8, aJ ((sNu S (b.toNat)).1)), (6, aJ ((sNu S (a.toNat)).2)), (4, aJ ((sNu S (a.toNat)).1)), (0, aO (some o)), (1, aI 9), (2, aI a), (3, aI b)]) rfl rfl ?_
  refine g_aload_n rfl rfl ?_
  refine g_getR rfl ms.1 (mr_lower ms) ?_
  refine g_iload_n rfl rfl ?_
  refine g_lald (i := b.toNat) rfl (mt_lower ms) (by omega) (by omega) ?_
  refine g_top (v2 := aJ ((sNu S (b.toNat)).2)) (congrArg aJ (by exact (mn2.2 _ (by omega)).2)) ?_
  refine g_lstore (l1 := [(10, aJ ((sNu S (b.toNat)).2)), (8, aJ ((sNu S (b.toNat)).1)), (6, aJ ((sNu S (a.toNat)).2)), (4, aJ ((sNu S (a.toNat)).1)), (0, aO (some o)), (1, aI 9), (2, aI a), (3, aI b)]) rfl rfl ?_
  refine g_lload rfl rfl ?_
  refine g_lload rfl rfl ?_
  refine g_lmul rfl (by omega) (by omega) ?_
  refine g_lload rfl rfl ?_
  refine g_lload rfl rfl ?_
  refine g_lmul rfl (by omega) (by omega) ?_
  refine g_lc_ge_t rfl rfl (by omega) ?_
  refine g_iconst rfl ?_
  refine g_istore (l1 := [(12, aI 0), (10, aJ ((sNu S (b.toNat)).2)), (8, aJ ((sNu S (b.toNat)).1)), (6, aJ ((sNu S (a.toNat)).2)), (4, aJ ((sNu S (a.toNat)).1)), (0, aO (some o)), (1, aI 9), (2, aI a), (3, aI b)]) rfl rfl ?_
  refine g_iconst rfl ?_
  refine g_istore (l1 := [(13, aI 1), (12, aI 0), (10, aJ ((sNu S (b.toNat)).2)), (8, aJ ((sNu S (b.toNat)).1)), (6, aJ ((sNu S (a.toNat)).2)), (4, aJ ((sNu S (a.toNat)).1)), (0, aO (some o)), (1, aI 9), (2, aI a), (3, aI b)]) rfl rfl ?_
  refine g_iload_n rfl rfl ?_
  refine g_tsw_out (t := 409) rfl (by omega) rfl ?_
  refine g_aload_n rfl rfl ?_
  refine g_iload rfl rfl ?_
  refine g_if_eq_t rfl (by omega) ?_
  refine g_lload rfl rfl ?_
  refine g_iload rfl rfl ?_
  refine g_if_eq_t rfl (by omega) ?_
  refine g_lload rfl rfl ?_
  refine g_iload rfl rfl ?_
  refine g_if_eq_t rfl (by omega) ?_
  refine g_lload rfl rfl ?_
  refine g_iload rfl rfl ?_
  refine g_if_eq_t rfl (by omega) ?_
  refine g_lload rfl rfl ?_
  refine g_callVN [aJ ((sNu S (b.toNat)).1), aJ ((sNu S (b.toNat)).2), aJ ((sNu S (a.toNat)).1), aJ ((sNu S (a.toNat)).2)] [] rfl rfl rfl rfl (Nat.le_of_ble_eq_true rfl) ms.1 (m_simplest (by omega) ms (((((vset V o 31 0))))) ((sNu S (b.toNat)).1) ((sNu S (b.toNat)).2) ((sNu S (a.toNat)).1) ((sNu S (a.toNat)).2) (by omega) (by omega) (by omega) (by omega) (by omega)) ?_
  rintro _ rfl
  refine g_aload_n rfl rfl ?_
  refine g_iload rfl rfl ?_
  refine g_callVI [aI 1] [] rfl rfl rfl rfl (Nat.le_of_ble_eq_true rfl) ms.1 (m_keepN (by omega) ms ((vset (vset (((((vset V o 31 0))))) o 5 (smpF (((sNu S (b.toNat)).1), ((sNu S (b.toNat)).2)) (((sNu S (a.toNat)).1), ((sNu S (a.toNat)).2))).1) o 6 (smpF (((sNu S (b.toNat)).1), ((sNu S (b.toNat)).2)) (((sNu S (a.toNat)).1), ((sNu S (a.toNat)).2))).2)) ((mn2.own (i := 5) (by decide) _).own (i := 6) (by decide) _) ok (smpF (sNu S b.toNat) (sNu S a.toNat)) (by first | (rw [vset_ne _ _ _ _ (by omega), vset_eq]; done) | (rw [vset_ne _ _ _ _ (by omega), vset_eq]; show _ = _; omega)) (by rw [vset_eq]) _ (by rw [if_pos (NuOk.small (smpF_ok (ok.2 b.toNat (by omega)) (ok.2 a.toNat (by omega)) (by omega)))])) ?_
  rintro _ _ ⟨W5, rfl, hx, hf, rfl⟩
  refine g_iret rfl ?_
  have eS : spC S 9 (sNu S a.toNat) (sNu S b.toNat) = keepN S (smpF (sNu S b.toNat) (sNu S a.toNat)) := by
    show keepN S (if ordF (sNu S a.toNat) (sNu S b.toNat) ≤ 0 then _ else _) = _
    by_cases u : ordF (sNu S a.toNat) (sNu S b.toNat) ≤ 0
    · rw [if_pos u, eqN (ok.2 a.toNat (by omega)) (ok.2 b.toNat (by omega)) ((ordN hl).2 u)]
    · rw [if_neg u]
  rw [eS]
  exact ⟨_, rfl, hx, FM.own3 hf, rfl⟩
