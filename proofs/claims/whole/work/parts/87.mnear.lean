/-! the reference's near and fraction, by the picture -/
theorem m_near {w : aW} {d : Nat} (hd : 3 ≤ d) {h : aH} {o : Nat} (ms : MS h o) (V : Nat → Nat → Int) {S : aS} (mn : MN V o S) (ok : OkN S) (a : Int) : WP w d 279 [aO (some o), aI a] (hw h V) (fun r h1 => h1 = hw h (vset V o 31 0) ∧ r = some (aD (nearF S a))) := by
  obtain ⟨d, rfl⟩ : ∃ d1, d = d1 + 1 := ⟨d - 1, by omega⟩
  refine WP.enter (cd := cd_X12_near) rfl ?_
  have mn2 := mn.own (i := 31) (by decide) 0
  have hn2 := ok.1
  have hls : largs 0 [aO (some o), aI a] = [(0, aO (some o)), (1, aI a)] := rfl
  rw [hls]
  clear hls
  refine g_aload_n rfl rfl ?_
  refine g_iconst rfl ?_
  refine g_putI rfl ms.1 ?_
  refine g_aload_n rfl rfl ?_
  refine g_iload_n rfl rfl ?_
  refine g_callVI [aI a] [] rfl rfl rfl rfl (Nat.le_of_ble_eq_true rfl) ms.1 (m_isN (by omega) ms ((vset V o 31 0)) mn2 ok a) ?_
  rintro _ _ ⟨rfl, rfl⟩
  refine g_b_eq rfl (fun c10 => ?_) (fun c10 => ?_)
  · refine g_dconst rfl ?_
    refine g_dret rfl ?_
    refine ⟨rfl, ?_⟩
    unfold nearF
    rw [if_neg c10]
  · refine g_aload_n rfl rfl ?_
    refine g_getR rfl ms.1 (mr_upper ms) ?_
    refine g_iload_n rfl rfl ?_
    refine g_lald (i := a.toNat) rfl (mt_upper ms) (by omega) (by omega) ?_
    refine g_top (v2 := aJ ((sNu S (a.toNat)).1)) (congrArg aJ (by exact (mn2.2 _ (by omega)).1)) ?_
    refine g_l2d rfl ?_
    refine g_aload_n rfl rfl ?_
    refine g_getR rfl ms.1 (mr_lower ms) ?_
    refine g_iload_n rfl rfl ?_
    refine g_lald (i := a.toNat) rfl (mt_lower ms) (by omega) (by omega) ?_
    refine g_top (v2 := aJ ((sNu S (a.toNat)).2)) (congrArg aJ (by exact (mn2.2 _ (by omega)).2)) ?_
    refine g_l2d rfl ?_
    refine g_ddiv rfl (near_n64 (ok.2 _ (by omega))) ?_
    refine g_goto rfl ?_
    refine g_dret rfl ?_
    refine ⟨rfl, ?_⟩
    unfold nearF
    rw [if_pos c10]
theorem MN.fr {V V1 : Nat → Nat → Int} {o : Nat} {S : aS} (x : MN V o S) (h0 : V1 o 2 = V o 2) (h2 : V1 (o + 2) = V (o + 2)) (h3 : V1 (o + 3) = V (o + 3)) : MN V1 o S := by
  refine ⟨by rw [h0]; exact x.1, fun i hi => ?_⟩
  rw [h2, h3]
  exact x.2 i hi
theorem MN.add {V : Nat → Nat → Int} {o : Nat} {S : aS} (x : MN V o S) (p : Int × Int) (h5 : V o 5 = p.1) (h6 : V o 6 = p.2) : MN (mKeep o (sN S) V) o (addN S p) ∧ FM V (mKeep o (sN S) V) o := by
  unfold mKeep
  refine ⟨⟨by rw [vset_eq]; rfl, fun i hi => ?_⟩, fun a i h1 h2 h3 => ?_⟩
  · have hi : i < sN S + 1 := hi
    have e : sNu (addN S p) i = if i = sN S then p else sNu S i := rfl
    rw [e, h5, h6]
    rw [vset_ne _ _ _ _ (show ¬(o + 2 = o ∧ i = 2) by omega), vset_ne _ _ _ _ (show ¬(o + 2 = o + 3 ∧ i = sN S) by omega), vset_ne _ _ _ _ (show ¬(o + 3 = o ∧ i = 2) by omega)]
    by_cases u : i = sN S
    · rw [if_pos u, u, vset_eq, vset_eq]
      exact ⟨rfl, rfl⟩
    · rw [if_neg u, vset_ne _ _ _ _ (show ¬(o + 2 = o + 2 ∧ i = sN S) by omega), vset_ne _ _ _ _ (show ¬(o + 3 = o + 3 ∧ i = sN S) by omega), vset_ne _ _ _ _ (show ¬(o + 3 = o + 2 ∧ i = sN S) by omega)]
      exact x.2 i (by omega)
  · rw [vset_ne _ _ _ _ (show ¬(a = o ∧ i = 2) from fun u => h1 ⟨u.1, Or.inl u.2⟩), vset_ne _ _ _ _ (show ¬(a = o + 3 ∧ i = sN S) from fun u => h3 u.1), vset_ne _ _ _ _ (show ¬(a = o + 2 ∧ i = sN S) from fun u => h2 u.1)]
theorem m_fractionS {w : aW} {d : Nat} (hd : 3 ≤ d) {h : aH} {o : Nat} (ms : MS h o) (V : Nat → Nat → Int) {S : aS} (mn : MN V o S) (ok : OkN S) (n d1 : Int) (h0 : d1 ≠ 0) (hn : -9223372036854775808 ≤ n ∧ n < 9223372036854775808) (hd1 : -9223372036854775808 ≤ d1 ∧ d1 < 9223372036854775808) :
    WP w d 272 [aO (some o), aJ n, aJ d1] (hw h V) (RI (fun r h1 => ∃ V1, h1 = hw h V1 ∧ MN V1 o (spF S n d1).2 ∧ FM V V1 o ∧ V1 o 31 = 0 ∧ r = (spF S n d1).1)) := by
  refine (m_fraction hd ms V (sN S) mn.1 ok.1 n d1 hn hd1).imp ?_
  rintro _ h1 ⟨r, rfl, q⟩
  refine ⟨r, rfl, ?_⟩
  rw [if_neg h0] at q
  have f31 := FM.own V o (i := 31) (by omega) 0
  unfold spF
  by_cases hb : badF n d1 = true
  · have hb2 := (badF_iff n d1).mp hb
    rw [if_pos (by omega)] at q
    rw [if_pos hb]
    exact ⟨_, q.1, mn.own (by decide) _, f31, vset_eq .., q.2⟩
  · have hb2 : ¬(n = -9223372036854775808 ∨ d1 = -9223372036854775808 ∨ d1 = 0) := fun u => hb ((badF_iff n d1).mpr u)
    rw [if_neg (by omega)] at q
    rw [if_neg hb]
    have g := (f31.trans (FM.own (vset V o 31 0) o (i := 5) (by omega) (lowF n d1).1)).trans (FM.own (vset (vset V o 31 0) o 5 (lowF n d1).1) o (i := 6) (by omega) (lowF n d1).2)
    have m := ((mn.own (i := 31) (by decide) 0).own (i := 5) (by decide) (lowF n d1).1).own (i := 6) (by decide) (lowF n d1).2
    have e31 : vset (vset (vset V o 31 0) o 5 (lowF n d1).1) o 6 (lowF n d1).2 o 31 = 0 := by
      rw [vset_ne _ _ _ _ (by omega), vset_ne _ _ _ _ (by omega), vset_eq]
    unfold keepN
    by_cases hs : smallF (lowF n d1) = true ∧ sN S < 200
    · rw [if_pos hs] at q ⊢
      have ad := m.add (lowF n d1) (by rw [vset_ne _ _ _ _ (by omega), vset_eq]) (vset_eq ..)
      refine ⟨_, q.1, ad.1, g.trans ad.2, ?_, q.2⟩
      unfold mKeep
      rw [vset_ne _ _ _ _ (by omega), vset_ne _ _ _ _ (by omega), vset_ne _ _ _ _ (by omega)]
      exact e31
    · rw [if_neg hs] at q ⊢
      exact ⟨_, q.1, m, g, e31, q.2⟩
