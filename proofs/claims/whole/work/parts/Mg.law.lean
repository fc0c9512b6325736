/-! the law's cases: printed by wip/whole/law_.py -/
theorem lor_r64 (x y : Int) : -9223372036854775808 ≤ lor x y ∧ lor x y < 9223372036854775808 := by
  have h1 := Int64.le_toInt (Int64.ofInt x ||| Int64.ofInt y)
  have h2 := Int64.toInt_lt (Int64.ofInt x ||| Int64.ofInt y)
  unfold lor
  omega
theorem LI.nextF {w : aW} {h0 : aH} {b L c n : Nat} {H H1 H2 : aH} {S S2 : aS} {v : Int} (li : LI w h0 b L c n H S) (x1 : IX w H1 c S2) (k1 : KX H H1 c) (m2 : IM H2 (c + 34) S2) (o2 : KO (hw H1 (vset (hV H1) (c + 66) 0 v)) H2 (c + 34)) (ok2 : OkS S2) : LI w h0 b L c (n + 1) H2 S2 := by
  have x2 := (x1.out v).ko o2
  obtain ⟨⟨x, m, ok⟩, ⟨t1, t2, hb⟩, hv, hz1, hs1⟩ := li
  have hcz := x.cz
  obtain ⟨V1, rfl, f⟩ := o2
  have kb := k1.b hb (by omega)
  obtain ⟨⟨k1a, k1b⟩, k2, k3, k4⟩ := k1
  refine ⟨⟨x2, m2, ok2⟩, ⟨?_, ?_, hb⟩, fun j => ?_, ?_, ?_⟩
  · show hT H1 (c + 66) = _
    rw [k3 _ (by omega)]
    exact t1
  · show hT H1 b = _
    rw [kb.1]
    exact t2
  · show V1 b j = _
    rw [f b (by omega)]
    show vset (hV H1) (c + 66) 0 v b j = _
    rw [vset_ne _ _ _ _ (by omega), kb.2 j]
    exact hv j
  · exact li_z k1b hz1
  · exact li_s k2 hs1
set_option maxRecDepth 100000 in
set_option maxHeartbeats 4000000 in
theorem lw_case0 {w : aW} {h0 H : aH} {b L c n : Nat} {S : aS} {Q : Option aV → aH → Prop} (li : LI w h0 b L c n H S) (hi : 6 * n + 6 ≤ L) (hL : L ≤ 3072) (hr : ∀ j, j < 6 → -2147483648 ≤ hV h0 b (6 * n + j) ∧ hV h0 b (6 * n + j) < 2147483648) (K : ∀ H2 S2, LI w h0 b L c (n + 1) H2 S2 → Wk w 1000 cd_L_law 1432 [(4, aI ((6 * n : Nat) : Int)), (3, aO (some (c + 66))), (2, aO (some (c + 34))), (1, aO (some c)), (0, aO (some b))] [] H2 Q) : Wk w 1000 cd_L_law 152 [(4, aI ((6 * n : Nat) : Int)), (3, aO (some (c + 66))), (2, aO (some (c + 34))), (1, aO (some c)), (0, aO (some b))] [] H Q := by
  obtain ⟨⟨x, m, ok⟩, ⟨t1, t2, hb⟩, hv, -, -⟩ := id li
  have hcz := x.cz
  have hu := lor_r64 (lshl (hV h0 b (6 * n + 1)) 32) (land (hV h0 b (6 * n + 2)) 4294967295)
  have hw1 := lor_r64 (lshl (hV h0 b (6 * n + 3)) 32) (land (hV h0 b (6 * n + 4)) 4294967295)
  refine g_aload_n rfl rfl ?_
  refine g_aload_n rfl rfl ?_
  refine g_iload rfl rfl ?_
  refine g_iconst rfl ?_
  refine g_iadd rfl (by omega) (by omega) ?_
  refine g_sald (i := 6 * n + 1) rfl t2 (by omega) (by omega) ?_
  refine g_top (v2 := aI (hV h0 b (6 * n + 1))) (congrArg aI (hv _)) ?_
  refine g_i2l rfl ?_
  refine g_bipush rfl ?_
  refine g_lshl rfl ?_
  refine g_aload_n rfl rfl ?_
  refine g_iload rfl rfl ?_
  refine g_iconst rfl ?_
  refine g_iadd rfl (by omega) (by omega) ?_
  refine g_sald (i := 6 * n + 2) rfl t2 (by omega) (by omega) ?_
  refine g_top (v2 := aI (hV h0 b (6 * n + 2))) (congrArg aI (hv _)) ?_
  refine g_i2l rfl ?_
  refine g_ldc2 rfl ?_
  refine g_land rfl ?_
  refine g_lor rfl ?_
  refine g_aload_n rfl rfl ?_
  refine g_iload rfl rfl ?_
  refine g_iconst rfl ?_
  refine g_iadd rfl (by omega) (by omega) ?_
  refine g_sald (i := 6 * n + 3) rfl t2 (by omega) (by omega) ?_
  refine g_top (v2 := aI (hV h0 b (6 * n + 3))) (congrArg aI (hv _)) ?_
  refine g_i2l rfl ?_
  refine g_bipush rfl ?_
  refine g_lshl rfl ?_
  refine g_aload_n rfl rfl ?_
  refine g_iload rfl rfl ?_
  refine g_iconst rfl ?_
  refine g_iadd rfl (by omega) (by omega) ?_
  refine g_sald (i := 6 * n + 4) rfl t2 (by omega) (by omega) ?_
  refine g_top (v2 := aI (hV h0 b (6 * n + 4))) (congrArg aI (hv _)) ?_
  refine g_i2l rfl ?_
  refine g_ldc2 rfl ?_
  refine g_land rfl ?_
  refine g_lor rfl ?_
  refine g_aload_n rfl rfl ?_
  generalize eu : lor (lshl (hV h0 b (6 * n + 1)) 32) (land (hV h0 b (6 * n + 2)) 4294967295) = u at hu ⊢
  generalize ev1 : lor (lshl (hV h0 b (6 * n + 3)) 32) (land (hV h0 b (6 * n + 4)) 4294967295) = v at hw1 ⊢
  by_cases hvz : v = 0
  · rw [hvz]
    refine g_callSI [aO (some c), aJ u, aJ 0, aO (some (c + 66))] [] rfl rfl rfl rfl (Nat.le_of_ble_eq_true rfl) (x_frac0 (by omega) x u) ?_
    rintro r1 H1 ⟨rfl, x1, k1⟩
    have im1 := m.kx k1 hcz
    have kb := k1.b hb (by omega)
    have tb1 : hT H1 b = (6, L) := by rw [kb.1]; exact t2
    have hb1 : ∀ j, hV H1 b j = hV h0 b j := fun j => by rw [kb.2 j]; exact hv j
    refine g_istore (l1 := [(5, aI 1), (4, aI ((6 * n : Nat) : Int)), (3, aO (some (c + 66))), (2, aO (some (c + 34))), (1, aO (some c)), (0, aO (some b))]) rfl rfl ?_
    refine g_aload_n rfl rfl ?_
    refine g_aload_n rfl rfl ?_
    refine g_iload rfl rfl ?_
    refine g_iconst rfl ?_
    refine g_iadd rfl (by omega) (by omega) ?_
    refine g_sald (i := 6 * n + 1) rfl tb1 (by omega) (by omega) ?_
    refine g_top (v2 := aI (hV h0 b (6 * n + 1))) (congrArg aI (hb1 _)) ?_
    refine g_i2l rfl ?_
    refine g_bipush rfl ?_
    refine g_lshl rfl ?_
    refine g_aload_n rfl rfl ?_
    refine g_iload rfl rfl ?_
    refine g_iconst rfl ?_
    refine g_iadd rfl (by omega) (by omega) ?_
    refine g_sald (i := 6 * n + 2) rfl tb1 (by omega) (by omega) ?_
    refine g_top (v2 := aI (hV h0 b (6 * n + 2))) (congrArg aI (hb1 _)) ?_
    refine g_i2l rfl ?_
    refine g_ldc2 rfl ?_
    refine g_land rfl ?_
    refine g_lor rfl ?_
    refine g_aload_n rfl rfl ?_
    refine g_iload rfl rfl ?_
    refine g_iconst rfl ?_
    refine g_iadd rfl (by omega) (by omega) ?_
    refine g_sald (i := 6 * n + 3) rfl tb1 (by omega) (by omega) ?_
    refine g_top (v2 := aI (hV h0 b (6 * n + 3))) (congrArg aI (hb1 _)) ?_
    refine g_i2l rfl ?_
    refine g_bipush rfl ?_
    refine g_lshl rfl ?_
    refine g_aload_n rfl rfl ?_
    refine g_iload rfl rfl ?_
    refine g_iconst rfl ?_
    refine g_iadd rfl (by omega) (by omega) ?_
    refine g_sald (i := 6 * n + 4) rfl tb1 (by omega) (by omega) ?_
    refine g_top (v2 := aI (hV h0 b (6 * n + 4))) (congrArg aI (hb1 _)) ?_
    refine g_i2l rfl ?_
    refine g_ldc2 rfl ?_
    refine g_land rfl ?_
    refine g_lor rfl ?_
    rw [eu, ev1]
    rw [hvz]
    refine g_callVI [aJ u, aJ 0] [] rfl rfl rfl rfl (Nat.le_of_ble_eq_true rfl) im1.1.1 (m_frac0 (by omega) im1 ok u hu) ?_
    rintro r2 H2 ⟨⟨m2, o2⟩, e31⟩
    refine g_istore (l1 := [(6, aI (r2)), (5, aI 1), (4, aI ((6 * n : Nat) : Int)), (3, aO (some (c + 66))), (2, aO (some (c + 34))), (1, aO (some c)), (0, aO (some b))]) rfl rfl ?_
    refine g_aload_n rfl rfl ?_
    refine g_callVI [] [] rfl rfl rfl rfl (Nat.le_of_ble_eq_true rfl) m2.1.1 (m_thr (by omega) m2.1) ?_
    rintro r3 H3 ⟨e3, e4⟩
    rw [e3, e4, e31]
    clear e3 e4
    refine g_iload rfl rfl ?_
    refine g_icmp_eq_t rfl rfl ?_
    refine g_iload rfl rfl ?_
    refine g_if_ne_t rfl (by decide) ?_
    refine g_goto rfl ?_
    exact g_ls [2, 3, 4, 5, 6] rfl rfl (K H2 _ (li.next x1 k1 m2 o2 ok))
  · skip
    refine g_callSI [aO (some c), aJ u, aJ v, aO (some (c + 66))] [] rfl rfl rfl rfl (Nat.le_of_ble_eq_true rfl) (x_frac1 (by omega) x ok u v hvz hu hw1 t1) ?_
    rintro r1 _ ⟨rfl, H1, ⟨x1, k1⟩, rfl⟩
    have im1 := m.kx k1 hcz
    have kb := k1.b hb (by omega)
    have tb1 : hT H1 b = (6, L) := by rw [kb.1]; exact t2
    have hb1 : ∀ j, hV H1 b j = hV h0 b j := fun j => by rw [kb.2 j]; exact hv j
    have x3 := x1.out (spF S u v).1
    have im3 := im1.out (spF S u v).1
    have tb3 : hT (hw H1 (vset (hV H1) (c + 66) 0 (spF S u v).1)) b = (6, L) := tb1
    have hb3 : ∀ j, hV (hw H1 (vset (hV H1) (c + 66) 0 (spF S u v).1)) b j = hV h0 b j := fun j => by
      show vset _ _ _ _ _ _ = _
      rw [vset_ne _ _ _ _ (by omega)]
      exact hb1 j
    refine g_istore (l1 := [(5, aI 0), (4, aI ((6 * n : Nat) : Int)), (3, aO (some (c + 66))), (2, aO (some (c + 34))), (1, aO (some c)), (0, aO (some b))]) rfl rfl ?_
    refine g_aload_n rfl rfl ?_
    refine g_aload_n rfl rfl ?_
    refine g_iload rfl rfl ?_
    refine g_iconst rfl ?_
    refine g_iadd rfl (by omega) (by omega) ?_
    refine g_sald (i := 6 * n + 1) rfl tb3 (by omega) (by omega) ?_
    refine g_top (v2 := aI (hV h0 b (6 * n + 1))) (congrArg aI (hb3 _)) ?_
    refine g_i2l rfl ?_
    refine g_bipush rfl ?_
    refine g_lshl rfl ?_
    refine g_aload_n rfl rfl ?_
    refine g_iload rfl rfl ?_
    refine g_iconst rfl ?_
    refine g_iadd rfl (by omega) (by omega) ?_
    refine g_sald (i := 6 * n + 2) rfl tb3 (by omega) (by omega) ?_
    refine g_top (v2 := aI (hV h0 b (6 * n + 2))) (congrArg aI (hb3 _)) ?_
    refine g_i2l rfl ?_
    refine g_ldc2 rfl ?_
    refine g_land rfl ?_
    refine g_lor rfl ?_
    refine g_aload_n rfl rfl ?_
    refine g_iload rfl rfl ?_
    refine g_iconst rfl ?_
    refine g_iadd rfl (by omega) (by omega) ?_
    refine g_sald (i := 6 * n + 3) rfl tb3 (by omega) (by omega) ?_
    refine g_top (v2 := aI (hV h0 b (6 * n + 3))) (congrArg aI (hb3 _)) ?_
    refine g_i2l rfl ?_
    refine g_bipush rfl ?_
    refine g_lshl rfl ?_
    refine g_aload_n rfl rfl ?_
    refine g_iload rfl rfl ?_
    refine g_iconst rfl ?_
    refine g_iadd rfl (by omega) (by omega) ?_
    refine g_sald (i := 6 * n + 4) rfl tb3 (by omega) (by omega) ?_
    refine g_top (v2 := aI (hV h0 b (6 * n + 4))) (congrArg aI (hb3 _)) ?_
    refine g_i2l rfl ?_
    refine g_ldc2 rfl ?_
    refine g_land rfl ?_
    refine g_lor rfl ?_
    rw [eu, ev1]
    refine g_callVI [aJ u, aJ v] [] rfl rfl rfl rfl (Nat.le_of_ble_eq_true rfl) im3.1.1 (m_frac1 (by omega) im3 ok u v hvz hu hw1) ?_
    rintro r2 H2 ⟨rfl, ⟨m2, o2⟩, e31⟩
    refine g_istore (l1 := [(6, aI ((spF S u v).1)), (5, aI 0), (4, aI ((6 * n : Nat) : Int)), (3, aO (some (c + 66))), (2, aO (some (c + 34))), (1, aO (some c)), (0, aO (some b))]) rfl rfl ?_
    refine g_aload_n rfl rfl ?_
    refine g_callVI [] [] rfl rfl rfl rfl (Nat.le_of_ble_eq_true rfl) m2.1.1 (m_thr (by omega) m2.1) ?_
    rintro r3 H3 ⟨e3, e4⟩
    rw [e3, e4, e31]
    clear e3 e4
    refine g_iload rfl rfl ?_
    refine g_icmp_eq_t rfl rfl ?_
    refine g_iload rfl rfl ?_
    refine g_if_ne_f rfl rfl ?_
    have t66 : hT H2 (c + 66) = (2, 1) ∧ hV H2 (c + 66) 0 = (spF S u v).1 := by
      obtain ⟨V1, rfl, f⟩ := o2
      refine ⟨?_, ?_⟩
      · show hT H1 (c + 66) = _
        rw [k1.2.2.1 _ (by omega)]
        exact t1
      · show V1 (c + 66) 0 = _
        rw [f _ (by omega)]
        exact vset_eq _ _ _ _
    refine g_aload_n rfl rfl ?_
    refine g_iconst rfl ?_
    refine g_lald (i := 0) (m := 1) rfl t66.1 rfl (by omega) ?_
    refine g_top (v2 := aJ (spF S u v).1) (congrArg aJ t66.2) ?_
    refine g_iload rfl rfl ?_
    refine g_i2l rfl ?_
    refine g_lc_eq_t rfl rfl rfl ?_
    refine g_goto rfl ?_
    exact g_ls [2, 3, 4, 5, 6] rfl rfl (K H2 _ (li.nextF x1 k1 m2 o2 (ok_frac ok u v)))
set_option maxRecDepth 100000 in
set_option maxHeartbeats 4000000 in
theorem lw_case4 {w : aW} {h0 H : aH} {b L c n : Nat} {S : aS} {Q : Option aV → aH → Prop} (li : LI w h0 b L c n H S) (hi : 6 * n + 6 ≤ L) (hL : L ≤ 3072) (hr : ∀ j, j < 6 → -2147483648 ≤ hV h0 b (6 * n + j) ∧ hV h0 b (6 * n + j) < 2147483648) (K : ∀ H2 S2, LI w h0 b L c (n + 1) H2 S2 → Wk w 1000 cd_L_law 1432 [(4, aI ((6 * n : Nat) : Int)), (3, aO (some (c + 66))), (2, aO (some (c + 34))), (1, aO (some c)), (0, aO (some b))] [] H2 Q) : Wk w 1000 cd_L_law 408 [(4, aI ((6 * n : Nat) : Int)), (3, aO (some (c + 66))), (2, aO (some (c + 34))), (1, aO (some c)), (0, aO (some b))] [] H Q := by
  obtain ⟨⟨x, m, ok⟩, ⟨t1, t2, hb⟩, hv, -, -⟩ := id li
  have hcz := x.cz
  refine g_aload_n rfl rfl ?_
  refine g_aload_n rfl rfl ?_
  refine g_iload rfl rfl ?_
  refine g_iconst rfl ?_
  refine g_iadd rfl (by omega) (by omega) ?_
  refine g_sald (i := 6 * n + 1) rfl t2 (by omega) (by omega) ?_
  refine g_top (v2 := aI (hV h0 b (6 * n + 1))) (congrArg aI (hv _)) ?_
  refine g_callV (as := [aI (hV h0 b (6 * n + 1))]) (s := []) rfl rfl rfl rfl (Nat.le_of_ble_eq_true rfl) (x.cs.kd 0 (by omega) rfl) (jx_near (by omega) x ok (hV h0 b (6 * n + 1))) ?_
  rintro _ H1 ⟨rfl, x1, k1⟩
  have im1 := m.kx k1 hcz
  have kb := k1.b hb (by omega)
  have tb1 : hT H1 b = (6, L) := by rw [kb.1]; exact t2
  have hb1 : ∀ j, hV H1 b j = hV h0 b j := fun j => by rw [kb.2 j]; exact hv j
  refine g_top (v1 := aD (nearF S (hV h0 b (6 * n + 1)))) rfl ?_
  refine g_dstore (l1 := [(5, aD (nearF S (hV h0 b (6 * n + 1)))), (4, aI ((6 * n : Nat) : Int)), (3, aO (some (c + 66))), (2, aO (some (c + 34))), (1, aO (some c)), (0, aO (some b))]) rfl rfl ?_
  refine g_aload_n rfl rfl ?_
  refine g_aload_n rfl rfl ?_
  refine g_iload rfl rfl ?_
  refine g_iconst rfl ?_
  refine g_iadd rfl (by omega) (by omega) ?_
  refine g_sald (i := 6 * n + 1) rfl tb1 (by omega) (by omega) ?_
  refine g_top (v2 := aI (hV h0 b (6 * n + 1))) (congrArg aI (hb1 _)) ?_
  refine g_callV (as := [aI (hV h0 b (6 * n + 1))]) (s := []) rfl rfl rfl rfl (Nat.le_of_ble_eq_true rfl) im1.1.1 (jm_near (by omega) im1 ok (hV h0 b (6 * n + 1))) ?_
  rintro _ H2 ⟨rfl, m2, o2⟩
  refine g_top (v1 := aD (nearF S (hV h0 b (6 * n + 1)))) rfl ?_
  refine g_dstore (l1 := [(7, aD (nearF S (hV h0 b (6 * n + 1)))), (5, aD (nearF S (hV h0 b (6 * n + 1)))), (4, aI ((6 * n : Nat) : Int)), (3, aO (some (c + 66))), (2, aO (some (c + 34))), (1, aO (some c)), (0, aO (some b))]) rfl rfl ?_
  have fin : Wk w 1000 cd_L_law 458 [(7, aD (nearF S (hV h0 b (6 * n + 1)))), (5, aD (nearF S (hV h0 b (6 * n + 1)))), (4, aI ((6 * n : Nat) : Int)), (3, aO (some (c + 66))), (2, aO (some (c + 34))), (1, aO (some c)), (0, aO (some b))] [] H2 Q := by
    refine g_goto rfl ?_
    exact g_ls [2, 3, 4, 5, 6] rfl rfl (K H2 _ (li.next x1 k1 m2 o2 ok))
  refine g_dload rfl rfl ?_
  refine g_dload rfl rfl ?_
  refine g_dcmp rfl ?_
  by_cases e0 : (Op.cmpValue (FP.dcmp (nearF S (hV h0 b (6 * n + 1))) (nearF S (hV h0 b (6 * n + 1)))) .l).toInt = 0
  · exact g_if_eq_t rfl e0 fin
  · refine g_if_eq_f rfl e0 ?_
    refine g_dload rfl rfl ?_
    refine g_dload rfl rfl ?_
    refine g_dcmp rfl ?_
    refine g_if_eq_f rfl e0 ?_
    refine g_dload rfl rfl ?_
    refine g_dload rfl rfl ?_
    refine g_dcmp rfl ?_
    exact g_if_ne_t rfl e0 fin
set_option maxRecDepth 100000 in
set_option maxHeartbeats 4000000 in
theorem lw_case1 {w : aW} {h0 H : aH} {b L c n : Nat} {S : aS} {Q : Option aV → aH → Prop} (li : LI w h0 b L c n H S) (hi : 6 * n + 6 ≤ L) (hL : L ≤ 3072) (hr : ∀ j, j < 6 → -2147483648 ≤ hV h0 b (6 * n + j) ∧ hV h0 b (6 * n + j) < 2147483648) (K : ∀ H2 S2, LI w h0 b L c (n + 1) H2 S2 → Wk w 1000 cd_L_law 1432 [(4, aI ((6 * n : Nat) : Int)), (3, aO (some (c + 66))), (2, aO (some (c + 34))), (1, aO (some c)), (0, aO (some b))] [] H2 Q) : Wk w 1000 cd_L_law 284 [(4, aI ((6 * n : Nat) : Int)), (3, aO (some (c + 66))), (2, aO (some (c + 34))), (1, aO (some c)), (0, aO (some b))] [] H Q := by
  obtain ⟨⟨x, m, ok⟩, ⟨t1, t2, hb⟩, hv, -, -⟩ := id li
  have hcz := x.cz
  have two : TwI w 201 275 [aI (hV h0 b (6 * n + 1)), aI (hV h0 b (6 * n + 2)), aI (hV h0 b (6 * n + 3))] S ((spApp S (hV h0 b (6 * n + 1)) (hV h0 b (6 * n + 2)) (hV h0 b (6 * n + 3))).2) := TwI.of (fun H c x => jx_app (by omega) x ok (hV h0 b (6 * n + 1)) (hV h0 b (6 * n + 2)) (hV h0 b (6 * n + 3))) (fun H o y => jm_app (by omega) y ok (hV h0 b (6 * n + 1)) (hV h0 b (6 * n + 2)) (hV h0 b (6 * n + 3)))
  obtain ⟨P, q1, q2⟩ := two H c x
  refine g_aload_n rfl rfl ?_
  refine g_aload_n rfl rfl ?_
  refine g_iload rfl rfl ?_
  refine g_iconst rfl ?_
  refine g_iadd rfl (by omega) (by omega) ?_
  refine g_sald (i := 6 * n + 1) rfl t2 (by omega) (by omega) ?_
  refine g_top (v2 := aI (hV h0 b (6 * n + 1))) (congrArg aI (hv _)) ?_
  refine g_aload_n rfl rfl ?_
  refine g_iload rfl rfl ?_
  refine g_iconst rfl ?_
  refine g_iadd rfl (by omega) (by omega) ?_
  refine g_sald (i := 6 * n + 2) rfl t2 (by omega) (by omega) ?_
  refine g_top (v2 := aI (hV h0 b (6 * n + 2))) (congrArg aI (hv _)) ?_
  refine g_aload_n rfl rfl ?_
  refine g_iload rfl rfl ?_
  refine g_iconst rfl ?_
  refine g_iadd rfl (by omega) (by omega) ?_
  refine g_sald (i := 6 * n + 3) rfl t2 (by omega) (by omega) ?_
  refine g_top (v2 := aI (hV h0 b (6 * n + 3))) (congrArg aI (hv _)) ?_
  refine g_callVI [aI (hV h0 b (6 * n + 1)), aI (hV h0 b (6 * n + 2)), aI (hV h0 b (6 * n + 3))] [] rfl rfl rfl rfl (Nat.le_of_ble_eq_true rfl) (x.cs.kd 0 (by omega) rfl) q1 ?_
  rintro r1 H1 ⟨hp, x1, k1⟩
  have im1 := m.kx k1 hcz
  have kb := k1.b hb (by omega)
  have tb1 : hT H1 b = (6, L) := by rw [kb.1]; exact t2
  have hb1 : ∀ j, hV H1 b j = hV h0 b j := fun j => by rw [kb.2 j]; exact hv j
  refine g_aload_n rfl rfl ?_
  refine g_aload_n rfl rfl ?_
  refine g_iload rfl rfl ?_
  refine g_iconst rfl ?_
  refine g_iadd rfl (by omega) (by omega) ?_
  refine g_sald (i := 6 * n + 1) rfl tb1 (by omega) (by omega) ?_
  refine g_top (v2 := aI (hV h0 b (6 * n + 1))) (congrArg aI (hb1 _)) ?_
  refine g_aload_n rfl rfl ?_
  refine g_iload rfl rfl ?_
  refine g_iconst rfl ?_
  refine g_iadd rfl (by omega) (by omega) ?_
  refine g_sald (i := 6 * n + 2) rfl tb1 (by omega) (by omega) ?_
  refine g_top (v2 := aI (hV h0 b (6 * n + 2))) (congrArg aI (hb1 _)) ?_
  refine g_aload_n rfl rfl ?_
  refine g_iload rfl rfl ?_
  refine g_iconst rfl ?_
  refine g_iadd rfl (by omega) (by omega) ?_
  refine g_sald (i := 6 * n + 3) rfl tb1 (by omega) (by omega) ?_
  refine g_top (v2 := aI (hV h0 b (6 * n + 3))) (congrArg aI (hb1 _)) ?_
  refine g_callVI [aI (hV h0 b (6 * n + 1)), aI (hV h0 b (6 * n + 2)), aI (hV h0 b (6 * n + 3))] [aI r1] rfl rfl rfl rfl (Nat.le_of_ble_eq_true rfl) im1.1.1 (q2 r1 hp H1 (c + 34) im1) ?_
  rintro r2 H2 ⟨er, m2, o2⟩
  refine g_icmp_eq_t rfl er.symm ?_
  exact K H2 _ (li.next x1 k1 m2 o2 (ok_app ok _ _ _))
set_option maxRecDepth 100000 in
set_option maxHeartbeats 4000000 in
theorem lw_case2 {w : aW} {h0 H : aH} {b L c n : Nat} {S : aS} {Q : Option aV → aH → Prop} (li : LI w h0 b L c n H S) (hi : 6 * n + 6 ≤ L) (hL : L ≤ 3072) (hr : ∀ j, j < 6 → -2147483648 ≤ hV h0 b (6 * n + j) ∧ hV h0 b (6 * n + j) < 2147483648) (K : ∀ H2 S2, LI w h0 b L c (n + 1) H2 S2 → Wk w 1000 cd_L_law 1432 [(4, aI ((6 * n : Nat) : Int)), (3, aO (some (c + 66))), (2, aO (some (c + 34))), (1, aO (some c)), (0, aO (some b))] [] H2 Q) : Wk w 1000 cd_L_law 333 [(4, aI ((6 * n : Nat) : Int)), (3, aO (some (c + 66))), (2, aO (some (c + 34))), (1, aO (some c)), (0, aO (some b))] [] H Q := by
  obtain ⟨⟨x, m, ok⟩, ⟨t1, t2, hb⟩, hv, -, -⟩ := id li
  have hcz := x.cz
  have two : TwI w 202 277 [aI (hV h0 b (6 * n + 1)), aI (hV h0 b (6 * n + 2))] S (S) := TwI.of (fun H c x => jx_cmp (by omega) x ok (hV h0 b (6 * n + 1)) (hV h0 b (6 * n + 2))) (fun H o y => jm_cmp (by omega) y ok (hV h0 b (6 * n + 1)) (hV h0 b (6 * n + 2)))
  obtain ⟨P, q1, q2⟩ := two H c x
  refine g_aload_n rfl rfl ?_
  refine g_aload_n rfl rfl ?_
  refine g_iload rfl rfl ?_
  refine g_iconst rfl ?_
  refine g_iadd rfl (by omega) (by omega) ?_
  refine g_sald (i := 6 * n + 1) rfl t2 (by omega) (by omega) ?_
  refine g_top (v2 := aI (hV h0 b (6 * n + 1))) (congrArg aI (hv _)) ?_
  refine g_aload_n rfl rfl ?_
  refine g_iload rfl rfl ?_
  refine g_iconst rfl ?_
  refine g_iadd rfl (by omega) (by omega) ?_
  refine g_sald (i := 6 * n + 2) rfl t2 (by omega) (by omega) ?_
  refine g_top (v2 := aI (hV h0 b (6 * n + 2))) (congrArg aI (hv _)) ?_
  refine g_callVI [aI (hV h0 b (6 * n + 1)), aI (hV h0 b (6 * n + 2))] [] rfl rfl rfl rfl (Nat.le_of_ble_eq_true rfl) (x.cs.kd 0 (by omega) rfl) q1 ?_
  rintro r1 H1 ⟨hp, x1, k1⟩
  have im1 := m.kx k1 hcz
  have kb := k1.b hb (by omega)
  have tb1 : hT H1 b = (6, L) := by rw [kb.1]; exact t2
  have hb1 : ∀ j, hV H1 b j = hV h0 b j := fun j => by rw [kb.2 j]; exact hv j
  refine g_aload_n rfl rfl ?_
  refine g_aload_n rfl rfl ?_
  refine g_iload rfl rfl ?_
  refine g_iconst rfl ?_
  refine g_iadd rfl (by omega) (by omega) ?_
  refine g_sald (i := 6 * n + 1) rfl tb1 (by omega) (by omega) ?_
  refine g_top (v2 := aI (hV h0 b (6 * n + 1))) (congrArg aI (hb1 _)) ?_
  refine g_aload_n rfl rfl ?_
  refine g_iload rfl rfl ?_
  refine g_iconst rfl ?_
  refine g_iadd rfl (by omega) (by omega) ?_
  refine g_sald (i := 6 * n + 2) rfl tb1 (by omega) (by omega) ?_
  refine g_top (v2 := aI (hV h0 b (6 * n + 2))) (congrArg aI (hb1 _)) ?_
  refine g_callVI [aI (hV h0 b (6 * n + 1)), aI (hV h0 b (6 * n + 2))] [aI r1] rfl rfl rfl rfl (Nat.le_of_ble_eq_true rfl) im1.1.1 (q2 r1 hp H1 (c + 34) im1) ?_
  rintro r2 H2 ⟨er, m2, o2⟩
  refine g_icmp_eq_t rfl er.symm ?_
  exact K H2 _ (li.next x1 k1 m2 o2 (ok))
set_option maxRecDepth 100000 in
set_option maxHeartbeats 4000000 in
theorem lw_case3 {w : aW} {h0 H : aH} {b L c n : Nat} {S : aS} {Q : Option aV → aH → Prop} (li : LI w h0 b L c n H S) (hi : 6 * n + 6 ≤ L) (hL : L ≤ 3072) (hr : ∀ j, j < 6 → -2147483648 ≤ hV h0 b (6 * n + j) ∧ hV h0 b (6 * n + j) < 2147483648) (K : ∀ H2 S2, LI w h0 b L c (n + 1) H2 S2 → Wk w 1000 cd_L_law 1432 [(4, aI ((6 * n : Nat) : Int)), (3, aO (some (c + 66))), (2, aO (some (c + 34))), (1, aO (some c)), (0, aO (some b))] [] H2 Q) : Wk w 1000 cd_L_law 370 [(4, aI ((6 * n : Nat) : Int)), (3, aO (some (c + 66))), (2, aO (some (c + 34))), (1, aO (some c)), (0, aO (some b))] [] H Q := by
  obtain ⟨⟨x, m, ok⟩, ⟨t1, t2, hb⟩, hv, -, -⟩ := id li
  have hcz := x.cz
  have two : TwJ w 203 278 [aI (hV h0 b (6 * n + 1)), aI (hV h0 b (6 * n + 2))] S (S) := TwJ.of (fun H c x => jx_nof (by omega) x ok (hV h0 b (6 * n + 1)) (hV h0 b (6 * n + 2)) (hr 2 (by omega))) (fun H o y => jm_nof (by omega) y ok (hV h0 b (6 * n + 1)) (hV h0 b (6 * n + 2)) (hr 2 (by omega)))
  obtain ⟨P, q1, q2⟩ := two H c x
  refine g_aload_n rfl rfl ?_
  refine g_aload_n rfl rfl ?_
  refine g_iload rfl rfl ?_
  refine g_iconst rfl ?_
  refine g_iadd rfl (by omega) (by omega) ?_
  refine g_sald (i := 6 * n + 1) rfl t2 (by omega) (by omega) ?_
  refine g_top (v2 := aI (hV h0 b (6 * n + 1))) (congrArg aI (hv _)) ?_
  refine g_aload_n rfl rfl ?_
  refine g_iload rfl rfl ?_
  refine g_iconst rfl ?_
  refine g_iadd rfl (by omega) (by omega) ?_
  refine g_sald (i := 6 * n + 2) rfl t2 (by omega) (by omega) ?_
  refine g_top (v2 := aI (hV h0 b (6 * n + 2))) (congrArg aI (hv _)) ?_
  refine g_callVJ [aI (hV h0 b (6 * n + 1)), aI (hV h0 b (6 * n + 2))] [] rfl rfl rfl rfl (Nat.le_of_ble_eq_true rfl) (x.cs.kd 0 (by omega) rfl) q1 ?_
  rintro r1 H1 ⟨hp, x1, k1⟩
  have im1 := m.kx k1 hcz
  have kb := k1.b hb (by omega)
  have tb1 : hT H1 b = (6, L) := by rw [kb.1]; exact t2
  have hb1 : ∀ j, hV H1 b j = hV h0 b j := fun j => by rw [kb.2 j]; exact hv j
  refine g_aload_n rfl rfl ?_
  refine g_aload_n rfl rfl ?_
  refine g_iload rfl rfl ?_
  refine g_iconst rfl ?_
  refine g_iadd rfl (by omega) (by omega) ?_
  refine g_sald (i := 6 * n + 1) rfl tb1 (by omega) (by omega) ?_
  refine g_top (v2 := aI (hV h0 b (6 * n + 1))) (congrArg aI (hb1 _)) ?_
  refine g_aload_n rfl rfl ?_
  refine g_iload rfl rfl ?_
  refine g_iconst rfl ?_
  refine g_iadd rfl (by omega) (by omega) ?_
  refine g_sald (i := 6 * n + 2) rfl tb1 (by omega) (by omega) ?_
  refine g_top (v2 := aI (hV h0 b (6 * n + 2))) (congrArg aI (hb1 _)) ?_
  refine g_callVJ [aI (hV h0 b (6 * n + 1)), aI (hV h0 b (6 * n + 2))] [aJ r1] rfl rfl rfl rfl (Nat.le_of_ble_eq_true rfl) im1.1.1 (q2 r1 hp H1 (c + 34) im1) ?_
  rintro r2 H2 ⟨er, m2, o2⟩
  refine g_lc_eq_t rfl rfl er.symm ?_
  exact K H2 _ (li.next x1 k1 m2 o2 (ok))
set_option maxRecDepth 100000 in
set_option maxHeartbeats 4000000 in
theorem lw_case5 {w : aW} {h0 H : aH} {b L c n : Nat} {S : aS} {Q : Option aV → aH → Prop} (li : LI w h0 b L c n H S) (hi : 6 * n + 6 ≤ L) (hL : L ≤ 3072) (hr : ∀ j, j < 6 → -2147483648 ≤ hV h0 b (6 * n + j) ∧ hV h0 b (6 * n + j) < 2147483648) (K : ∀ H2 S2, LI w h0 b L c (n + 1) H2 S2 → Wk w 1000 cd_L_law 1432 [(4, aI ((6 * n : Nat) : Int)), (3, aO (some (c + 66))), (2, aO (some (c + 34))), (1, aO (some c)), (0, aO (some b))] [] H2 Q) : Wk w 1000 cd_L_law 461 [(4, aI ((6 * n : Nat) : Int)), (3, aO (some (c + 66))), (2, aO (some (c + 34))), (1, aO (some c)), (0, aO (some b))] [] H Q := by
  obtain ⟨⟨x, m, ok⟩, ⟨t1, t2, hb⟩, hv, -, -⟩ := id li
  have hcz := x.cz
  have two : TwI w 205 307 [aI (hV h0 b (6 * n + 1)), aI (hV h0 b (6 * n + 2)), aI (hV h0 b (6 * n + 3))] S ((stepF S (hV h0 b (6 * n + 1)) (hV h0 b (6 * n + 2)) (hV h0 b (6 * n + 3))).2) := TwI.of (fun H c x => jx_step (by omega) x ok (hV h0 b (6 * n + 1)) (hV h0 b (6 * n + 2)) (hV h0 b (6 * n + 3))) (fun H o y => jm_step (by omega) y ok (hV h0 b (6 * n + 1)) (hV h0 b (6 * n + 2)) (hV h0 b (6 * n + 3)))
  obtain ⟨P, q1, q2⟩ := two H c x
  refine g_aload_n rfl rfl ?_
  refine g_aload_n rfl rfl ?_
  refine g_iload rfl rfl ?_
  refine g_iconst rfl ?_
  refine g_iadd rfl (by omega) (by omega) ?_
  refine g_sald (i := 6 * n + 1) rfl t2 (by omega) (by omega) ?_
  refine g_top (v2 := aI (hV h0 b (6 * n + 1))) (congrArg aI (hv _)) ?_
  refine g_aload_n rfl rfl ?_
  refine g_iload rfl rfl ?_
  refine g_iconst rfl ?_
  refine g_iadd rfl (by omega) (by omega) ?_
  refine g_sald (i := 6 * n + 2) rfl t2 (by omega) (by omega) ?_
  refine g_top (v2 := aI (hV h0 b (6 * n + 2))) (congrArg aI (hv _)) ?_
  refine g_aload_n rfl rfl ?_
  refine g_iload rfl rfl ?_
  refine g_iconst rfl ?_
  refine g_iadd rfl (by omega) (by omega) ?_
  refine g_sald (i := 6 * n + 3) rfl t2 (by omega) (by omega) ?_
  refine g_top (v2 := aI (hV h0 b (6 * n + 3))) (congrArg aI (hv _)) ?_
  refine g_callVI [aI (hV h0 b (6 * n + 1)), aI (hV h0 b (6 * n + 2)), aI (hV h0 b (6 * n + 3))] [] rfl rfl rfl rfl (Nat.le_of_ble_eq_true rfl) (x.cs.kd 0 (by omega) rfl) q1 ?_
  rintro r1 H1 ⟨hp, x1, k1⟩
  have im1 := m.kx k1 hcz
  have kb := k1.b hb (by omega)
  have tb1 : hT H1 b = (6, L) := by rw [kb.1]; exact t2
  have hb1 : ∀ j, hV H1 b j = hV h0 b j := fun j => by rw [kb.2 j]; exact hv j
  refine g_aload_n rfl rfl ?_
  refine g_aload_n rfl rfl ?_
  refine g_iload rfl rfl ?_
  refine g_iconst rfl ?_
  refine g_iadd rfl (by omega) (by omega) ?_
  refine g_sald (i := 6 * n + 1) rfl tb1 (by omega) (by omega) ?_
  refine g_top (v2 := aI (hV h0 b (6 * n + 1))) (congrArg aI (hb1 _)) ?_
  refine g_aload_n rfl rfl ?_
  refine g_iload rfl rfl ?_
  refine g_iconst rfl ?_
  refine g_iadd rfl (by omega) (by omega) ?_
  refine g_sald (i := 6 * n + 2) rfl tb1 (by omega) (by omega) ?_
  refine g_top (v2 := aI (hV h0 b (6 * n + 2))) (congrArg aI (hb1 _)) ?_
  refine g_aload_n rfl rfl ?_
  refine g_iload rfl rfl ?_
  refine g_iconst rfl ?_
  refine g_iadd rfl (by omega) (by omega) ?_
  refine g_sald (i := 6 * n + 3) rfl tb1 (by omega) (by omega) ?_
  refine g_top (v2 := aI (hV h0 b (6 * n + 3))) (congrArg aI (hb1 _)) ?_
  refine g_callVI [aI (hV h0 b (6 * n + 1)), aI (hV h0 b (6 * n + 2)), aI (hV h0 b (6 * n + 3))] [aI r1] rfl rfl rfl rfl (Nat.le_of_ble_eq_true rfl) im1.1.1 (q2 r1 hp H1 (c + 34) im1) ?_
  rintro r2 H2 ⟨er, m2, o2⟩
  refine g_icmp_eq_t rfl er.symm ?_
  exact K H2 _ (li.next x1 k1 m2 o2 (ok_step ok _ _ _))
set_option maxRecDepth 100000 in
set_option maxHeartbeats 4000000 in
theorem lw_case6 {w : aW} {h0 H : aH} {b L c n : Nat} {S : aS} {Q : Option aV → aH → Prop} (li : LI w h0 b L c n H S) (hi : 6 * n + 6 ≤ L) (hL : L ≤ 3072) (hr : ∀ j, j < 6 → -2147483648 ≤ hV h0 b (6 * n + j) ∧ hV h0 b (6 * n + j) < 2147483648) (K : ∀ H2 S2, LI w h0 b L c (n + 1) H2 S2 → Wk w 1000 cd_L_law 1432 [(4, aI ((6 * n : Nat) : Int)), (3, aO (some (c + 66))), (2, aO (some (c + 34))), (1, aO (some c)), (0, aO (some b))] [] H2 Q) : Wk w 1000 cd_L_law 510 [(4, aI ((6 * n : Nat) : Int)), (3, aO (some (c + 66))), (2, aO (some (c + 34))), (1, aO (some c)), (0, aO (some b))] [] H Q := by
  obtain ⟨⟨x, m, ok⟩, ⟨t1, t2, hb⟩, hv, -, -⟩ := id li
  have hcz := x.cz
  have two : TwI w 206 312 [aI (hV h0 b (6 * n + 1)), aI (hV h0 b (6 * n + 2)), aI (hV h0 b (6 * n + 3)), aI (hV h0 b (6 * n + 4))] S ((threeF S (hV h0 b (6 * n + 1)) (hV h0 b (6 * n + 2)) (hV h0 b (6 * n + 3)) (hV h0 b (6 * n + 4))).2) := TwI.of (fun H c x => jx_three (by omega) x ok (hV h0 b (6 * n + 1)) (hV h0 b (6 * n + 2)) (hV h0 b (6 * n + 3)) (hV h0 b (6 * n + 4))) (fun H o y => jm_three (by omega) y ok (hV h0 b (6 * n + 1)) (hV h0 b (6 * n + 2)) (hV h0 b (6 * n + 3)) (hV h0 b (6 * n + 4)))
  obtain ⟨P, q1, q2⟩ := two H c x
  refine g_aload_n rfl rfl ?_
  refine g_aload_n rfl rfl ?_
  refine g_iload rfl rfl ?_
  refine g_iconst rfl ?_
  refine g_iadd rfl (by omega) (by omega) ?_
  refine g_sald (i := 6 * n + 1) rfl t2 (by omega) (by omega) ?_
  refine g_top (v2 := aI (hV h0 b (6 * n + 1))) (congrArg aI (hv _)) ?_
  refine g_aload_n rfl rfl ?_
  refine g_iload rfl rfl ?_
  refine g_iconst rfl ?_
  refine g_iadd rfl (by omega) (by omega) ?_
  refine g_sald (i := 6 * n + 2) rfl t2 (by omega) (by omega) ?_
  refine g_top (v2 := aI (hV h0 b (6 * n + 2))) (congrArg aI (hv _)) ?_
  refine g_aload_n rfl rfl ?_
  refine g_iload rfl rfl ?_
  refine g_iconst rfl ?_
  refine g_iadd rfl (by omega) (by omega) ?_
  refine g_sald (i := 6 * n + 3) rfl t2 (by omega) (by omega) ?_
  refine g_top (v2 := aI (hV h0 b (6 * n + 3))) (congrArg aI (hv _)) ?_
  refine g_aload_n rfl rfl ?_
  refine g_iload rfl rfl ?_
  refine g_iconst rfl ?_
  refine g_iadd rfl (by omega) (by omega) ?_
  refine g_sald (i := 6 * n + 4) rfl t2 (by omega) (by omega) ?_
  refine g_top (v2 := aI (hV h0 b (6 * n + 4))) (congrArg aI (hv _)) ?_
  refine g_callVI [aI (hV h0 b (6 * n + 1)), aI (hV h0 b (6 * n + 2)), aI (hV h0 b (6 * n + 3)), aI (hV h0 b (6 * n + 4))] [] rfl rfl rfl rfl (Nat.le_of_ble_eq_true rfl) (x.cs.kd 0 (by omega) rfl) q1 ?_
  rintro r1 H1 ⟨hp, x1, k1⟩
  have im1 := m.kx k1 hcz
  have kb := k1.b hb (by omega)
  have tb1 : hT H1 b = (6, L) := by rw [kb.1]; exact t2
  have hb1 : ∀ j, hV H1 b j = hV h0 b j := fun j => by rw [kb.2 j]; exact hv j
  refine g_aload_n rfl rfl ?_
  refine g_aload_n rfl rfl ?_
  refine g_iload rfl rfl ?_
  refine g_iconst rfl ?_
  refine g_iadd rfl (by omega) (by omega) ?_
  refine g_sald (i := 6 * n + 1) rfl tb1 (by omega) (by omega) ?_
  refine g_top (v2 := aI (hV h0 b (6 * n + 1))) (congrArg aI (hb1 _)) ?_
  refine g_aload_n rfl rfl ?_
  refine g_iload rfl rfl ?_
  refine g_iconst rfl ?_
  refine g_iadd rfl (by omega) (by omega) ?_
  refine g_sald (i := 6 * n + 2) rfl tb1 (by omega) (by omega) ?_
  refine g_top (v2 := aI (hV h0 b (6 * n + 2))) (congrArg aI (hb1 _)) ?_
  refine g_aload_n rfl rfl ?_
  refine g_iload rfl rfl ?_
  refine g_iconst rfl ?_
  refine g_iadd rfl (by omega) (by omega) ?_
  refine g_sald (i := 6 * n + 3) rfl tb1 (by omega) (by omega) ?_
  refine g_top (v2 := aI (hV h0 b (6 * n + 3))) (congrArg aI (hb1 _)) ?_
  refine g_aload_n rfl rfl ?_
  refine g_iload rfl rfl ?_
  refine g_iconst rfl ?_
  refine g_iadd rfl (by omega) (by omega) ?_
  refine g_sald (i := 6 * n + 4) rfl tb1 (by omega) (by omega) ?_
  refine g_top (v2 := aI (hV h0 b (6 * n + 4))) (congrArg aI (hb1 _)) ?_
  refine g_callVI [aI (hV h0 b (6 * n + 1)), aI (hV h0 b (6 * n + 2)), aI (hV h0 b (6 * n + 3)), aI (hV h0 b (6 * n + 4))] [aI r1] rfl rfl rfl rfl (Nat.le_of_ble_eq_true rfl) im1.1.1 (q2 r1 hp H1 (c + 34) im1) ?_
  rintro r2 H2 ⟨er, m2, o2⟩
  refine g_icmp_eq_t rfl er.symm ?_
  exact K H2 _ (li.next x1 k1 m2 o2 (ok_three ok _ _ _ _))
set_option maxRecDepth 100000 in
set_option maxHeartbeats 4000000 in
theorem lw_case7 {w : aW} {h0 H : aH} {b L c n : Nat} {S : aS} {Q : Option aV → aH → Prop} (li : LI w h0 b L c n H S) (hi : 6 * n + 6 ≤ L) (hL : L ≤ 3072) (hr : ∀ j, j < 6 → -2147483648 ≤ hV h0 b (6 * n + j) ∧ hV h0 b (6 * n + j) < 2147483648) (K : ∀ H2 S2, LI w h0 b L c (n + 1) H2 S2 → Wk w 1000 cd_L_law 1432 [(4, aI ((6 * n : Nat) : Int)), (3, aO (some (c + 66))), (2, aO (some (c + 34))), (1, aO (some c)), (0, aO (some b))] [] H2 Q) : Wk w 1000 cd_L_law 571 [(4, aI ((6 * n : Nat) : Int)), (3, aO (some (c + 66))), (2, aO (some (c + 34))), (1, aO (some c)), (0, aO (some b))] [] H Q := by
  obtain ⟨⟨x, m, ok⟩, ⟨t1, t2, hb⟩, hv, -, -⟩ := id li
  have hcz := x.cz
  have two : TwI w 207 319 [aI (hV h0 b (6 * n + 1)), aI (hV h0 b (6 * n + 2))] S (S) := TwI.of (fun H c x => jx_thing (by omega) x ok (hV h0 b (6 * n + 1)) (hV h0 b (6 * n + 2))) (fun H o y => jm_thing (by omega) y ok (hV h0 b (6 * n + 1)) (hV h0 b (6 * n + 2)))
  obtain ⟨P, q1, q2⟩ := two H c x
  refine g_aload_n rfl rfl ?_
  refine g_aload_n rfl rfl ?_
  refine g_iload rfl rfl ?_
  refine g_iconst rfl ?_
  refine g_iadd rfl (by omega) (by omega) ?_
  refine g_sald (i := 6 * n + 1) rfl t2 (by omega) (by omega) ?_
  refine g_top (v2 := aI (hV h0 b (6 * n + 1))) (congrArg aI (hv _)) ?_
  refine g_aload_n rfl rfl ?_
  refine g_iload rfl rfl ?_
  refine g_iconst rfl ?_
  refine g_iadd rfl (by omega) (by omega) ?_
  refine g_sald (i := 6 * n + 2) rfl t2 (by omega) (by omega) ?_
  refine g_top (v2 := aI (hV h0 b (6 * n + 2))) (congrArg aI (hv _)) ?_
  refine g_callVI [aI (hV h0 b (6 * n + 1)), aI (hV h0 b (6 * n + 2))] [] rfl rfl rfl rfl (Nat.le_of_ble_eq_true rfl) (x.cs.kd 0 (by omega) rfl) q1 ?_
  rintro r1 H1 ⟨hp, x1, k1⟩
  have im1 := m.kx k1 hcz
  have kb := k1.b hb (by omega)
  have tb1 : hT H1 b = (6, L) := by rw [kb.1]; exact t2
  have hb1 : ∀ j, hV H1 b j = hV h0 b j := fun j => by rw [kb.2 j]; exact hv j
  refine g_aload_n rfl rfl ?_
  refine g_aload_n rfl rfl ?_
  refine g_iload rfl rfl ?_
  refine g_iconst rfl ?_
  refine g_iadd rfl (by omega) (by omega) ?_
  refine g_sald (i := 6 * n + 1) rfl tb1 (by omega) (by omega) ?_
  refine g_top (v2 := aI (hV h0 b (6 * n + 1))) (congrArg aI (hb1 _)) ?_
  refine g_aload_n rfl rfl ?_
  refine g_iload rfl rfl ?_
  refine g_iconst rfl ?_
  refine g_iadd rfl (by omega) (by omega) ?_
  refine g_sald (i := 6 * n + 2) rfl tb1 (by omega) (by omega) ?_
  refine g_top (v2 := aI (hV h0 b (6 * n + 2))) (congrArg aI (hb1 _)) ?_
  refine g_callVI [aI (hV h0 b (6 * n + 1)), aI (hV h0 b (6 * n + 2))] [aI r1] rfl rfl rfl rfl (Nat.le_of_ble_eq_true rfl) im1.1.1 (q2 r1 hp H1 (c + 34) im1) ?_
  rintro r2 H2 ⟨er, m2, o2⟩
  refine g_icmp_eq_t rfl er.symm ?_
  exact K H2 _ (li.next x1 k1 m2 o2 (ok))
set_option maxRecDepth 100000 in
set_option maxHeartbeats 4000000 in
theorem lw_case8 {w : aW} {h0 H : aH} {b L c n : Nat} {S : aS} {Q : Option aV → aH → Prop} (li : LI w h0 b L c n H S) (hi : 6 * n + 6 ≤ L) (hL : L ≤ 3072) (hr : ∀ j, j < 6 → -2147483648 ≤ hV h0 b (6 * n + j) ∧ hV h0 b (6 * n + j) < 2147483648) (K : ∀ H2 S2, LI w h0 b L c (n + 1) H2 S2 → Wk w 1000 cd_L_law 1432 [(4, aI ((6 * n : Nat) : Int)), (3, aO (some (c + 66))), (2, aO (some (c + 34))), (1, aO (some c)), (0, aO (some b))] [] H2 Q) : Wk w 1000 cd_L_law 608 [(4, aI ((6 * n : Nat) : Int)), (3, aO (some (c + 66))), (2, aO (some (c + 34))), (1, aO (some c)), (0, aO (some b))] [] H Q := by
  obtain ⟨⟨x, m, ok⟩, ⟨t1, t2, hb⟩, hv, -, -⟩ := id li
  have hcz := x.cz
  have two : TwI w 208 320 [aI (hV h0 b (6 * n + 1)), aI (hV h0 b (6 * n + 2)), aI (hV h0 b (6 * n + 3)), aI (hV h0 b (6 * n + 4))] S ((measF S (hV h0 b (6 * n + 1)) (hV h0 b (6 * n + 2)) (hV h0 b (6 * n + 3)) (hV h0 b (6 * n + 4))).2) := TwI.of (fun H c x => jx_meas (by omega) x ok (hV h0 b (6 * n + 1)) (hV h0 b (6 * n + 2)) (hV h0 b (6 * n + 3)) (hV h0 b (6 * n + 4))) (fun H o y => jm_meas (by omega) y ok (hV h0 b (6 * n + 1)) (hV h0 b (6 * n + 2)) (hV h0 b (6 * n + 3)) (hV h0 b (6 * n + 4)))
  obtain ⟨P, q1, q2⟩ := two H c x
  refine g_aload_n rfl rfl ?_
  refine g_aload_n rfl rfl ?_
  refine g_iload rfl rfl ?_
  refine g_iconst rfl ?_
  refine g_iadd rfl (by omega) (by omega) ?_
  refine g_sald (i := 6 * n + 1) rfl t2 (by omega) (by omega) ?_
  refine g_top (v2 := aI (hV h0 b (6 * n + 1))) (congrArg aI (hv _)) ?_
  refine g_aload_n rfl rfl ?_
  refine g_iload rfl rfl ?_
  refine g_iconst rfl ?_
  refine g_iadd rfl (by omega) (by omega) ?_
  refine g_sald (i := 6 * n + 2) rfl t2 (by omega) (by omega) ?_
  refine g_top (v2 := aI (hV h0 b (6 * n + 2))) (congrArg aI (hv _)) ?_
  refine g_aload_n rfl rfl ?_
  refine g_iload rfl rfl ?_
  refine g_iconst rfl ?_
  refine g_iadd rfl (by omega) (by omega) ?_
  refine g_sald (i := 6 * n + 3) rfl t2 (by omega) (by omega) ?_
  refine g_top (v2 := aI (hV h0 b (6 * n + 3))) (congrArg aI (hv _)) ?_
  refine g_aload_n rfl rfl ?_
  refine g_iload rfl rfl ?_
  refine g_iconst rfl ?_
  refine g_iadd rfl (by omega) (by omega) ?_
  refine g_sald (i := 6 * n + 4) rfl t2 (by omega) (by omega) ?_
  refine g_top (v2 := aI (hV h0 b (6 * n + 4))) (congrArg aI (hv _)) ?_
  refine g_callVI [aI (hV h0 b (6 * n + 1)), aI (hV h0 b (6 * n + 2)), aI (hV h0 b (6 * n + 3)), aI (hV h0 b (6 * n + 4))] [] rfl rfl rfl rfl (Nat.le_of_ble_eq_true rfl) (x.cs.kd 0 (by omega) rfl) q1 ?_
  rintro r1 H1 ⟨hp, x1, k1⟩
  have im1 := m.kx k1 hcz
  have kb := k1.b hb (by omega)
  have tb1 : hT H1 b = (6, L) := by rw [kb.1]; exact t2
  have hb1 : ∀ j, hV H1 b j = hV h0 b j := fun j => by rw [kb.2 j]; exact hv j
  refine g_aload_n rfl rfl ?_
  refine g_aload_n rfl rfl ?_
  refine g_iload rfl rfl ?_
  refine g_iconst rfl ?_
  refine g_iadd rfl (by omega) (by omega) ?_
  refine g_sald (i := 6 * n + 1) rfl tb1 (by omega) (by omega) ?_
  refine g_top (v2 := aI (hV h0 b (6 * n + 1))) (congrArg aI (hb1 _)) ?_
  refine g_aload_n rfl rfl ?_
  refine g_iload rfl rfl ?_
  refine g_iconst rfl ?_
  refine g_iadd rfl (by omega) (by omega) ?_
  refine g_sald (i := 6 * n + 2) rfl tb1 (by omega) (by omega) ?_
  refine g_top (v2 := aI (hV h0 b (6 * n + 2))) (congrArg aI (hb1 _)) ?_
  refine g_aload_n rfl rfl ?_
  refine g_iload rfl rfl ?_
  refine g_iconst rfl ?_
  refine g_iadd rfl (by omega) (by omega) ?_
  refine g_sald (i := 6 * n + 3) rfl tb1 (by omega) (by omega) ?_
  refine g_top (v2 := aI (hV h0 b (6 * n + 3))) (congrArg aI (hb1 _)) ?_
  refine g_aload_n rfl rfl ?_
  refine g_iload rfl rfl ?_
  refine g_iconst rfl ?_
  refine g_iadd rfl (by omega) (by omega) ?_
  refine g_sald (i := 6 * n + 4) rfl tb1 (by omega) (by omega) ?_
  refine g_top (v2 := aI (hV h0 b (6 * n + 4))) (congrArg aI (hb1 _)) ?_
  refine g_callVI [aI (hV h0 b (6 * n + 1)), aI (hV h0 b (6 * n + 2)), aI (hV h0 b (6 * n + 3)), aI (hV h0 b (6 * n + 4))] [aI r1] rfl rfl rfl rfl (Nat.le_of_ble_eq_true rfl) im1.1.1 (q2 r1 hp H1 (c + 34) im1) ?_
  rintro r2 H2 ⟨er, m2, o2⟩
  refine g_icmp_eq_t rfl er.symm ?_
  exact K H2 _ (li.next x1 k1 m2 o2 (ok_meas ok _ _ _ _))
set_option maxRecDepth 100000 in
set_option maxHeartbeats 4000000 in
theorem lw_case9 {w : aW} {h0 H : aH} {b L c n : Nat} {S : aS} {Q : Option aV → aH → Prop} (li : LI w h0 b L c n H S) (hi : 6 * n + 6 ≤ L) (hL : L ≤ 3072) (hr : ∀ j, j < 6 → -2147483648 ≤ hV h0 b (6 * n + j) ∧ hV h0 b (6 * n + j) < 2147483648) (K : ∀ H2 S2, LI w h0 b L c (n + 1) H2 S2 → Wk w 1000 cd_L_law 1432 [(4, aI ((6 * n : Nat) : Int)), (3, aO (some (c + 66))), (2, aO (some (c + 34))), (1, aO (some c)), (0, aO (some b))] [] H2 Q) : Wk w 1000 cd_L_law 669 [(4, aI ((6 * n : Nat) : Int)), (3, aO (some (c + 66))), (2, aO (some (c + 34))), (1, aO (some c)), (0, aO (some b))] [] H Q := by
  obtain ⟨⟨x, m, ok⟩, ⟨t1, t2, hb⟩, hv, -, -⟩ := id li
  have hcz := x.cz
  have two : TwI w 209 324 [aI (hV h0 b (6 * n + 1)), aI (hV h0 b (6 * n + 2)), aI (hV h0 b (6 * n + 3)), aI (hV h0 b (6 * n + 4)), aI (hV h0 b (6 * n + 5))] S (S) := TwI.of (fun H c x => jx_holds (by omega) x ok (hV h0 b (6 * n + 1)) (hV h0 b (6 * n + 2)) (hV h0 b (6 * n + 3)) (hV h0 b (6 * n + 4)) (hV h0 b (6 * n + 5))) (fun H o y => jm_holds (by omega) y ok (hV h0 b (6 * n + 1)) (hV h0 b (6 * n + 2)) (hV h0 b (6 * n + 3)) (hV h0 b (6 * n + 4)) (hV h0 b (6 * n + 5)))
  obtain ⟨P, q1, q2⟩ := two H c x
  refine g_aload_n rfl rfl ?_
  refine g_aload_n rfl rfl ?_
  refine g_iload rfl rfl ?_
  refine g_iconst rfl ?_
  refine g_iadd rfl (by omega) (by omega) ?_
  refine g_sald (i := 6 * n + 1) rfl t2 (by omega) (by omega) ?_
  refine g_top (v2 := aI (hV h0 b (6 * n + 1))) (congrArg aI (hv _)) ?_
  refine g_aload_n rfl rfl ?_
  refine g_iload rfl rfl ?_
  refine g_iconst rfl ?_
  refine g_iadd rfl (by omega) (by omega) ?_
  refine g_sald (i := 6 * n + 2) rfl t2 (by omega) (by omega) ?_
  refine g_top (v2 := aI (hV h0 b (6 * n + 2))) (congrArg aI (hv _)) ?_
  refine g_aload_n rfl rfl ?_
  refine g_iload rfl rfl ?_
  refine g_iconst rfl ?_
  refine g_iadd rfl (by omega) (by omega) ?_
  refine g_sald (i := 6 * n + 3) rfl t2 (by omega) (by omega) ?_
  refine g_top (v2 := aI (hV h0 b (6 * n + 3))) (congrArg aI (hv _)) ?_
  refine g_aload_n rfl rfl ?_
  refine g_iload rfl rfl ?_
  refine g_iconst rfl ?_
  refine g_iadd rfl (by omega) (by omega) ?_
  refine g_sald (i := 6 * n + 4) rfl t2 (by omega) (by omega) ?_
  refine g_top (v2 := aI (hV h0 b (6 * n + 4))) (congrArg aI (hv _)) ?_
  refine g_aload_n rfl rfl ?_
  refine g_iload rfl rfl ?_
  refine g_iconst rfl ?_
  refine g_iadd rfl (by omega) (by omega) ?_
  refine g_sald (i := 6 * n + 5) rfl t2 (by omega) (by omega) ?_
  refine g_top (v2 := aI (hV h0 b (6 * n + 5))) (congrArg aI (hv _)) ?_
  refine g_callVI [aI (hV h0 b (6 * n + 1)), aI (hV h0 b (6 * n + 2)), aI (hV h0 b (6 * n + 3)), aI (hV h0 b (6 * n + 4)), aI (hV h0 b (6 * n + 5))] [] rfl rfl rfl rfl (Nat.le_of_ble_eq_true rfl) (x.cs.kd 0 (by omega) rfl) q1 ?_
  rintro r1 H1 ⟨hp, x1, k1⟩
  have im1 := m.kx k1 hcz
  have kb := k1.b hb (by omega)
  have tb1 : hT H1 b = (6, L) := by rw [kb.1]; exact t2
  have hb1 : ∀ j, hV H1 b j = hV h0 b j := fun j => by rw [kb.2 j]; exact hv j
  refine g_aload_n rfl rfl ?_
  refine g_aload_n rfl rfl ?_
  refine g_iload rfl rfl ?_
  refine g_iconst rfl ?_
  refine g_iadd rfl (by omega) (by omega) ?_
  refine g_sald (i := 6 * n + 1) rfl tb1 (by omega) (by omega) ?_
  refine g_top (v2 := aI (hV h0 b (6 * n + 1))) (congrArg aI (hb1 _)) ?_
  refine g_aload_n rfl rfl ?_
  refine g_iload rfl rfl ?_
  refine g_iconst rfl ?_
  refine g_iadd rfl (by omega) (by omega) ?_
  refine g_sald (i := 6 * n + 2) rfl tb1 (by omega) (by omega) ?_
  refine g_top (v2 := aI (hV h0 b (6 * n + 2))) (congrArg aI (hb1 _)) ?_
  refine g_aload_n rfl rfl ?_
  refine g_iload rfl rfl ?_
  refine g_iconst rfl ?_
  refine g_iadd rfl (by omega) (by omega) ?_
  refine g_sald (i := 6 * n + 3) rfl tb1 (by omega) (by omega) ?_
  refine g_top (v2 := aI (hV h0 b (6 * n + 3))) (congrArg aI (hb1 _)) ?_
  refine g_aload_n rfl rfl ?_
  refine g_iload rfl rfl ?_
  refine g_iconst rfl ?_
  refine g_iadd rfl (by omega) (by omega) ?_
  refine g_sald (i := 6 * n + 4) rfl tb1 (by omega) (by omega) ?_
  refine g_top (v2 := aI (hV h0 b (6 * n + 4))) (congrArg aI (hb1 _)) ?_
  refine g_aload_n rfl rfl ?_
  refine g_iload rfl rfl ?_
  refine g_iconst rfl ?_
  refine g_iadd rfl (by omega) (by omega) ?_
  refine g_sald (i := 6 * n + 5) rfl tb1 (by omega) (by omega) ?_
  refine g_top (v2 := aI (hV h0 b (6 * n + 5))) (congrArg aI (hb1 _)) ?_
  refine g_callVI [aI (hV h0 b (6 * n + 1)), aI (hV h0 b (6 * n + 2)), aI (hV h0 b (6 * n + 3)), aI (hV h0 b (6 * n + 4)), aI (hV h0 b (6 * n + 5))] [aI r1] rfl rfl rfl rfl (Nat.le_of_ble_eq_true rfl) im1.1.1 (q2 r1 hp H1 (c + 34) im1) ?_
  rintro r2 H2 ⟨er, m2, o2⟩
  refine g_icmp_eq_t rfl er.symm ?_
  exact K H2 _ (li.next x1 k1 m2 o2 (ok))
set_option maxRecDepth 100000 in
set_option maxHeartbeats 4000000 in
theorem lw_case10 {w : aW} {h0 H : aH} {b L c n : Nat} {S : aS} {Q : Option aV → aH → Prop} (li : LI w h0 b L c n H S) (hi : 6 * n + 6 ≤ L) (hL : L ≤ 3072) (hr : ∀ j, j < 6 → -2147483648 ≤ hV h0 b (6 * n + j) ∧ hV h0 b (6 * n + j) < 2147483648) (K : ∀ H2 S2, LI w h0 b L c (n + 1) H2 S2 → Wk w 1000 cd_L_law 1432 [(4, aI ((6 * n : Nat) : Int)), (3, aO (some (c + 66))), (2, aO (some (c + 34))), (1, aO (some c)), (0, aO (some b))] [] H2 Q) : Wk w 1000 cd_L_law 742 [(4, aI ((6 * n : Nat) : Int)), (3, aO (some (c + 66))), (2, aO (some (c + 34))), (1, aO (some c)), (0, aO (some b))] [] H Q := by
  obtain ⟨⟨x, m, ok⟩, ⟨t1, t2, hb⟩, hv, -, -⟩ := id li
  have hcz := x.cz
  have two : TwI w 210 331 [] S ((begF S).2) := TwI.of (fun H c x => jx_poly (by omega) x ok) (fun H o y => jm_poly (by omega) y ok)
  obtain ⟨P, q1, q2⟩ := two H c x
  refine g_aload_n rfl rfl ?_
  refine g_callVI [] [] rfl rfl rfl rfl (Nat.le_of_ble_eq_true rfl) (x.cs.kd 0 (by omega) rfl) q1 ?_
  rintro r1 H1 ⟨hp, x1, k1⟩
  have im1 := m.kx k1 hcz
  have kb := k1.b hb (by omega)
  have tb1 : hT H1 b = (6, L) := by rw [kb.1]; exact t2
  have hb1 : ∀ j, hV H1 b j = hV h0 b j := fun j => by rw [kb.2 j]; exact hv j
  refine g_aload_n rfl rfl ?_
  refine g_callVI [] [aI r1] rfl rfl rfl rfl (Nat.le_of_ble_eq_true rfl) im1.1.1 (q2 r1 hp H1 (c + 34) im1) ?_
  rintro r2 H2 ⟨er, m2, o2⟩
  refine g_icmp_eq_t rfl er.symm ?_
  exact K H2 _ (li.next x1 k1 m2 o2 (ok_beg ok))
set_option maxRecDepth 100000 in
set_option maxHeartbeats 4000000 in
theorem lw_case11 {w : aW} {h0 H : aH} {b L c n : Nat} {S : aS} {Q : Option aV → aH → Prop} (li : LI w h0 b L c n H S) (hi : 6 * n + 6 ≤ L) (hL : L ≤ 3072) (hr : ∀ j, j < 6 → -2147483648 ≤ hV h0 b (6 * n + j) ∧ hV h0 b (6 * n + j) < 2147483648) (K : ∀ H2 S2, LI w h0 b L c (n + 1) H2 S2 → Wk w 1000 cd_L_law 1432 [(4, aI ((6 * n : Nat) : Int)), (3, aO (some (c + 66))), (2, aO (some (c + 34))), (1, aO (some c)), (0, aO (some b))] [] H2 Q) : Wk w 1000 cd_L_law 755 [(4, aI ((6 * n : Nat) : Int)), (3, aO (some (c + 66))), (2, aO (some (c + 34))), (1, aO (some c)), (0, aO (some b))] [] H Q := by
  obtain ⟨⟨x, m, ok⟩, ⟨t1, t2, hb⟩, hv, -, -⟩ := id li
  have hcz := x.cz
  have two : TwI w 211 332 [aI (hV h0 b (6 * n + 1)), aI (hV h0 b (6 * n + 2)), aI (hV h0 b (6 * n + 3))] S ((corF S (hV h0 b (6 * n + 1)) (hV h0 b (6 * n + 2)) (hV h0 b (6 * n + 3))).2) := TwI.of (fun H c x => jx_corn (by omega) x ok (hV h0 b (6 * n + 1)) (hV h0 b (6 * n + 2)) (hV h0 b (6 * n + 3))) (fun H o y => jm_corn (by omega) y ok (hV h0 b (6 * n + 1)) (hV h0 b (6 * n + 2)) (hV h0 b (6 * n + 3)))
  obtain ⟨P, q1, q2⟩ := two H c x
  refine g_aload_n rfl rfl ?_
  refine g_aload_n rfl rfl ?_
  refine g_iload rfl rfl ?_
  refine g_iconst rfl ?_
  refine g_iadd rfl (by omega) (by omega) ?_
  refine g_sald (i := 6 * n + 1) rfl t2 (by omega) (by omega) ?_
  refine g_top (v2 := aI (hV h0 b (6 * n + 1))) (congrArg aI (hv _)) ?_
  refine g_aload_n rfl rfl ?_
  refine g_iload rfl rfl ?_
  refine g_iconst rfl ?_
  refine g_iadd rfl (by omega) (by omega) ?_
  refine g_sald (i := 6 * n + 2) rfl t2 (by omega) (by omega) ?_
  refine g_top (v2 := aI (hV h0 b (6 * n + 2))) (congrArg aI (hv _)) ?_
  refine g_aload_n rfl rfl ?_
  refine g_iload rfl rfl ?_
  refine g_iconst rfl ?_
  refine g_iadd rfl (by omega) (by omega) ?_
  refine g_sald (i := 6 * n + 3) rfl t2 (by omega) (by omega) ?_
  refine g_top (v2 := aI (hV h0 b (6 * n + 3))) (congrArg aI (hv _)) ?_
  refine g_callVI [aI (hV h0 b (6 * n + 1)), aI (hV h0 b (6 * n + 2)), aI (hV h0 b (6 * n + 3))] [] rfl rfl rfl rfl (Nat.le_of_ble_eq_true rfl) (x.cs.kd 0 (by omega) rfl) q1 ?_
  rintro r1 H1 ⟨hp, x1, k1⟩
  have im1 := m.kx k1 hcz
  have kb := k1.b hb (by omega)
  have tb1 : hT H1 b = (6, L) := by rw [kb.1]; exact t2
  have hb1 : ∀ j, hV H1 b j = hV h0 b j := fun j => by rw [kb.2 j]; exact hv j
  refine g_aload_n rfl rfl ?_
  refine g_aload_n rfl rfl ?_
  refine g_iload rfl rfl ?_
  refine g_iconst rfl ?_
  refine g_iadd rfl (by omega) (by omega) ?_
  refine g_sald (i := 6 * n + 1) rfl tb1 (by omega) (by omega) ?_
  refine g_top (v2 := aI (hV h0 b (6 * n + 1))) (congrArg aI (hb1 _)) ?_
  refine g_aload_n rfl rfl ?_
  refine g_iload rfl rfl ?_
  refine g_iconst rfl ?_
  refine g_iadd rfl (by omega) (by omega) ?_
  refine g_sald (i := 6 * n + 2) rfl tb1 (by omega) (by omega) ?_
  refine g_top (v2 := aI (hV h0 b (6 * n + 2))) (congrArg aI (hb1 _)) ?_
  refine g_aload_n rfl rfl ?_
  refine g_iload rfl rfl ?_
  refine g_iconst rfl ?_
  refine g_iadd rfl (by omega) (by omega) ?_
  refine g_sald (i := 6 * n + 3) rfl tb1 (by omega) (by omega) ?_
  refine g_top (v2 := aI (hV h0 b (6 * n + 3))) (congrArg aI (hb1 _)) ?_
  refine g_callVI [aI (hV h0 b (6 * n + 1)), aI (hV h0 b (6 * n + 2)), aI (hV h0 b (6 * n + 3))] [aI r1] rfl rfl rfl rfl (Nat.le_of_ble_eq_true rfl) im1.1.1 (q2 r1 hp H1 (c + 34) im1) ?_
  rintro r2 H2 ⟨er, m2, o2⟩
  refine g_icmp_eq_t rfl er.symm ?_
  exact K H2 _ (li.next x1 k1 m2 o2 (ok_cor ok _ _ _))
set_option maxRecDepth 100000 in
set_option maxHeartbeats 4000000 in
theorem lw_case12 {w : aW} {h0 H : aH} {b L c n : Nat} {S : aS} {Q : Option aV → aH → Prop} (li : LI w h0 b L c n H S) (hi : 6 * n + 6 ≤ L) (hL : L ≤ 3072) (hr : ∀ j, j < 6 → -2147483648 ≤ hV h0 b (6 * n + j) ∧ hV h0 b (6 * n + j) < 2147483648) (K : ∀ H2 S2, LI w h0 b L c (n + 1) H2 S2 → Wk w 1000 cd_L_law 1432 [(4, aI ((6 * n : Nat) : Int)), (3, aO (some (c + 66))), (2, aO (some (c + 34))), (1, aO (some c)), (0, aO (some b))] [] H2 Q) : Wk w 1000 cd_L_law 804 [(4, aI ((6 * n : Nat) : Int)), (3, aO (some (c + 66))), (2, aO (some (c + 34))), (1, aO (some c)), (0, aO (some b))] [] H Q := by
  obtain ⟨⟨x, m, ok⟩, ⟨t1, t2, hb⟩, hv, -, -⟩ := id li
  have hcz := x.cz
  have two : TwJ w 212 349 [aI (hV h0 b (6 * n + 1)), aI (hV h0 b (6 * n + 2))] S (S) := two_pgOf ok (hV h0 b (6 * n + 1)) (hV h0 b (6 * n + 2))
  obtain ⟨P, q1, q2⟩ := two H c x
  refine g_aload_n rfl rfl ?_
  refine g_aload_n rfl rfl ?_
  refine g_iload rfl rfl ?_
  refine g_iconst rfl ?_
  refine g_iadd rfl (by omega) (by omega) ?_
  refine g_sald (i := 6 * n + 1) rfl t2 (by omega) (by omega) ?_
  refine g_top (v2 := aI (hV h0 b (6 * n + 1))) (congrArg aI (hv _)) ?_
  refine g_aload_n rfl rfl ?_
  refine g_iload rfl rfl ?_
  refine g_iconst rfl ?_
  refine g_iadd rfl (by omega) (by omega) ?_
  refine g_sald (i := 6 * n + 2) rfl t2 (by omega) (by omega) ?_
  refine g_top (v2 := aI (hV h0 b (6 * n + 2))) (congrArg aI (hv _)) ?_
  refine g_callVJ [aI (hV h0 b (6 * n + 1)), aI (hV h0 b (6 * n + 2))] [] rfl rfl rfl rfl (Nat.le_of_ble_eq_true rfl) (x.cs.kd 0 (by omega) rfl) q1 ?_
  rintro r1 H1 ⟨hp, x1, k1⟩
  have im1 := m.kx k1 hcz
  have kb := k1.b hb (by omega)
  have tb1 : hT H1 b = (6, L) := by rw [kb.1]; exact t2
  have hb1 : ∀ j, hV H1 b j = hV h0 b j := fun j => by rw [kb.2 j]; exact hv j
  refine g_aload_n rfl rfl ?_
  refine g_aload_n rfl rfl ?_
  refine g_iload rfl rfl ?_
  refine g_iconst rfl ?_
  refine g_iadd rfl (by omega) (by omega) ?_
  refine g_sald (i := 6 * n + 1) rfl tb1 (by omega) (by omega) ?_
  refine g_top (v2 := aI (hV h0 b (6 * n + 1))) (congrArg aI (hb1 _)) ?_
  refine g_aload_n rfl rfl ?_
  refine g_iload rfl rfl ?_
  refine g_iconst rfl ?_
  refine g_iadd rfl (by omega) (by omega) ?_
  refine g_sald (i := 6 * n + 2) rfl tb1 (by omega) (by omega) ?_
  refine g_top (v2 := aI (hV h0 b (6 * n + 2))) (congrArg aI (hb1 _)) ?_
  refine g_callVJ [aI (hV h0 b (6 * n + 1)), aI (hV h0 b (6 * n + 2))] [aJ r1] rfl rfl rfl rfl (Nat.le_of_ble_eq_true rfl) im1.1.1 (q2 r1 hp H1 (c + 34) im1) ?_
  rintro r2 H2 ⟨er, m2, o2⟩
  refine g_lc_eq_t rfl rfl er.symm ?_
  exact K H2 _ (li.next x1 k1 m2 o2 (ok))
set_option maxRecDepth 100000 in
set_option maxHeartbeats 4000000 in
theorem lw_case13 {w : aW} {h0 H : aH} {b L c n : Nat} {S : aS} {Q : Option aV → aH → Prop} (li : LI w h0 b L c n H S) (hi : 6 * n + 6 ≤ L) (hL : L ≤ 3072) (hr : ∀ j, j < 6 → -2147483648 ≤ hV h0 b (6 * n + j) ∧ hV h0 b (6 * n + j) < 2147483648) (K : ∀ H2 S2, LI w h0 b L c (n + 1) H2 S2 → Wk w 1000 cd_L_law 1432 [(4, aI ((6 * n : Nat) : Int)), (3, aO (some (c + 66))), (2, aO (some (c + 34))), (1, aO (some c)), (0, aO (some b))] [] H2 Q) : Wk w 1000 cd_L_law 842 [(4, aI ((6 * n : Nat) : Int)), (3, aO (some (c + 66))), (2, aO (some (c + 34))), (1, aO (some c)), (0, aO (some b))] [] H Q := by
  obtain ⟨⟨x, m, ok⟩, ⟨t1, t2, hb⟩, hv, -, -⟩ := id li
  have hcz := x.cz
  have two : TwI w 213 350 [aI (hV h0 b (6 * n + 1)), aI (hV h0 b (6 * n + 2))] S (S) := TwI.of (fun H c x => jx_place (by omega) x ok (hV h0 b (6 * n + 1)) (hV h0 b (6 * n + 2))) (fun H o y => jm_place (by omega) y ok (hV h0 b (6 * n + 1)) (hV h0 b (6 * n + 2)))
  obtain ⟨P, q1, q2⟩ := two H c x
  refine g_aload_n rfl rfl ?_
  refine g_aload_n rfl rfl ?_
  refine g_iload rfl rfl ?_
  refine g_iconst rfl ?_
  refine g_iadd rfl (by omega) (by omega) ?_
  refine g_sald (i := 6 * n + 1) rfl t2 (by omega) (by omega) ?_
  refine g_top (v2 := aI (hV h0 b (6 * n + 1))) (congrArg aI (hv _)) ?_
  refine g_aload_n rfl rfl ?_
  refine g_iload rfl rfl ?_
  refine g_iconst rfl ?_
  refine g_iadd rfl (by omega) (by omega) ?_
  refine g_sald (i := 6 * n + 2) rfl t2 (by omega) (by omega) ?_
  refine g_top (v2 := aI (hV h0 b (6 * n + 2))) (congrArg aI (hv _)) ?_
  refine g_callVI [aI (hV h0 b (6 * n + 1)), aI (hV h0 b (6 * n + 2))] [] rfl rfl rfl rfl (Nat.le_of_ble_eq_true rfl) (x.cs.kd 0 (by omega) rfl) q1 ?_
  rintro r1 H1 ⟨hp, x1, k1⟩
  have im1 := m.kx k1 hcz
  have kb := k1.b hb (by omega)
  have tb1 : hT H1 b = (6, L) := by rw [kb.1]; exact t2
  have hb1 : ∀ j, hV H1 b j = hV h0 b j := fun j => by rw [kb.2 j]; exact hv j
  refine g_aload_n rfl rfl ?_
  refine g_aload_n rfl rfl ?_
  refine g_iload rfl rfl ?_
  refine g_iconst rfl ?_
  refine g_iadd rfl (by omega) (by omega) ?_
  refine g_sald (i := 6 * n + 1) rfl tb1 (by omega) (by omega) ?_
  refine g_top (v2 := aI (hV h0 b (6 * n + 1))) (congrArg aI (hb1 _)) ?_
  refine g_aload_n rfl rfl ?_
  refine g_iload rfl rfl ?_
  refine g_iconst rfl ?_
  refine g_iadd rfl (by omega) (by omega) ?_
  refine g_sald (i := 6 * n + 2) rfl tb1 (by omega) (by omega) ?_
  refine g_top (v2 := aI (hV h0 b (6 * n + 2))) (congrArg aI (hb1 _)) ?_
  refine g_callVI [aI (hV h0 b (6 * n + 1)), aI (hV h0 b (6 * n + 2))] [aI r1] rfl rfl rfl rfl (Nat.le_of_ble_eq_true rfl) im1.1.1 (q2 r1 hp H1 (c + 34) im1) ?_
  rintro r2 H2 ⟨er, m2, o2⟩
  refine g_icmp_eq_t rfl er.symm ?_
  exact K H2 _ (li.next x1 k1 m2 o2 (ok))
set_option maxRecDepth 100000 in
set_option maxHeartbeats 4000000 in
theorem lw_case14 {w : aW} {h0 H : aH} {b L c n : Nat} {S : aS} {Q : Option aV → aH → Prop} (li : LI w h0 b L c n H S) (hi : 6 * n + 6 ≤ L) (hL : L ≤ 3072) (hr : ∀ j, j < 6 → -2147483648 ≤ hV h0 b (6 * n + j) ∧ hV h0 b (6 * n + j) < 2147483648) (K : ∀ H2 S2, LI w h0 b L c (n + 1) H2 S2 → Wk w 1000 cd_L_law 1432 [(4, aI ((6 * n : Nat) : Int)), (3, aO (some (c + 66))), (2, aO (some (c + 34))), (1, aO (some c)), (0, aO (some b))] [] H2 Q) : Wk w 1000 cd_L_law 879 [(4, aI ((6 * n : Nat) : Int)), (3, aO (some (c + 66))), (2, aO (some (c + 34))), (1, aO (some c)), (0, aO (some b))] [] H Q := by
  obtain ⟨⟨x, m, ok⟩, ⟨t1, t2, hb⟩, hv, -, -⟩ := id li
  have hcz := x.cz
  have two : TwI w 214 351 [aI (hV h0 b (6 * n + 1)), aI (hV h0 b (6 * n + 2)), aI (hV h0 b (6 * n + 3))] S (S) := two_around ok (hV h0 b (6 * n + 1)) (hV h0 b (6 * n + 2)) (hV h0 b (6 * n + 3))
  obtain ⟨P, q1, q2⟩ := two H c x
  refine g_aload_n rfl rfl ?_
  refine g_aload_n rfl rfl ?_
  refine g_iload rfl rfl ?_
  refine g_iconst rfl ?_
  refine g_iadd rfl (by omega) (by omega) ?_
  refine g_sald (i := 6 * n + 1) rfl t2 (by omega) (by omega) ?_
  refine g_top (v2 := aI (hV h0 b (6 * n + 1))) (congrArg aI (hv _)) ?_
  refine g_aload_n rfl rfl ?_
  refine g_iload rfl rfl ?_
  refine g_iconst rfl ?_
  refine g_iadd rfl (by omega) (by omega) ?_
  refine g_sald (i := 6 * n + 2) rfl t2 (by omega) (by omega) ?_
  refine g_top (v2 := aI (hV h0 b (6 * n + 2))) (congrArg aI (hv _)) ?_
  refine g_aload_n rfl rfl ?_
  refine g_iload rfl rfl ?_
  refine g_iconst rfl ?_
  refine g_iadd rfl (by omega) (by omega) ?_
  refine g_sald (i := 6 * n + 3) rfl t2 (by omega) (by omega) ?_
  refine g_top (v2 := aI (hV h0 b (6 * n + 3))) (congrArg aI (hv _)) ?_
  refine g_callVI [aI (hV h0 b (6 * n + 1)), aI (hV h0 b (6 * n + 2)), aI (hV h0 b (6 * n + 3))] [] rfl rfl rfl rfl (Nat.le_of_ble_eq_true rfl) (x.cs.kd 0 (by omega) rfl) q1 ?_
  rintro r1 H1 ⟨hp, x1, k1⟩
  have im1 := m.kx k1 hcz
  have kb := k1.b hb (by omega)
  have tb1 : hT H1 b = (6, L) := by rw [kb.1]; exact t2
  have hb1 : ∀ j, hV H1 b j = hV h0 b j := fun j => by rw [kb.2 j]; exact hv j
  refine g_aload_n rfl rfl ?_
  refine g_aload_n rfl rfl ?_
  refine g_iload rfl rfl ?_
  refine g_iconst rfl ?_
  refine g_iadd rfl (by omega) (by omega) ?_
  refine g_sald (i := 6 * n + 1) rfl tb1 (by omega) (by omega) ?_
  refine g_top (v2 := aI (hV h0 b (6 * n + 1))) (congrArg aI (hb1 _)) ?_
  refine g_aload_n rfl rfl ?_
  refine g_iload rfl rfl ?_
  refine g_iconst rfl ?_
  refine g_iadd rfl (by omega) (by omega) ?_
  refine g_sald (i := 6 * n + 2) rfl tb1 (by omega) (by omega) ?_
  refine g_top (v2 := aI (hV h0 b (6 * n + 2))) (congrArg aI (hb1 _)) ?_
  refine g_aload_n rfl rfl ?_
  refine g_iload rfl rfl ?_
  refine g_iconst rfl ?_
  refine g_iadd rfl (by omega) (by omega) ?_
  refine g_sald (i := 6 * n + 3) rfl tb1 (by omega) (by omega) ?_
  refine g_top (v2 := aI (hV h0 b (6 * n + 3))) (congrArg aI (hb1 _)) ?_
  refine g_callVI [aI (hV h0 b (6 * n + 1)), aI (hV h0 b (6 * n + 2)), aI (hV h0 b (6 * n + 3))] [aI r1] rfl rfl rfl rfl (Nat.le_of_ble_eq_true rfl) im1.1.1 (q2 r1 hp H1 (c + 34) im1) ?_
  rintro r2 H2 ⟨er, m2, o2⟩
  refine g_icmp_eq_t rfl er.symm ?_
  exact K H2 _ (li.next x1 k1 m2 o2 (ok))
set_option maxRecDepth 100000 in
set_option maxHeartbeats 4000000 in
theorem lw_case15 {w : aW} {h0 H : aH} {b L c n : Nat} {S : aS} {Q : Option aV → aH → Prop} (li : LI w h0 b L c n H S) (hi : 6 * n + 6 ≤ L) (hL : L ≤ 3072) (hr : ∀ j, j < 6 → -2147483648 ≤ hV h0 b (6 * n + j) ∧ hV h0 b (6 * n + j) < 2147483648) (K : ∀ H2 S2, LI w h0 b L c (n + 1) H2 S2 → Wk w 1000 cd_L_law 1432 [(4, aI ((6 * n : Nat) : Int)), (3, aO (some (c + 66))), (2, aO (some (c + 34))), (1, aO (some c)), (0, aO (some b))] [] H2 Q) : Wk w 1000 cd_L_law 928 [(4, aI ((6 * n : Nat) : Int)), (3, aO (some (c + 66))), (2, aO (some (c + 34))), (1, aO (some c)), (0, aO (some b))] [] H Q := by
  obtain ⟨⟨x, m, ok⟩, ⟨t1, t2, hb⟩, hv, -, -⟩ := id li
  have hcz := x.cz
  have two : TwI w 215 356 [aJ (lor (lshl (hV h0 b (6 * n + 1)) 32) (land (hV h0 b (6 * n + 2)) 4294967295)), aI (hV h0 b (6 * n + 3))] S ((termF S (lor (lshl (hV h0 b (6 * n + 1)) 32) (land (hV h0 b (6 * n + 2)) 4294967295)) (hV h0 b (6 * n + 3))).2) := TwI.of (fun H c x => jx_term (by omega) x ok (lor (lshl (hV h0 b (6 * n + 1)) 32) (land (hV h0 b (6 * n + 2)) 4294967295)) (hV h0 b (6 * n + 3))) (fun H o y => jm_term (by omega) y ok (lor (lshl (hV h0 b (6 * n + 1)) 32) (land (hV h0 b (6 * n + 2)) 4294967295)) (hV h0 b (6 * n + 3)))
  obtain ⟨P, q1, q2⟩ := two H c x
  refine g_aload_n rfl rfl ?_
  refine g_aload_n rfl rfl ?_
  refine g_iload rfl rfl ?_
  refine g_iconst rfl ?_
  refine g_iadd rfl (by omega) (by omega) ?_
  refine g_sald (i := 6 * n + 1) rfl t2 (by omega) (by omega) ?_
  refine g_top (v2 := aI (hV h0 b (6 * n + 1))) (congrArg aI (hv _)) ?_
  refine g_i2l rfl ?_
  refine g_bipush rfl ?_
  refine g_lshl rfl ?_
  refine g_aload_n rfl rfl ?_
  refine g_iload rfl rfl ?_
  refine g_iconst rfl ?_
  refine g_iadd rfl (by omega) (by omega) ?_
  refine g_sald (i := 6 * n + 2) rfl t2 (by omega) (by omega) ?_
  refine g_top (v2 := aI (hV h0 b (6 * n + 2))) (congrArg aI (hv _)) ?_
  refine g_i2l rfl ?_
  refine g_ldc2 rfl ?_
  refine g_land rfl ?_
  refine g_lor rfl ?_
  refine g_aload_n rfl rfl ?_
  refine g_iload rfl rfl ?_
  refine g_iconst rfl ?_
  refine g_iadd rfl (by omega) (by omega) ?_
  refine g_sald (i := 6 * n + 3) rfl t2 (by omega) (by omega) ?_
  refine g_top (v2 := aI (hV h0 b (6 * n + 3))) (congrArg aI (hv _)) ?_
  refine g_callVI [aJ (lor (lshl (hV h0 b (6 * n + 1)) 32) (land (hV h0 b (6 * n + 2)) 4294967295)), aI (hV h0 b (6 * n + 3))] [] rfl rfl rfl rfl (Nat.le_of_ble_eq_true rfl) (x.cs.kd 0 (by omega) rfl) q1 ?_
  rintro r1 H1 ⟨hp, x1, k1⟩
  have im1 := m.kx k1 hcz
  have kb := k1.b hb (by omega)
  have tb1 : hT H1 b = (6, L) := by rw [kb.1]; exact t2
  have hb1 : ∀ j, hV H1 b j = hV h0 b j := fun j => by rw [kb.2 j]; exact hv j
  refine g_aload_n rfl rfl ?_
  refine g_aload_n rfl rfl ?_
  refine g_iload rfl rfl ?_
  refine g_iconst rfl ?_
  refine g_iadd rfl (by omega) (by omega) ?_
  refine g_sald (i := 6 * n + 1) rfl tb1 (by omega) (by omega) ?_
  refine g_top (v2 := aI (hV h0 b (6 * n + 1))) (congrArg aI (hb1 _)) ?_
  refine g_i2l rfl ?_
  refine g_bipush rfl ?_
  refine g_lshl rfl ?_
  refine g_aload_n rfl rfl ?_
  refine g_iload rfl rfl ?_
  refine g_iconst rfl ?_
  refine g_iadd rfl (by omega) (by omega) ?_
  refine g_sald (i := 6 * n + 2) rfl tb1 (by omega) (by omega) ?_
  refine g_top (v2 := aI (hV h0 b (6 * n + 2))) (congrArg aI (hb1 _)) ?_
  refine g_i2l rfl ?_
  refine g_ldc2 rfl ?_
  refine g_land rfl ?_
  refine g_lor rfl ?_
  refine g_aload_n rfl rfl ?_
  refine g_iload rfl rfl ?_
  refine g_iconst rfl ?_
  refine g_iadd rfl (by omega) (by omega) ?_
  refine g_sald (i := 6 * n + 3) rfl tb1 (by omega) (by omega) ?_
  refine g_top (v2 := aI (hV h0 b (6 * n + 3))) (congrArg aI (hb1 _)) ?_
  refine g_callVI [aJ (lor (lshl (hV h0 b (6 * n + 1)) 32) (land (hV h0 b (6 * n + 2)) 4294967295)), aI (hV h0 b (6 * n + 3))] [aI r1] rfl rfl rfl rfl (Nat.le_of_ble_eq_true rfl) im1.1.1 (q2 r1 hp H1 (c + 34) im1) ?_
  rintro r2 H2 ⟨er, m2, o2⟩
  refine g_icmp_eq_t rfl er.symm ?_
  exact K H2 _ (li.next x1 k1 m2 o2 (ok_term ok _ _))
set_option maxRecDepth 100000 in
set_option maxHeartbeats 4000000 in
theorem lw_case16 {w : aW} {h0 H : aH} {b L c n : Nat} {S : aS} {Q : Option aV → aH → Prop} (li : LI w h0 b L c n H S) (hi : 6 * n + 6 ≤ L) (hL : L ≤ 3072) (hr : ∀ j, j < 6 → -2147483648 ≤ hV h0 b (6 * n + j) ∧ hV h0 b (6 * n + j) < 2147483648) (K : ∀ H2 S2, LI w h0 b L c (n + 1) H2 S2 → Wk w 1000 cd_L_law 1432 [(4, aI ((6 * n : Nat) : Int)), (3, aO (some (c + 66))), (2, aO (some (c + 34))), (1, aO (some c)), (0, aO (some b))] [] H2 Q) : Wk w 1000 cd_L_law 997 [(4, aI ((6 * n : Nat) : Int)), (3, aO (some (c + 66))), (2, aO (some (c + 34))), (1, aO (some c)), (0, aO (some b))] [] H Q := by
  obtain ⟨⟨x, m, ok⟩, ⟨t1, t2, hb⟩, hv, -, -⟩ := id li
  have hcz := x.cz
  have two : TwI w 216 359 [aI (hV h0 b (6 * n + 1)), aI (hV h0 b (6 * n + 2)), aI (hV h0 b (6 * n + 3))] S ((cmbF S (hV h0 b (6 * n + 1)) (hV h0 b (6 * n + 2)) (hV h0 b (6 * n + 3))).2) := TwI.of (fun H c x => jx_comb (by omega) x ok (hV h0 b (6 * n + 1)) (hV h0 b (6 * n + 2)) (hV h0 b (6 * n + 3))) (fun H o y => jm_comb (by omega) y ok (hV h0 b (6 * n + 1)) (hV h0 b (6 * n + 2)) (hV h0 b (6 * n + 3)))
  obtain ⟨P, q1, q2⟩ := two H c x
  refine g_aload_n rfl rfl ?_
  refine g_aload_n rfl rfl ?_
  refine g_iload rfl rfl ?_
  refine g_iconst rfl ?_
  refine g_iadd rfl (by omega) (by omega) ?_
  refine g_sald (i := 6 * n + 1) rfl t2 (by omega) (by omega) ?_
  refine g_top (v2 := aI (hV h0 b (6 * n + 1))) (congrArg aI (hv _)) ?_
  refine g_aload_n rfl rfl ?_
  refine g_iload rfl rfl ?_
  refine g_iconst rfl ?_
  refine g_iadd rfl (by omega) (by omega) ?_
  refine g_sald (i := 6 * n + 2) rfl t2 (by omega) (by omega) ?_
  refine g_top (v2 := aI (hV h0 b (6 * n + 2))) (congrArg aI (hv _)) ?_
  refine g_aload_n rfl rfl ?_
  refine g_iload rfl rfl ?_
  refine g_iconst rfl ?_
  refine g_iadd rfl (by omega) (by omega) ?_
  refine g_sald (i := 6 * n + 3) rfl t2 (by omega) (by omega) ?_
  refine g_top (v2 := aI (hV h0 b (6 * n + 3))) (congrArg aI (hv _)) ?_
  refine g_callVI [aI (hV h0 b (6 * n + 1)), aI (hV h0 b (6 * n + 2)), aI (hV h0 b (6 * n + 3))] [] rfl rfl rfl rfl (Nat.le_of_ble_eq_true rfl) (x.cs.kd 0 (by omega) rfl) q1 ?_
  rintro r1 H1 ⟨hp, x1, k1⟩
  have im1 := m.kx k1 hcz
  have kb := k1.b hb (by omega)
  have tb1 : hT H1 b = (6, L) := by rw [kb.1]; exact t2
  have hb1 : ∀ j, hV H1 b j = hV h0 b j := fun j => by rw [kb.2 j]; exact hv j
  refine g_aload_n rfl rfl ?_
  refine g_aload_n rfl rfl ?_
  refine g_iload rfl rfl ?_
  refine g_iconst rfl ?_
  refine g_iadd rfl (by omega) (by omega) ?_
  refine g_sald (i := 6 * n + 1) rfl tb1 (by omega) (by omega) ?_
  refine g_top (v2 := aI (hV h0 b (6 * n + 1))) (congrArg aI (hb1 _)) ?_
  refine g_aload_n rfl rfl ?_
  refine g_iload rfl rfl ?_
  refine g_iconst rfl ?_
  refine g_iadd rfl (by omega) (by omega) ?_
  refine g_sald (i := 6 * n + 2) rfl tb1 (by omega) (by omega) ?_
  refine g_top (v2 := aI (hV h0 b (6 * n + 2))) (congrArg aI (hb1 _)) ?_
  refine g_aload_n rfl rfl ?_
  refine g_iload rfl rfl ?_
  refine g_iconst rfl ?_
  refine g_iadd rfl (by omega) (by omega) ?_
  refine g_sald (i := 6 * n + 3) rfl tb1 (by omega) (by omega) ?_
  refine g_top (v2 := aI (hV h0 b (6 * n + 3))) (congrArg aI (hb1 _)) ?_
  refine g_callVI [aI (hV h0 b (6 * n + 1)), aI (hV h0 b (6 * n + 2)), aI (hV h0 b (6 * n + 3))] [aI r1] rfl rfl rfl rfl (Nat.le_of_ble_eq_true rfl) im1.1.1 (q2 r1 hp H1 (c + 34) im1) ?_
  rintro r2 H2 ⟨er, m2, o2⟩
  refine g_icmp_eq_t rfl er.symm ?_
  exact K H2 _ (li.next x1 k1 m2 o2 (ok_comb ok _ _ _))
set_option maxRecDepth 100000 in
set_option maxHeartbeats 4000000 in
theorem lw_case17 {w : aW} {h0 H : aH} {b L c n : Nat} {S : aS} {Q : Option aV → aH → Prop} (li : LI w h0 b L c n H S) (hi : 6 * n + 6 ≤ L) (hL : L ≤ 3072) (hr : ∀ j, j < 6 → -2147483648 ≤ hV h0 b (6 * n + j) ∧ hV h0 b (6 * n + j) < 2147483648) (K : ∀ H2 S2, LI w h0 b L c (n + 1) H2 S2 → Wk w 1000 cd_L_law 1432 [(4, aI ((6 * n : Nat) : Int)), (3, aO (some (c + 66))), (2, aO (some (c + 34))), (1, aO (some c)), (0, aO (some b))] [] H2 Q) : Wk w 1000 cd_L_law 1046 [(4, aI ((6 * n : Nat) : Int)), (3, aO (some (c + 66))), (2, aO (some (c + 34))), (1, aO (some c)), (0, aO (some b))] [] H Q := by
  obtain ⟨⟨x, m, ok⟩, ⟨t1, t2, hb⟩, hv, -, -⟩ := id li
  have hcz := x.cz
  have two : TwJ w 217 361 [aI (hV h0 b (6 * n + 1)), aI (hV h0 b (6 * n + 2)), aI (hV h0 b (6 * n + 3)), aI (hV h0 b (6 * n + 4))] S (S) := TwJ.of (fun H c x => jx_coef (by omega) x ok (hV h0 b (6 * n + 1)) (hV h0 b (6 * n + 2)) (hV h0 b (6 * n + 3)) (hV h0 b (6 * n + 4))) (fun H o y => jm_coef (by omega) y ok (hV h0 b (6 * n + 1)) (hV h0 b (6 * n + 2)) (hV h0 b (6 * n + 3)) (hV h0 b (6 * n + 4)))
  obtain ⟨P, q1, q2⟩ := two H c x
  refine g_aload_n rfl rfl ?_
  refine g_aload_n rfl rfl ?_
  refine g_iload rfl rfl ?_
  refine g_iconst rfl ?_
  refine g_iadd rfl (by omega) (by omega) ?_
  refine g_sald (i := 6 * n + 1) rfl t2 (by omega) (by omega) ?_
  refine g_top (v2 := aI (hV h0 b (6 * n + 1))) (congrArg aI (hv _)) ?_
  refine g_aload_n rfl rfl ?_
  refine g_iload rfl rfl ?_
  refine g_iconst rfl ?_
  refine g_iadd rfl (by omega) (by omega) ?_
  refine g_sald (i := 6 * n + 2) rfl t2 (by omega) (by omega) ?_
  refine g_top (v2 := aI (hV h0 b (6 * n + 2))) (congrArg aI (hv _)) ?_
  refine g_aload_n rfl rfl ?_
  refine g_iload rfl rfl ?_
  refine g_iconst rfl ?_
  refine g_iadd rfl (by omega) (by omega) ?_
  refine g_sald (i := 6 * n + 3) rfl t2 (by omega) (by omega) ?_
  refine g_top (v2 := aI (hV h0 b (6 * n + 3))) (congrArg aI (hv _)) ?_
  refine g_aload_n rfl rfl ?_
  refine g_iload rfl rfl ?_
  refine g_iconst rfl ?_
  refine g_iadd rfl (by omega) (by omega) ?_
  refine g_sald (i := 6 * n + 4) rfl t2 (by omega) (by omega) ?_
  refine g_top (v2 := aI (hV h0 b (6 * n + 4))) (congrArg aI (hv _)) ?_
  refine g_callVJ [aI (hV h0 b (6 * n + 1)), aI (hV h0 b (6 * n + 2)), aI (hV h0 b (6 * n + 3)), aI (hV h0 b (6 * n + 4))] [] rfl rfl rfl rfl (Nat.le_of_ble_eq_true rfl) (x.cs.kd 0 (by omega) rfl) q1 ?_
  rintro r1 H1 ⟨hp, x1, k1⟩
  have im1 := m.kx k1 hcz
  have kb := k1.b hb (by omega)
  have tb1 : hT H1 b = (6, L) := by rw [kb.1]; exact t2
  have hb1 : ∀ j, hV H1 b j = hV h0 b j := fun j => by rw [kb.2 j]; exact hv j
  refine g_aload_n rfl rfl ?_
  refine g_aload_n rfl rfl ?_
  refine g_iload rfl rfl ?_
  refine g_iconst rfl ?_
  refine g_iadd rfl (by omega) (by omega) ?_
  refine g_sald (i := 6 * n + 1) rfl tb1 (by omega) (by omega) ?_
  refine g_top (v2 := aI (hV h0 b (6 * n + 1))) (congrArg aI (hb1 _)) ?_
  refine g_aload_n rfl rfl ?_
  refine g_iload rfl rfl ?_
  refine g_iconst rfl ?_
  refine g_iadd rfl (by omega) (by omega) ?_
  refine g_sald (i := 6 * n + 2) rfl tb1 (by omega) (by omega) ?_
  refine g_top (v2 := aI (hV h0 b (6 * n + 2))) (congrArg aI (hb1 _)) ?_
  refine g_aload_n rfl rfl ?_
  refine g_iload rfl rfl ?_
  refine g_iconst rfl ?_
  refine g_iadd rfl (by omega) (by omega) ?_
  refine g_sald (i := 6 * n + 3) rfl tb1 (by omega) (by omega) ?_
  refine g_top (v2 := aI (hV h0 b (6 * n + 3))) (congrArg aI (hb1 _)) ?_
  refine g_aload_n rfl rfl ?_
  refine g_iload rfl rfl ?_
  refine g_iconst rfl ?_
  refine g_iadd rfl (by omega) (by omega) ?_
  refine g_sald (i := 6 * n + 4) rfl tb1 (by omega) (by omega) ?_
  refine g_top (v2 := aI (hV h0 b (6 * n + 4))) (congrArg aI (hb1 _)) ?_
  refine g_callVJ [aI (hV h0 b (6 * n + 1)), aI (hV h0 b (6 * n + 2)), aI (hV h0 b (6 * n + 3)), aI (hV h0 b (6 * n + 4))] [aJ r1] rfl rfl rfl rfl (Nat.le_of_ble_eq_true rfl) im1.1.1 (q2 r1 hp H1 (c + 34) im1) ?_
  rintro r2 H2 ⟨er, m2, o2⟩
  refine g_lc_eq_t rfl rfl er.symm ?_
  exact K H2 _ (li.next x1 k1 m2 o2 (ok))
set_option maxRecDepth 100000 in
set_option maxHeartbeats 4000000 in
theorem lw_case18 {w : aW} {h0 H : aH} {b L c n : Nat} {S : aS} {Q : Option aV → aH → Prop} (li : LI w h0 b L c n H S) (hi : 6 * n + 6 ≤ L) (hL : L ≤ 3072) (hr : ∀ j, j < 6 → -2147483648 ≤ hV h0 b (6 * n + j) ∧ hV h0 b (6 * n + j) < 2147483648) (K : ∀ H2 S2, LI w h0 b L c (n + 1) H2 S2 → Wk w 1000 cd_L_law 1432 [(4, aI ((6 * n : Nat) : Int)), (3, aO (some (c + 66))), (2, aO (some (c + 34))), (1, aO (some c)), (0, aO (some b))] [] H2 Q) : Wk w 1000 cd_L_law 1108 [(4, aI ((6 * n : Nat) : Int)), (3, aO (some (c + 66))), (2, aO (some (c + 34))), (1, aO (some c)), (0, aO (some b))] [] H Q := by
  obtain ⟨⟨x, m, ok⟩, ⟨t1, t2, hb⟩, hv, -, -⟩ := id li
  have hcz := x.cz
  have two : TwI w 218 362 [aI (hV h0 b (6 * n + 1)), aI (hV h0 b (6 * n + 2))] S (S) := TwI.of (fun H c x => jx_same (by omega) x ok (hV h0 b (6 * n + 1)) (hV h0 b (6 * n + 2))) (fun H o y => jm_same (by omega) y ok (hV h0 b (6 * n + 1)) (hV h0 b (6 * n + 2)))
  obtain ⟨P, q1, q2⟩ := two H c x
  refine g_aload_n rfl rfl ?_
  refine g_aload_n rfl rfl ?_
  refine g_iload rfl rfl ?_
  refine g_iconst rfl ?_
  refine g_iadd rfl (by omega) (by omega) ?_
  refine g_sald (i := 6 * n + 1) rfl t2 (by omega) (by omega) ?_
  refine g_top (v2 := aI (hV h0 b (6 * n + 1))) (congrArg aI (hv _)) ?_
  refine g_aload_n rfl rfl ?_
  refine g_iload rfl rfl ?_
  refine g_iconst rfl ?_
  refine g_iadd rfl (by omega) (by omega) ?_
  refine g_sald (i := 6 * n + 2) rfl t2 (by omega) (by omega) ?_
  refine g_top (v2 := aI (hV h0 b (6 * n + 2))) (congrArg aI (hv _)) ?_
  refine g_callVI [aI (hV h0 b (6 * n + 1)), aI (hV h0 b (6 * n + 2))] [] rfl rfl rfl rfl (Nat.le_of_ble_eq_true rfl) (x.cs.kd 0 (by omega) rfl) q1 ?_
  rintro r1 H1 ⟨hp, x1, k1⟩
  have im1 := m.kx k1 hcz
  have kb := k1.b hb (by omega)
  have tb1 : hT H1 b = (6, L) := by rw [kb.1]; exact t2
  have hb1 : ∀ j, hV H1 b j = hV h0 b j := fun j => by rw [kb.2 j]; exact hv j
  refine g_aload_n rfl rfl ?_
  refine g_aload_n rfl rfl ?_
  refine g_iload rfl rfl ?_
  refine g_iconst rfl ?_
  refine g_iadd rfl (by omega) (by omega) ?_
  refine g_sald (i := 6 * n + 1) rfl tb1 (by omega) (by omega) ?_
  refine g_top (v2 := aI (hV h0 b (6 * n + 1))) (congrArg aI (hb1 _)) ?_
  refine g_aload_n rfl rfl ?_
  refine g_iload rfl rfl ?_
  refine g_iconst rfl ?_
  refine g_iadd rfl (by omega) (by omega) ?_
  refine g_sald (i := 6 * n + 2) rfl tb1 (by omega) (by omega) ?_
  refine g_top (v2 := aI (hV h0 b (6 * n + 2))) (congrArg aI (hb1 _)) ?_
  refine g_callVI [aI (hV h0 b (6 * n + 1)), aI (hV h0 b (6 * n + 2))] [aI r1] rfl rfl rfl rfl (Nat.le_of_ble_eq_true rfl) im1.1.1 (q2 r1 hp H1 (c + 34) im1) ?_
  rintro r2 H2 ⟨er, m2, o2⟩
  refine g_icmp_eq_t rfl er.symm ?_
  exact K H2 _ (li.next x1 k1 m2 o2 (ok))
set_option maxRecDepth 100000 in
set_option maxHeartbeats 4000000 in
theorem lw_case19 {w : aW} {h0 H : aH} {b L c n : Nat} {S : aS} {Q : Option aV → aH → Prop} (li : LI w h0 b L c n H S) (hi : 6 * n + 6 ≤ L) (hL : L ≤ 3072) (hr : ∀ j, j < 6 → -2147483648 ≤ hV h0 b (6 * n + j) ∧ hV h0 b (6 * n + j) < 2147483648) (K : ∀ H2 S2, LI w h0 b L c (n + 1) H2 S2 → Wk w 1000 cd_L_law 1432 [(4, aI ((6 * n : Nat) : Int)), (3, aO (some (c + 66))), (2, aO (some (c + 34))), (1, aO (some c)), (0, aO (some b))] [] H2 Q) : Wk w 1000 cd_L_law 1145 [(4, aI ((6 * n : Nat) : Int)), (3, aO (some (c + 66))), (2, aO (some (c + 34))), (1, aO (some c)), (0, aO (some b))] [] H Q := by
  obtain ⟨⟨x, m, ok⟩, ⟨t1, t2, hb⟩, hv, -, -⟩ := id li
  have hcz := x.cz
  have two : TwI w 219 363 [aI (hV h0 b (6 * n + 1)), aI (hV h0 b (6 * n + 2)), aI (hV h0 b (6 * n + 3)), aI (hV h0 b (6 * n + 4))] S ((valueF S (hV h0 b (6 * n + 1)) (hV h0 b (6 * n + 2)) (hV h0 b (6 * n + 3)) (hV h0 b (6 * n + 4))).2) := TwI.of (fun H c x => jx_value (by omega) x ok (hV h0 b (6 * n + 1)) (hV h0 b (6 * n + 2)) (hV h0 b (6 * n + 3)) (hV h0 b (6 * n + 4))) (fun H o y => jm_value (by omega) y ok (hV h0 b (6 * n + 1)) (hV h0 b (6 * n + 2)) (hV h0 b (6 * n + 3)) (hV h0 b (6 * n + 4)))
  obtain ⟨P, q1, q2⟩ := two H c x
  refine g_aload_n rfl rfl ?_
  refine g_aload_n rfl rfl ?_
  refine g_iload rfl rfl ?_
  refine g_iconst rfl ?_
  refine g_iadd rfl (by omega) (by omega) ?_
  refine g_sald (i := 6 * n + 1) rfl t2 (by omega) (by omega) ?_
  refine g_top (v2 := aI (hV h0 b (6 * n + 1))) (congrArg aI (hv _)) ?_
  refine g_aload_n rfl rfl ?_
  refine g_iload rfl rfl ?_
  refine g_iconst rfl ?_
  refine g_iadd rfl (by omega) (by omega) ?_
  refine g_sald (i := 6 * n + 2) rfl t2 (by omega) (by omega) ?_
  refine g_top (v2 := aI (hV h0 b (6 * n + 2))) (congrArg aI (hv _)) ?_
  refine g_aload_n rfl rfl ?_
  refine g_iload rfl rfl ?_
  refine g_iconst rfl ?_
  refine g_iadd rfl (by omega) (by omega) ?_
  refine g_sald (i := 6 * n + 3) rfl t2 (by omega) (by omega) ?_
  refine g_top (v2 := aI (hV h0 b (6 * n + 3))) (congrArg aI (hv _)) ?_
  refine g_aload_n rfl rfl ?_
  refine g_iload rfl rfl ?_
  refine g_iconst rfl ?_
  refine g_iadd rfl (by omega) (by omega) ?_
  refine g_sald (i := 6 * n + 4) rfl t2 (by omega) (by omega) ?_
  refine g_top (v2 := aI (hV h0 b (6 * n + 4))) (congrArg aI (hv _)) ?_
  refine g_callVI [aI (hV h0 b (6 * n + 1)), aI (hV h0 b (6 * n + 2)), aI (hV h0 b (6 * n + 3)), aI (hV h0 b (6 * n + 4))] [] rfl rfl rfl rfl (Nat.le_of_ble_eq_true rfl) (x.cs.kd 0 (by omega) rfl) q1 ?_
  rintro r1 H1 ⟨hp, x1, k1⟩
  have im1 := m.kx k1 hcz
  have kb := k1.b hb (by omega)
  have tb1 : hT H1 b = (6, L) := by rw [kb.1]; exact t2
  have hb1 : ∀ j, hV H1 b j = hV h0 b j := fun j => by rw [kb.2 j]; exact hv j
  refine g_aload_n rfl rfl ?_
  refine g_aload_n rfl rfl ?_
  refine g_iload rfl rfl ?_
  refine g_iconst rfl ?_
  refine g_iadd rfl (by omega) (by omega) ?_
  refine g_sald (i := 6 * n + 1) rfl tb1 (by omega) (by omega) ?_
  refine g_top (v2 := aI (hV h0 b (6 * n + 1))) (congrArg aI (hb1 _)) ?_
  refine g_aload_n rfl rfl ?_
  refine g_iload rfl rfl ?_
  refine g_iconst rfl ?_
  refine g_iadd rfl (by omega) (by omega) ?_
  refine g_sald (i := 6 * n + 2) rfl tb1 (by omega) (by omega) ?_
  refine g_top (v2 := aI (hV h0 b (6 * n + 2))) (congrArg aI (hb1 _)) ?_
  refine g_aload_n rfl rfl ?_
  refine g_iload rfl rfl ?_
  refine g_iconst rfl ?_
  refine g_iadd rfl (by omega) (by omega) ?_
  refine g_sald (i := 6 * n + 3) rfl tb1 (by omega) (by omega) ?_
  refine g_top (v2 := aI (hV h0 b (6 * n + 3))) (congrArg aI (hb1 _)) ?_
  refine g_aload_n rfl rfl ?_
  refine g_iload rfl rfl ?_
  refine g_iconst rfl ?_
  refine g_iadd rfl (by omega) (by omega) ?_
  refine g_sald (i := 6 * n + 4) rfl tb1 (by omega) (by omega) ?_
  refine g_top (v2 := aI (hV h0 b (6 * n + 4))) (congrArg aI (hb1 _)) ?_
  refine g_callVI [aI (hV h0 b (6 * n + 1)), aI (hV h0 b (6 * n + 2)), aI (hV h0 b (6 * n + 3)), aI (hV h0 b (6 * n + 4))] [aI r1] rfl rfl rfl rfl (Nat.le_of_ble_eq_true rfl) im1.1.1 (q2 r1 hp H1 (c + 34) im1) ?_
  rintro r2 H2 ⟨er, m2, o2⟩
  refine g_icmp_eq_t rfl er.symm ?_
  exact K H2 _ (li.next x1 k1 m2 o2 (ok_value ok _ _ _ _))
set_option maxRecDepth 100000 in
set_option maxHeartbeats 4000000 in
theorem lw_case20 {w : aW} {h0 H : aH} {b L c n : Nat} {S : aS} {Q : Option aV → aH → Prop} (li : LI w h0 b L c n H S) (hi : 6 * n + 6 ≤ L) (hL : L ≤ 3072) (hr : ∀ j, j < 6 → -2147483648 ≤ hV h0 b (6 * n + j) ∧ hV h0 b (6 * n + j) < 2147483648) (K : ∀ H2 S2, LI w h0 b L c (n + 1) H2 S2 → Wk w 1000 cd_L_law 1432 [(4, aI ((6 * n : Nat) : Int)), (3, aO (some (c + 66))), (2, aO (some (c + 34))), (1, aO (some c)), (0, aO (some b))] [] H2 Q) : Wk w 1000 cd_L_law 1206 [(4, aI ((6 * n : Nat) : Int)), (3, aO (some (c + 66))), (2, aO (some (c + 34))), (1, aO (some c)), (0, aO (some b))] [] H Q := by
  obtain ⟨⟨x, m, ok⟩, ⟨t1, t2, hb⟩, hv, -, -⟩ := id li
  have hcz := x.cz
  have two : TwJ w 220 366 [aI (hV h0 b (6 * n + 1)), aI (hV h0 b (6 * n + 2)), aJ (lor (lshl (hV h0 b (6 * n + 3)) 32) (land (hV h0 b (6 * n + 4)) 4294967295))] S (S) := TwJ.of (fun H c x => jx_tile (by omega) x ok (hV h0 b (6 * n + 1)) (hV h0 b (6 * n + 2)) (lor (lshl (hV h0 b (6 * n + 3)) 32) (land (hV h0 b (6 * n + 4)) 4294967295))) (fun H o y => jm_tile (by omega) y ok (hV h0 b (6 * n + 1)) (hV h0 b (6 * n + 2)) (lor (lshl (hV h0 b (6 * n + 3)) 32) (land (hV h0 b (6 * n + 4)) 4294967295)))
  obtain ⟨P, q1, q2⟩ := two H c x
  refine g_aload_n rfl rfl ?_
  refine g_aload_n rfl rfl ?_
  refine g_iload rfl rfl ?_
  refine g_iconst rfl ?_
  refine g_iadd rfl (by omega) (by omega) ?_
  refine g_sald (i := 6 * n + 1) rfl t2 (by omega) (by omega) ?_
  refine g_top (v2 := aI (hV h0 b (6 * n + 1))) (congrArg aI (hv _)) ?_
  refine g_aload_n rfl rfl ?_
  refine g_iload rfl rfl ?_
  refine g_iconst rfl ?_
  refine g_iadd rfl (by omega) (by omega) ?_
  refine g_sald (i := 6 * n + 2) rfl t2 (by omega) (by omega) ?_
  refine g_top (v2 := aI (hV h0 b (6 * n + 2))) (congrArg aI (hv _)) ?_
  refine g_aload_n rfl rfl ?_
  refine g_iload rfl rfl ?_
  refine g_iconst rfl ?_
  refine g_iadd rfl (by omega) (by omega) ?_
  refine g_sald (i := 6 * n + 3) rfl t2 (by omega) (by omega) ?_
  refine g_top (v2 := aI (hV h0 b (6 * n + 3))) (congrArg aI (hv _)) ?_
  refine g_i2l rfl ?_
  refine g_bipush rfl ?_
  refine g_lshl rfl ?_
  refine g_aload_n rfl rfl ?_
  refine g_iload rfl rfl ?_
  refine g_iconst rfl ?_
  refine g_iadd rfl (by omega) (by omega) ?_
  refine g_sald (i := 6 * n + 4) rfl t2 (by omega) (by omega) ?_
  refine g_top (v2 := aI (hV h0 b (6 * n + 4))) (congrArg aI (hv _)) ?_
  refine g_i2l rfl ?_
  refine g_ldc2 rfl ?_
  refine g_land rfl ?_
  refine g_lor rfl ?_
  refine g_callVJ [aI (hV h0 b (6 * n + 1)), aI (hV h0 b (6 * n + 2)), aJ (lor (lshl (hV h0 b (6 * n + 3)) 32) (land (hV h0 b (6 * n + 4)) 4294967295))] [] rfl rfl rfl rfl (Nat.le_of_ble_eq_true rfl) (x.cs.kd 0 (by omega) rfl) q1 ?_
  rintro r1 H1 ⟨hp, x1, k1⟩
  have im1 := m.kx k1 hcz
  have kb := k1.b hb (by omega)
  have tb1 : hT H1 b = (6, L) := by rw [kb.1]; exact t2
  have hb1 : ∀ j, hV H1 b j = hV h0 b j := fun j => by rw [kb.2 j]; exact hv j
  refine g_aload_n rfl rfl ?_
  refine g_aload_n rfl rfl ?_
  refine g_iload rfl rfl ?_
  refine g_iconst rfl ?_
  refine g_iadd rfl (by omega) (by omega) ?_
  refine g_sald (i := 6 * n + 1) rfl tb1 (by omega) (by omega) ?_
  refine g_top (v2 := aI (hV h0 b (6 * n + 1))) (congrArg aI (hb1 _)) ?_
  refine g_aload_n rfl rfl ?_
  refine g_iload rfl rfl ?_
  refine g_iconst rfl ?_
  refine g_iadd rfl (by omega) (by omega) ?_
  refine g_sald (i := 6 * n + 2) rfl tb1 (by omega) (by omega) ?_
  refine g_top (v2 := aI (hV h0 b (6 * n + 2))) (congrArg aI (hb1 _)) ?_
  refine g_aload_n rfl rfl ?_
  refine g_iload rfl rfl ?_
  refine g_iconst rfl ?_
  refine g_iadd rfl (by omega) (by omega) ?_
  refine g_sald (i := 6 * n + 3) rfl tb1 (by omega) (by omega) ?_
  refine g_top (v2 := aI (hV h0 b (6 * n + 3))) (congrArg aI (hb1 _)) ?_
  refine g_i2l rfl ?_
  refine g_bipush rfl ?_
  refine g_lshl rfl ?_
  refine g_aload_n rfl rfl ?_
  refine g_iload rfl rfl ?_
  refine g_iconst rfl ?_
  refine g_iadd rfl (by omega) (by omega) ?_
  refine g_sald (i := 6 * n + 4) rfl tb1 (by omega) (by omega) ?_
  refine g_top (v2 := aI (hV h0 b (6 * n + 4))) (congrArg aI (hb1 _)) ?_
  refine g_i2l rfl ?_
  refine g_ldc2 rfl ?_
  refine g_land rfl ?_
  refine g_lor rfl ?_
  refine g_callVJ [aI (hV h0 b (6 * n + 1)), aI (hV h0 b (6 * n + 2)), aJ (lor (lshl (hV h0 b (6 * n + 3)) 32) (land (hV h0 b (6 * n + 4)) 4294967295))] [aJ r1] rfl rfl rfl rfl (Nat.le_of_ble_eq_true rfl) im1.1.1 (q2 r1 hp H1 (c + 34) im1) ?_
  rintro r2 H2 ⟨er, m2, o2⟩
  refine g_lc_eq_t rfl rfl er.symm ?_
  exact K H2 _ (li.next x1 k1 m2 o2 (ok))
set_option maxRecDepth 100000 in
set_option maxHeartbeats 4000000 in
theorem lw_case21 {w : aW} {h0 H : aH} {b L c n : Nat} {S : aS} {Q : Option aV → aH → Prop} (li : LI w h0 b L c n H S) (hi : 6 * n + 6 ≤ L) (hL : L ≤ 3072) (hr : ∀ j, j < 6 → -2147483648 ≤ hV h0 b (6 * n + j) ∧ hV h0 b (6 * n + j) < 2147483648) (K : ∀ H2 S2, LI w h0 b L c (n + 1) H2 S2 → Wk w 1000 cd_L_law 1432 [(4, aI ((6 * n : Nat) : Int)), (3, aO (some (c + 66))), (2, aO (some (c + 34))), (1, aO (some c)), (0, aO (some b))] [] H2 Q) : Wk w 1000 cd_L_law 1288 [(4, aI ((6 * n : Nat) : Int)), (3, aO (some (c + 66))), (2, aO (some (c + 34))), (1, aO (some c)), (0, aO (some b))] [] H Q := by
  obtain ⟨⟨x, m, ok⟩, ⟨t1, t2, hb⟩, hv, -, -⟩ := id li
  have hcz := x.cz
  have two : TwJ w 221 367 [aI (hV h0 b (6 * n + 1)), aI (hV h0 b (6 * n + 2)), aJ (lor (lshl (hV h0 b (6 * n + 3)) 32) (land (hV h0 b (6 * n + 4)) 4294967295))] S (S) := TwJ.of (fun H c x => jx_rows (by omega) x ok (hV h0 b (6 * n + 1)) (hV h0 b (6 * n + 2)) (lor (lshl (hV h0 b (6 * n + 3)) 32) (land (hV h0 b (6 * n + 4)) 4294967295))) (fun H o y => jm_rows (by omega) y ok (hV h0 b (6 * n + 1)) (hV h0 b (6 * n + 2)) (lor (lshl (hV h0 b (6 * n + 3)) 32) (land (hV h0 b (6 * n + 4)) 4294967295)))
  obtain ⟨P, q1, q2⟩ := two H c x
  refine g_aload_n rfl rfl ?_
  refine g_aload_n rfl rfl ?_
  refine g_iload rfl rfl ?_
  refine g_iconst rfl ?_
  refine g_iadd rfl (by omega) (by omega) ?_
  refine g_sald (i := 6 * n + 1) rfl t2 (by omega) (by omega) ?_
  refine g_top (v2 := aI (hV h0 b (6 * n + 1))) (congrArg aI (hv _)) ?_
  refine g_aload_n rfl rfl ?_
  refine g_iload rfl rfl ?_
  refine g_iconst rfl ?_
  refine g_iadd rfl (by omega) (by omega) ?_
  refine g_sald (i := 6 * n + 2) rfl t2 (by omega) (by omega) ?_
  refine g_top (v2 := aI (hV h0 b (6 * n + 2))) (congrArg aI (hv _)) ?_
  refine g_aload_n rfl rfl ?_
  refine g_iload rfl rfl ?_
  refine g_iconst rfl ?_
  refine g_iadd rfl (by omega) (by omega) ?_
  refine g_sald (i := 6 * n + 3) rfl t2 (by omega) (by omega) ?_
  refine g_top (v2 := aI (hV h0 b (6 * n + 3))) (congrArg aI (hv _)) ?_
  refine g_i2l rfl ?_
  refine g_bipush rfl ?_
  refine g_lshl rfl ?_
  refine g_aload_n rfl rfl ?_
  refine g_iload rfl rfl ?_
  refine g_iconst rfl ?_
  refine g_iadd rfl (by omega) (by omega) ?_
  refine g_sald (i := 6 * n + 4) rfl t2 (by omega) (by omega) ?_
  refine g_top (v2 := aI (hV h0 b (6 * n + 4))) (congrArg aI (hv _)) ?_
  refine g_i2l rfl ?_
  refine g_ldc2 rfl ?_
  refine g_land rfl ?_
  refine g_lor rfl ?_
  refine g_callVJ [aI (hV h0 b (6 * n + 1)), aI (hV h0 b (6 * n + 2)), aJ (lor (lshl (hV h0 b (6 * n + 3)) 32) (land (hV h0 b (6 * n + 4)) 4294967295))] [] rfl rfl rfl rfl (Nat.le_of_ble_eq_true rfl) (x.cs.kd 0 (by omega) rfl) q1 ?_
  rintro r1 H1 ⟨hp, x1, k1⟩
  have im1 := m.kx k1 hcz
  have kb := k1.b hb (by omega)
  have tb1 : hT H1 b = (6, L) := by rw [kb.1]; exact t2
  have hb1 : ∀ j, hV H1 b j = hV h0 b j := fun j => by rw [kb.2 j]; exact hv j
  refine g_aload_n rfl rfl ?_
  refine g_aload_n rfl rfl ?_
  refine g_iload rfl rfl ?_
  refine g_iconst rfl ?_
  refine g_iadd rfl (by omega) (by omega) ?_
  refine g_sald (i := 6 * n + 1) rfl tb1 (by omega) (by omega) ?_
  refine g_top (v2 := aI (hV h0 b (6 * n + 1))) (congrArg aI (hb1 _)) ?_
  refine g_aload_n rfl rfl ?_
  refine g_iload rfl rfl ?_
  refine g_iconst rfl ?_
  refine g_iadd rfl (by omega) (by omega) ?_
  refine g_sald (i := 6 * n + 2) rfl tb1 (by omega) (by omega) ?_
  refine g_top (v2 := aI (hV h0 b (6 * n + 2))) (congrArg aI (hb1 _)) ?_
  refine g_aload_n rfl rfl ?_
  refine g_iload rfl rfl ?_
  refine g_iconst rfl ?_
  refine g_iadd rfl (by omega) (by omega) ?_
  refine g_sald (i := 6 * n + 3) rfl tb1 (by omega) (by omega) ?_
  refine g_top (v2 := aI (hV h0 b (6 * n + 3))) (congrArg aI (hb1 _)) ?_
  refine g_i2l rfl ?_
  refine g_bipush rfl ?_
  refine g_lshl rfl ?_
  refine g_aload_n rfl rfl ?_
  refine g_iload rfl rfl ?_
  refine g_iconst rfl ?_
  refine g_iadd rfl (by omega) (by omega) ?_
  refine g_sald (i := 6 * n + 4) rfl tb1 (by omega) (by omega) ?_
  refine g_top (v2 := aI (hV h0 b (6 * n + 4))) (congrArg aI (hb1 _)) ?_
  refine g_i2l rfl ?_
  refine g_ldc2 rfl ?_
  refine g_land rfl ?_
  refine g_lor rfl ?_
  refine g_callVJ [aI (hV h0 b (6 * n + 1)), aI (hV h0 b (6 * n + 2)), aJ (lor (lshl (hV h0 b (6 * n + 3)) 32) (land (hV h0 b (6 * n + 4)) 4294967295))] [aJ r1] rfl rfl rfl rfl (Nat.le_of_ble_eq_true rfl) im1.1.1 (q2 r1 hp H1 (c + 34) im1) ?_
  rintro r2 H2 ⟨er, m2, o2⟩
  refine g_lc_eq_t rfl rfl er.symm ?_
  exact K H2 _ (li.next x1 k1 m2 o2 (ok))
set_option maxRecDepth 100000 in
set_option maxHeartbeats 4000000 in
theorem lw_case22 {w : aW} {h0 H : aH} {b L c n : Nat} {S : aS} {Q : Option aV → aH → Prop} (li : LI w h0 b L c n H S) (hi : 6 * n + 6 ≤ L) (hL : L ≤ 3072) (hr : ∀ j, j < 6 → -2147483648 ≤ hV h0 b (6 * n + j) ∧ hV h0 b (6 * n + j) < 2147483648) (K : ∀ H2 S2, LI w h0 b L c (n + 1) H2 S2 → Wk w 1000 cd_L_law 1432 [(4, aI ((6 * n : Nat) : Int)), (3, aO (some (c + 66))), (2, aO (some (c + 34))), (1, aO (some c)), (0, aO (some b))] [] H2 Q) : Wk w 1000 cd_L_law 1370 [(4, aI ((6 * n : Nat) : Int)), (3, aO (some (c + 66))), (2, aO (some (c + 34))), (1, aO (some c)), (0, aO (some b))] [] H Q := by
  obtain ⟨⟨x, m, ok⟩, ⟨t1, t2, hb⟩, hv, -, -⟩ := id li
  have hcz := x.cz
  have two : TwI w 222 380 [aI (hV h0 b (6 * n + 1)), aI (hV h0 b (6 * n + 2))] S (S) := TwI.of (fun H c x => jx_list (by omega) x ok (hV h0 b (6 * n + 1)) (hV h0 b (6 * n + 2))) (fun H o y => jm_list (by omega) y ok (hV h0 b (6 * n + 1)) (hV h0 b (6 * n + 2)))
  obtain ⟨P, q1, q2⟩ := two H c x
  refine g_aload_n rfl rfl ?_
  refine g_aload_n rfl rfl ?_
  refine g_iload rfl rfl ?_
  refine g_iconst rfl ?_
  refine g_iadd rfl (by omega) (by omega) ?_
  refine g_sald (i := 6 * n + 1) rfl t2 (by omega) (by omega) ?_
  refine g_top (v2 := aI (hV h0 b (6 * n + 1))) (congrArg aI (hv _)) ?_
  refine g_aload_n rfl rfl ?_
  refine g_iload rfl rfl ?_
  refine g_iconst rfl ?_
  refine g_iadd rfl (by omega) (by omega) ?_
  refine g_sald (i := 6 * n + 2) rfl t2 (by omega) (by omega) ?_
  refine g_top (v2 := aI (hV h0 b (6 * n + 2))) (congrArg aI (hv _)) ?_
  refine g_callVI [aI (hV h0 b (6 * n + 1)), aI (hV h0 b (6 * n + 2))] [] rfl rfl rfl rfl (Nat.le_of_ble_eq_true rfl) (x.cs.kd 0 (by omega) rfl) q1 ?_
  rintro r1 H1 ⟨hp, x1, k1⟩
  have im1 := m.kx k1 hcz
  have kb := k1.b hb (by omega)
  have tb1 : hT H1 b = (6, L) := by rw [kb.1]; exact t2
  have hb1 : ∀ j, hV H1 b j = hV h0 b j := fun j => by rw [kb.2 j]; exact hv j
  refine g_aload_n rfl rfl ?_
  refine g_aload_n rfl rfl ?_
  refine g_iload rfl rfl ?_
  refine g_iconst rfl ?_
  refine g_iadd rfl (by omega) (by omega) ?_
  refine g_sald (i := 6 * n + 1) rfl tb1 (by omega) (by omega) ?_
  refine g_top (v2 := aI (hV h0 b (6 * n + 1))) (congrArg aI (hb1 _)) ?_
  refine g_aload_n rfl rfl ?_
  refine g_iload rfl rfl ?_
  refine g_iconst rfl ?_
  refine g_iadd rfl (by omega) (by omega) ?_
  refine g_sald (i := 6 * n + 2) rfl tb1 (by omega) (by omega) ?_
  refine g_top (v2 := aI (hV h0 b (6 * n + 2))) (congrArg aI (hb1 _)) ?_
  refine g_callVI [aI (hV h0 b (6 * n + 1)), aI (hV h0 b (6 * n + 2))] [aI r1] rfl rfl rfl rfl (Nat.le_of_ble_eq_true rfl) im1.1.1 (q2 r1 hp H1 (c + 34) im1) ?_
  rintro r2 H2 ⟨er, m2, o2⟩
  refine g_icmp_eq_t rfl er.symm ?_
  exact K H2 _ (li.next x1 k1 m2 o2 (ok))
set_option maxRecDepth 100000 in
set_option maxHeartbeats 4000000 in
theorem lw_case23 {w : aW} {h0 H : aH} {b L c n : Nat} {S : aS} {Q : Option aV → aH → Prop} (li : LI w h0 b L c n H S) (hi : 6 * n + 6 ≤ L) (hL : L ≤ 3072) (hr : ∀ j, j < 6 → -2147483648 ≤ hV h0 b (6 * n + j) ∧ hV h0 b (6 * n + j) < 2147483648) (K : ∀ H2 S2, LI w h0 b L c (n + 1) H2 S2 → Wk w 1000 cd_L_law 1432 [(4, aI ((6 * n : Nat) : Int)), (3, aO (some (c + 66))), (2, aO (some (c + 34))), (1, aO (some c)), (0, aO (some b))] [] H2 Q) : Wk w 1000 cd_L_law 1407 [(4, aI ((6 * n : Nat) : Int)), (3, aO (some (c + 66))), (2, aO (some (c + 34))), (1, aO (some c)), (0, aO (some b))] [] H Q := by
  obtain ⟨⟨x, m, ok⟩, ⟨t1, t2, hb⟩, hv, -, -⟩ := id li
  have hcz := x.cz
  have two : TwI w 223 381 [aI (hV h0 b (6 * n + 1))] S (S) := TwI.of (fun H c x => jx_cnt (by omega) x ok (hV h0 b (6 * n + 1))) (fun H o y => jm_cnt (by omega) y ok (hV h0 b (6 * n + 1)))
  obtain ⟨P, q1, q2⟩ := two H c x
  refine g_aload_n rfl rfl ?_
  refine g_aload_n rfl rfl ?_
  refine g_iload rfl rfl ?_
  refine g_iconst rfl ?_
  refine g_iadd rfl (by omega) (by omega) ?_
  refine g_sald (i := 6 * n + 1) rfl t2 (by omega) (by omega) ?_
  refine g_top (v2 := aI (hV h0 b (6 * n + 1))) (congrArg aI (hv _)) ?_
  refine g_callVI [aI (hV h0 b (6 * n + 1))] [] rfl rfl rfl rfl (Nat.le_of_ble_eq_true rfl) (x.cs.kd 0 (by omega) rfl) q1 ?_
  rintro r1 H1 ⟨hp, x1, k1⟩
  have im1 := m.kx k1 hcz
  have kb := k1.b hb (by omega)
  have tb1 : hT H1 b = (6, L) := by rw [kb.1]; exact t2
  have hb1 : ∀ j, hV H1 b j = hV h0 b j := fun j => by rw [kb.2 j]; exact hv j
  refine g_aload_n rfl rfl ?_
  refine g_aload_n rfl rfl ?_
  refine g_iload rfl rfl ?_
  refine g_iconst rfl ?_
  refine g_iadd rfl (by omega) (by omega) ?_
  refine g_sald (i := 6 * n + 1) rfl tb1 (by omega) (by omega) ?_
  refine g_top (v2 := aI (hV h0 b (6 * n + 1))) (congrArg aI (hb1 _)) ?_
  refine g_callVI [aI (hV h0 b (6 * n + 1))] [aI r1] rfl rfl rfl rfl (Nat.le_of_ble_eq_true rfl) im1.1.1 (q2 r1 hp H1 (c + 34) im1) ?_
  rintro r2 H2 ⟨er, m2, o2⟩
  refine g_icmp_eq_t rfl er.symm ?_
  exact K H2 _ (li.next x1 k1 m2 o2 (ok))
/-! the law's loop: printed by wip/whole/law_.py -/
set_option maxRecDepth 100000 in
set_option maxHeartbeats 4000000 in
theorem lw_loop {w : aW} {h0 : aH} {b L c : Nat} (hL : L ≤ 3072) (hr : ∀ j < L, r32 (hV h0 b j)) : ∀ (fuel n : Nat) (H : aH) (S : aS), LI w h0 b L c n H S → 6 * n ≤ L → L - 6 * n < fuel → Wk w 1000 cd_L_law 23 [(4, aI ((6 * n : Nat) : Int)), (3, aO (some (c + 66))), (2, aO (some (c + 34))), (1, aO (some c)), (0, aO (some b))] [] H (RI (fun r h1 => r = 1 ∧ ∃ n1 S1, LI w h0 b L c n1 h1 S1 ∧ 6 * n1 ≤ L)) := by
  intro fuel
  induction fuel with
  | zero => intros; omega
  | succ fuel ih =>
    intro n H S li hn hf
    obtain ⟨⟨x, m, ok⟩, ⟨t1, t2, hb⟩, hv, -, -⟩ := id li
    have hcz := x.cz
    refine g_iload rfl rfl ?_
    refine g_aload_n rfl rfl ?_
    refine g_alen rfl t2 (by omega) ?_
    refine g_bipush rfl ?_
    refine g_isub rfl (by omega) (by omega) ?_
    refine g_icmp_gt rfl (fun c30 => ?_) (fun c30 => ?_)
    · refine g_iconst rfl ?_
      exact g_zret rfl (by omega) ⟨rfl, n, S, li, hn⟩
    · have hi : 6 * n + 6 ≤ L := by omega
      have hr6 : ∀ j, j < 6 → -2147483648 ≤ hV h0 b (6 * n + j) ∧ hV h0 b (6 * n + j) < 2147483648 := fun j hj => hr _ (by omega)
      have K : ∀ H2 S2, LI w h0 b L c (n + 1) H2 S2 → Wk w 1000 cd_L_law 1432 [(4, aI ((6 * n : Nat) : Int)), (3, aO (some (c + 66))), (2, aO (some (c + 34))), (1, aO (some c)), (0, aO (some b))] [] H2 (RI (fun r h1 => r = 1 ∧ ∃ n1 S1, LI w h0 b L c n1 h1 S1 ∧ 6 * n1 ≤ L)) := fun H2 S2 l2 => by
        refine g_iinc (l1 := [(4, aI (((6 * n : Nat) : Int) + 6)), (3, aO (some (c + 66))), (2, aO (some (c + 34))), (1, aO (some c)), (0, aO (some b))]) rfl rfl (by omega) (by omega) rfl ?_
        refine g_goto rfl ?_
        rw [show (((6 * n : Nat) : Int) + 6) = ((6 * (n + 1) : Nat) : Int) by omega]
        exact ih (n + 1) H2 S2 l2 (by omega) (by omega)
      refine g_aload_n rfl rfl ?_
      refine g_iload rfl rfl ?_
      refine g_sald (i := 6 * n) rfl t2 rfl (by omega) ?_
      refine g_top (v2 := aI (hV h0 b (6 * n))) (congrArg aI (hv _)) ?_
      refine g_bipush rfl ?_
      refine g_iand rfl ?_
      have e31 : iand (hV h0 b (6 * n)) 31 = hV h0 b (6 * n) % 32 := iand_mask _ (k := 5) (by omega)
      refine g_top (v2 := aI (hV h0 b (6 * n) % 32)) (congrArg aI e31) ?_
      generalize hV h0 b (6 * n) % 32 = y
      by_cases hy : y < 0 ∨ 23 < y
      · refine g_tsw_out rfl hy (t := 1432) (by decide) ?_
        exact K H S ⟨li.1, li.2.1, li.2.2.1, by have := li.2.2.2.1; omega, by have := li.2.2.2.2; omega⟩
      · rcases (show y = 0 ∨ y = 1 ∨ y = 2 ∨ y = 3 ∨ y = 4 ∨ y = 5 ∨ y = 6 ∨ y = 7 ∨ y = 8 ∨ y = 9 ∨ y = 10 ∨ y = 11 ∨ y = 12 ∨ y = 13 ∨ y = 14 ∨ y = 15 ∨ y = 16 ∨ y = 17 ∨ y = 18 ∨ y = 19 ∨ y = 20 ∨ y = 21 ∨ y = 22 ∨ y = 23 by omega) with e | e | e | e | e | e | e | e | e | e | e | e | e | e | e | e | e | e | e | e | e | e | e | e
        · subst e
          refine g_tsw (t := 152) rfl (by rfl) ?_
          exact lw_case0 li hi hL hr6 K
        · subst e
          refine g_tsw (t := 284) rfl (by rfl) ?_
          exact lw_case1 li hi hL hr6 K
        · subst e
          refine g_tsw (t := 333) rfl (by rfl) ?_
          exact lw_case2 li hi hL hr6 K
        · subst e
          refine g_tsw (t := 370) rfl (by rfl) ?_
          exact lw_case3 li hi hL hr6 K
        · subst e
          refine g_tsw (t := 408) rfl (by rfl) ?_
          exact lw_case4 li hi hL hr6 K
        · subst e
          refine g_tsw (t := 461) rfl (by rfl) ?_
          exact lw_case5 li hi hL hr6 K
        · subst e
          refine g_tsw (t := 510) rfl (by rfl) ?_
          exact lw_case6 li hi hL hr6 K
        · subst e
          refine g_tsw (t := 571) rfl (by rfl) ?_
          exact lw_case7 li hi hL hr6 K
        · subst e
          refine g_tsw (t := 608) rfl (by rfl) ?_
          exact lw_case8 li hi hL hr6 K
        · subst e
          refine g_tsw (t := 669) rfl (by rfl) ?_
          exact lw_case9 li hi hL hr6 K
        · subst e
          refine g_tsw (t := 742) rfl (by rfl) ?_
          exact lw_case10 li hi hL hr6 K
        · subst e
          refine g_tsw (t := 755) rfl (by rfl) ?_
          exact lw_case11 li hi hL hr6 K
        · subst e
          refine g_tsw (t := 804) rfl (by rfl) ?_
          exact lw_case12 li hi hL hr6 K
        · subst e
          refine g_tsw (t := 842) rfl (by rfl) ?_
          exact lw_case13 li hi hL hr6 K
        · subst e
          refine g_tsw (t := 879) rfl (by rfl) ?_
          exact lw_case14 li hi hL hr6 K
        · subst e
          refine g_tsw (t := 928) rfl (by rfl) ?_
          exact lw_case15 li hi hL hr6 K
        · subst e
          refine g_tsw (t := 997) rfl (by rfl) ?_
          exact lw_case16 li hi hL hr6 K
        · subst e
          refine g_tsw (t := 1046) rfl (by rfl) ?_
          exact lw_case17 li hi hL hr6 K
        · subst e
          refine g_tsw (t := 1108) rfl (by rfl) ?_
          exact lw_case18 li hi hL hr6 K
        · subst e
          refine g_tsw (t := 1145) rfl (by rfl) ?_
          exact lw_case19 li hi hL hr6 K
        · subst e
          refine g_tsw (t := 1206) rfl (by rfl) ?_
          exact lw_case20 li hi hL hr6 K
        · subst e
          refine g_tsw (t := 1288) rfl (by rfl) ?_
          exact lw_case21 li hi hL hr6 K
        · subst e
          refine g_tsw (t := 1370) rfl (by rfl) ?_
          exact lw_case22 li hi hL hr6 K
        · subst e
          refine g_tsw (t := 1407) rfl (by rfl) ?_
          exact lw_case23 li hi hL hr6 K
theorem law_ok {b L : Nat} (w : aW) (h0 : aH) (st : Start w h0 b L) (hL : L ≤ 3072) : Wk w 1000 cd_L_law 0 [(0, aO (some b))] [] h0 (fun r h1 => r = some (aI 1) ∧ hz h1 ≤ hz h0 + lwC ∧ hs h1 ≤ hs h0 + lwS) := by
  have q : Wk w 1000 cd_L_law 0 [(0, aO (some b))] [] h0 (RI (fun r h1 => r = 1 ∧ ∃ n1 S1, LI w h0 b L (hz h0) n1 h1 S1 ∧ 6 * n1 ≤ L)) := law_begin st (fun H li => lw_loop hL st.2.2.2.2.2 (L + 1) 0 H S00 li (by omega) (by omega))
  refine q.imp ?_
  rintro _ h1 ⟨r, rfl, rfl, n1, S1, li, hn⟩
  have e1 := li.2.2.2.1
  have e2 := li.2.2.2.2
  have g1 := lwC_ge
  have g2 := lwS_ge
  exact ⟨rfl, by omega, by omega⟩
