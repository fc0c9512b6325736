/-! the reference's polynomials, the beginnings: printed by wip/whole/s61.py -/
theorem m_empty {w : aW} {d : Nat} (hd : 1 ≤ d) {h : aH} (V : Nat → Nat → Int) (row : Nat) (tr : hT h row = (2, 1331)) : WP w d 355 [aO (some row)] (hw h V) (RN (fun h1 => ∃ V1, h1 = hw h V1 ∧ (∀ a, a ≠ row → V1 a = V a) ∧ ∀ j < 1331, V1 row j = 0)) := by
  obtain ⟨d, rfl⟩ : ∃ d1, d = d1 + 1 := ⟨d - 1, by omega⟩
  refine WP.enter (cd := cd_X12_empty) rfl ?_
  have hls : largs 0 [aO (some row)] = [(0, aO (some row))] := rfl
  rw [hls]
  clear hls
  have l2 : ∀ (fuel : Nat) (i : Nat) (V1 : Nat → Nat → Int), (i ≤ 1331) → (∀ a, a ≠ row → V1 a = V a) → (∀ j < i, V1 row j = 0) → 1331 - i < fuel → Wk w d cd_X12_empty 2 [(1, aI ((i : Int))), (0, aO (some row))] [] (hw h V1) (RN (fun h1 => ∃ V1, h1 = hw h V1 ∧ (∀ a, a ≠ row → V1 a = V a) ∧ ∀ j < 1331, V1 row j = 0)) := by
    intro fuel
    induction fuel with
    | zero => intros; omega
    | succ fuel ih2 =>
      intro i V1 hi hf hz hfuel
      refine g_iload_n rfl rfl ?_
      refine g_sipush rfl ?_
      refine g_icmp_ge rfl (fun c6 => ?_) (fun c6 => ?_)
      · skip
        refine g_vret rfl ?_
        exact ⟨V1, rfl, hf, fun j hj => hz j (by omega)⟩
      · skip
        refine g_aload_n rfl rfl ?_
        refine g_iload_n rfl rfl ?_
        refine g_lconst0 rfl ?_
        refine g_last (i := i) rfl tr (by omega) (by omega) ?_
        refine g_iinc (l1 := [(1, aI ((i : Int) + 1)), (0, aO (some row))]) rfl rfl (by omega) (by omega) rfl ?_
        refine g_goto rfl ?_
        exact ih2 (i + 1) (vset V1 row i 0) (by omega) (by intro a ha; funext j; rw [vset_ne _ _ _ _ (by omega), hf a ha]) (by intro j hj; by_cases e : j = i; (rw [e, vset_eq]); (rw [vset_ne _ _ _ _ (by omega)]; exact hz j (by omega))) (by omega)
  refine g_iconst rfl ?_
  refine g_istore_n (l1 := [(1, aI 0), (0, aO (some row))]) rfl rfl ?_
  exact l2 _ 0 V (by omega) (by intro a _; rfl) (by intro j hj; omega) (Nat.lt_succ_self _)
/-- what a kept polynomial leaves behind -/
def PPost (V : Nat → Nat → Int) (o k : Nat) (row : Nat → Int) (V1 : Nat → Nat → Int) : Prop := (∀ a, a ≠ o → a ≠ o + 12 → V1 a = V a) ∧ (∀ f, f ≠ 17 → V1 o f = V o f) ∧ V1 o 17 = (k : Int) + 1 ∧ (∀ j < 1331, V1 (o + 12) (1331 * k + j) = row j) ∧ ∀ j, j < 1331 * k → V1 (o + 12) j = V (o + 12) j
theorem m_keepPoly {w : aW} {d : Nat} (hd : 1 ≤ d) {h : aH} {o : Nat} (ms : MS h o) (V : Nat → Nat → Int) (k : Nat) (hk : V o 17 = k) (hk2 : k ≤ 60) (row : Nat) (tr : hT h row = (2, 1331)) (hrow : row ≠ o + 12) : WP w d 353 [aO (some o), aO (some row)] (hw h V) (RI (fun r h1 => (k = 60 → h1 = hw h V ∧ r = -4) ∧ (k < 60 → (∃ V1, h1 = hw h V1 ∧ PPost V o k (V row) V1) ∧ r = k))) := by
  obtain ⟨d, rfl⟩ : ∃ d1, d = d1 + 1 := ⟨d - 1, by omega⟩
  refine WP.enter (cd := cd_X12_keepPolynomial) rfl ?_
  have hls : largs 0 [aO (some o), aO (some row)] = [(0, aO (some o)), (1, aO (some row))] := rfl
  rw [hls]
  clear hls
  have l14 : ∀ (fuel : Nat) (i : Nat) (V1 : Nat → Nat → Int), (k < 60) → (i ≤ 1331) → (∀ a, a ≠ o + 12 → V1 a = V a) → (∀ j < i, V1 (o + 12) (1331 * k + j) = V row j) → (∀ j, j < 1331 * k ∨ 1331 * k + i ≤ j → V1 (o + 12) j = V (o + 12) j) → 1331 - i < fuel → Wk w d cd_X12_keepPolynomial 14 [(2, aI ((i : Int))), (0, aO (some o)), (1, aO (some row))] [] (hw h V1) (RI (fun r h1 => (k = 60 → h1 = hw h V ∧ r = -4) ∧ (k < 60 → (∃ V1, h1 = hw h V1 ∧ PPost V o k (V row) V1) ∧ r = k))) := by
    intro fuel
    induction fuel with
    | zero => intros; omega
    | succ fuel ih14 =>
      intro i V1 hk60 hi hf hz hz2 hfuel
      refine g_iload_n rfl rfl ?_
      refine g_sipush rfl ?_
      refine g_icmp_ge rfl (fun c18 => ?_) (fun c18 => ?_)
      · skip
        refine g_aload_n rfl rfl ?_
        refine g_dup rfl rfl ?_
        refine g_getI rfl ms.1 ?_
        refine g_top (v2 := aI ((k : Int))) (congrArg aI (by show V1 o 17 = (k : Int); rw [hf o (by omega)]; exact hk)) ?_
        refine g_iconst rfl ?_
        refine g_iadd rfl (by omega) (by omega) ?_
        refine g_putI rfl ms.1 ?_
        refine g_aload_n rfl rfl ?_
        refine g_getI rfl ms.1 ?_
        refine g_top (v2 := aI (((k : Int)) + 1)) (congrArg aI (by show (vset V1 o 17 (((k : Int)) + 1)) o 17 = (((k : Int)) + 1); rw [vset_eq])) ?_
        refine g_iconst rfl ?_
        refine g_isub rfl (by omega) (by omega) ?_
        refine g_iret rfl ?_
        refine ⟨fun u => by omega, fun _ => ⟨⟨vset V1 o 17 ((k : Int) + 1), rfl, fun a h1 h2 => ?_, fun f hf9 => ?_, vset_eq _ _ _ _, fun j hj => ?_, fun j hj => ?_⟩, by omega⟩⟩
        · funext j
          rw [vset_ne _ _ _ _ (by omega), hf a h2]
        · rw [vset_ne _ _ _ _ (by omega), hf _ (by omega)]
        · rw [vset_ne _ _ _ _ (by omega)]
          exact hz j (by omega)
        · rw [vset_ne _ _ _ _ (by omega)]
          exact hz2 j (Or.inl hj)
      · skip
        refine g_aload_n rfl rfl ?_
        refine g_getR rfl ms.1 (mr_coefs ms) ?_
        refine g_sipush rfl ?_
        refine g_aload_n rfl rfl ?_
        refine g_getI rfl ms.1 ?_
        refine g_top (v2 := aI ((k : Int))) (congrArg aI (by show V1 o 17 = (k : Int); rw [hf o (by omega)]; exact hk)) ?_
        refine g_imul rfl (by omega) (by omega) ?_
        refine g_iload_n rfl rfl ?_
        refine g_iadd rfl (by omega) (by omega) ?_
        refine g_aload_n rfl rfl ?_
        refine g_iload_n rfl rfl ?_
        refine g_lald (i := i) rfl tr (by omega) (by omega) ?_
        refine g_last (i := (1331 * k) + i) rfl (mt_coefs ms) (by omega) (by omega) ?_
        refine g_iinc (l1 := [(2, aI ((i : Int) + 1)), (0, aO (some o)), (1, aO (some row))]) rfl rfl (by omega) (by omega) rfl ?_
        refine g_goto rfl ?_
        exact ih14 (i + 1) (vset V1 (o + 12) (1331 * k + i) (V1 row i)) (by omega) (by omega) (by intro a ha; funext j; rw [vset_ne _ _ _ _ (by omega), hf a ha]) (by intro j hj; by_cases e : j = i; (rw [e, vset_eq, hf _ hrow]); (rw [vset_ne _ _ _ _ (by omega)]; exact hz j (by omega))) (by intro j hj; rw [vset_ne _ _ _ _ (by omega)]; exact hz2 j (by omega)) (by omega)
  refine g_aload_n rfl rfl ?_
  refine g_getI rfl ms.1 ?_
  refine g_top (v2 := aI ((k : Int))) (congrArg aI (by show V o 17 = (k : Int); exact hk)) ?_
  refine g_bipush rfl ?_
  refine g_icmp_ne rfl (fun c6 => ?_) (fun c6 => ?_)
  · skip
    have hk60 : k < 60 := by omega
    refine g_iconst rfl ?_
    refine g_istore_n (l1 := [(2, aI 0), (0, aO (some o)), (1, aO (some row))]) rfl rfl ?_
    exact l14 _ 0 V (by omega) (by omega) (by intro a _; rfl) (by intro j hj; omega) (by intro j _; rfl) (Nat.lt_succ_self _)
  · skip
    refine g_bipush rfl ?_
    refine g_iret rfl ?_
    exact ⟨fun _ => ⟨rfl, rfl⟩, fun u => by omega⟩
/-- the reference's place of the unknown u, or of none -/
def mI (u : Int) : Nat := if u = -1 then 0 else if u = 0 then 121 else if u = 1 then 11 else 1
theorem mI_lt (u : Int) : mI u < 1331 := by
  unfold mI
  split <;> (try split) <;> (try split) <;> omega
def mP (v u : Int) (t : Nat) : Int := if t = mI u then v else 0
theorem m_term {w : aW} {d : Nat} (hd : 2 ≤ d) {h : aH} {o : Nat} (ms : MS h o) (V : Nat → Nat → Int) (k : Nat) (hk : V o 17 = k) (hk2 : k ≤ 60) (v u : Int) : WP w d 356 [aO (some o), aJ v, aI u] (hw h V) (RI (fun r h1 => if u < -1 ∨ 2 < u then h1 = hw h (vset V o 31 0) ∧ r = -2 else if v < -67108864 ∨ 67108864 < v then h1 = hw h (vset V o 31 0) ∧ r = -4 else ∃ V1, (∀ a, a ≠ o + 13 → V1 a = vset V o 31 0 a) ∧ (∀ t < 1331, V1 (o + 13) t = mP v u t) ∧ (k = 60 → h1 = hw h V1 ∧ r = -4) ∧ (k < 60 → (∃ V2, h1 = hw h V2 ∧ PPost V1 o k (V1 (o + 13)) V2) ∧ r = k))) := by
  obtain ⟨d, rfl⟩ : ∃ d1, d = d1 + 1 := ⟨d - 1, by omega⟩
  refine WP.enter (cd := cd_X12_term) rfl ?_
  have hls : largs 0 [aO (some o), aJ v, aI u] = [(0, aO (some o)), (1, aJ v), (3, aI u)] := rfl
  rw [hls]
  clear hls
  have j78 : ∀ (V1 : Nat → Nat → Int) (r : Int), (r = (mI u : Nat)) → (∀ a, a ≠ o + 13 → V1 a = vset V o 31 0 a) → (∀ j < 1331, V1 (o + 13) j = 0) → (-1 ≤ u ∧ u ≤ 2) → (-67108864 ≤ v ∧ v ≤ 67108864) → Wk w d cd_X12_term 78 [(0, aO (some o)), (1, aJ v), (3, aI u)] [aI r, aO (some (o + 13))] (hw h V1) (RI (fun r h1 => if u < -1 ∨ 2 < u then h1 = hw h (vset V o 31 0) ∧ r = -2 else if v < -67108864 ∨ 67108864 < v then h1 = hw h (vset V o 31 0) ∧ r = -4 else ∃ V1, (∀ a, a ≠ o + 13 → V1 a = vset V o 31 0 a) ∧ (∀ t < 1331, V1 (o + 13) t = mP v u t) ∧ (k = 60 → h1 = hw h V1 ∧ r = -4) ∧ (k < 60 → (∃ V2, h1 = hw h V2 ∧ PPost V1 o k (V1 (o + 13)) V2) ∧ r = k))) := by
    intro V1 r hr hf hz hu hv
    refine g_top (v2 := aI (((mI u : Nat) : Int))) (congrArg aI (by exact hr)) ?_
    refine g_lload_n rfl rfl ?_
    have hml := mI_lt u
    refine g_last (i := mI u) rfl (mt_work ms) (by omega) (by omega) ?_
    refine g_aload_n rfl rfl ?_
    refine g_aload_n rfl rfl ?_
    refine g_getR rfl ms.1 (mr_work ms) ?_
    refine g_callVI [aO (some (o + 13))] [] rfl rfl rfl rfl (Nat.le_of_ble_eq_true rfl) ms.1 (m_keepPoly (by omega) ms (vset V1 (o + 13) (mI u) v) k (by rw [vset_ne _ _ _ _ (by omega), hf _ (by omega), vset_ne _ _ _ _ (by omega)]; exact hk) hk2 (o + 13) (mt_work ms) (by omega)) ?_
    intro r h2 q
    refine g_iret rfl ?_
    rw [if_neg (by omega), if_neg (by omega)]
    refine ⟨vset V1 (o + 13) (mI u) v, fun a ha => by funext j; rw [vset_ne _ _ _ _ (by omega), hf a ha], fun t ht => ?_, q⟩
    unfold mP
    by_cases e : t = mI u
    · rw [e, vset_eq, if_pos rfl]
    · rw [vset_ne _ _ _ _ (by omega), if_neg e]; exact hz t ht
  refine g_aload_n rfl rfl ?_
  refine g_iconst rfl ?_
  refine g_putI rfl ms.1 ?_
  refine g_iload_n rfl rfl ?_
  refine g_i2l rfl ?_
  refine g_ldc2 rfl ?_
  refine g_ldc2 rfl ?_
  refine g_callSI [aJ u, aJ ((-1)), aJ 2] [] rfl rfl rfl rfl (Nat.le_of_ble_eq_true rfl) (c_in (by omega) _ _ _ _) ?_
  rintro x1 _ ⟨rfl, rfl⟩
  refine g_b_ne rfl (fun c16 => ?_) (fun c16 => ?_)
  · skip
    refine g_lload_n rfl rfl ?_
    refine g_ldc2 rfl ?_
    refine g_ldc2 rfl ?_
    refine g_callSI [aJ v, aJ ((-67108864)), aJ 67108864] [] rfl rfl rfl rfl (Nat.le_of_ble_eq_true rfl) (c_in (by omega) _ _ _ _) ?_
    rintro x1 _ ⟨rfl, rfl⟩
    refine g_b_ne rfl (fun c32 => ?_) (fun c32 => ?_)
    · skip
      refine g_aload_n rfl rfl ?_
      refine g_getR rfl ms.1 (mr_work ms) ?_
      refine g_callSN [aO (some (o + 13))] [] rfl rfl rfl rfl (Nat.le_of_ble_eq_true rfl) (m_empty (by omega) (vset V o 31 0) (o + 13) (mt_work ms)) ?_
      rintro _ ⟨V1, rfl, hf, hz⟩
      refine g_aload_n rfl rfl ?_
      refine g_getR rfl ms.1 (mr_work ms) ?_
      refine g_iload_n rfl rfl ?_
      refine g_iconst rfl ?_
      refine g_icmp_ne rfl (fun c51 => ?_) (fun c51 => ?_)
      · skip
        refine g_iload_n rfl rfl ?_
        refine g_if_ne rfl (fun c59 => ?_) (fun c59 => ?_)
        · skip
          refine g_iload_n rfl rfl ?_
          refine g_iconst rfl ?_
          refine g_icmp_ne rfl (fun c69 => ?_) (fun c69 => ?_)
          · skip
            refine g_iconst rfl ?_
            exact j78 V1 _ (by unfold mI; split <;> (try split) <;> (try split) <;> first | rfl | omega) (by exact hf) (by exact hz) (by omega) (by omega)
          · skip
            refine g_bipush rfl ?_
            refine g_goto rfl ?_
            exact j78 V1 _ (by unfold mI; split <;> (try split) <;> (try split) <;> first | rfl | omega) (by exact hf) (by exact hz) (by omega) (by omega)
        · skip
          refine g_bipush rfl ?_
          refine g_goto rfl ?_
          exact j78 V1 _ (by unfold mI; split <;> (try split) <;> (try split) <;> first | rfl | omega) (by exact hf) (by exact hz) (by omega) (by omega)
      · skip
        refine g_iconst rfl ?_
        refine g_goto rfl ?_
        exact j78 V1 _ (by unfold mI; split <;> (try split) <;> (try split) <;> first | rfl | omega) (by exact hf) (by exact hz) (by omega) (by omega)
    · skip
      refine g_bipush rfl ?_
      refine g_iret rfl ?_
      rw [if_neg (by omega), if_pos (by omega)]
      exact ⟨rfl, rfl⟩
  · skip
    refine g_bipush rfl ?_
    refine g_iret rfl ?_
    rw [if_pos (by omega)]
    exact ⟨rfl, rfl⟩
