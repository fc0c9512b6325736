/-! the reference's face of numbers: printed by wip/whole/s83.py -/
theorem MN.own {V : Nat → Nat → Int} {o : Nat} {S : aS} (x : MN V o S) {i : Nat} (hi : i ≠ 2) (v : Int) : MN (vset V o i v) o S := by
  refine ⟨by rw [vset_ne _ _ _ _ (by omega)]; exact x.1, fun j hj => ?_⟩
  rw [vset_ne _ _ _ _ (by omega), vset_ne _ _ _ _ (by omega)]
  exact x.2 j hj
theorem m_isN {w : aW} {d : Nat} (hd : 2 ≤ d) {h : aH} {o : Nat} (ms : MS h o) (V : Nat → Nat → Int) {S : aS} (mn : MN V o S) (ok : OkN S) (a : Int) : WP w d 271 [aO (some o), aI a] (hw h V) (RI (fun x h1 => h1 = hw h V ∧ x = if 0 ≤ a ∧ a < sN S then 1 else 0)) := m_isNumber hd ms V (sN S) mn.1 ok.1 a
set_option maxRecDepth 100000 in
theorem m_compare {w : aW} {d : Nat} (hd : 3 ≤ d) {h : aH} {o : Nat} (ms : MS h o) (V : Nat → Nat → Int) {S : aS} (mn : MN V o S) (ok : OkN S) (a b : Int) : WP w d 277 [aO (some o), aI a, aI b] (hw h V) (RI (fun r h1 => h1 = hw h (vset V o 31 0) ∧ r = spCmp S a b)) := by
  obtain ⟨d, rfl⟩ : ∃ d1, d = d1 + 1 := ⟨d - 1, by omega⟩
  refine WP.enter (cd := cd_X12_compare) rfl ?_
  have mn2 := mn.own (i := 31) (by decide) 0
  have hn2 := ok.1
  have hls : largs 0 [aO (some o), aI a, aI b] = [(0, aO (some o)), (1, aI a), (2, aI b)] := rfl
  rw [hls]
  clear hls
  refine g_aload_n rfl rfl ?_
  refine g_iconst rfl ?_
  refine g_putI rfl ms.1 ?_
  refine g_aload_n rfl rfl ?_
  refine g_iload_n rfl rfl ?_
  refine g_callVI [aI a] [] rfl rfl rfl rfl (Nat.le_of_ble_eq_true rfl) ms.1 (m_isN (by omega) ms ((vset V o 31 0)) mn2 ok a) ?_
  rintro _ _ ⟨rfl, rfl⟩
  refine g_b_eq rfl (fun c10 => ?_) (fun c10 => ?_)
  · skip
    refine g_bipush rfl ?_
    refine g_iret rfl ?_
    refine ⟨rfl, ?_⟩
    unfold spCmp
    first
      | (rw [if_neg (by omega)]; done)
      | (rw [if_pos (by omega)]
         unfold ordF
         split
         · omega
         · first | omega | (split <;> omega))
  · skip
    refine g_aload_n rfl rfl ?_
    refine g_iload_n rfl rfl ?_
    refine g_callVI [aI b] [] rfl rfl rfl rfl (Nat.le_of_ble_eq_true rfl) ms.1 (m_isN (by omega) ms (((vset V o 31 0))) mn2 ok b) ?_
    rintro _ _ ⟨rfl, rfl⟩
    refine g_b_ne rfl (fun c18 => ?_) (fun c18 => ?_)
    · skip
      refine g_aload_n rfl rfl ?_
      refine g_getR rfl ms.1 (mr_upper ms) ?_
      refine g_iload_n rfl rfl ?_
      refine g_lald (i := a.toNat) rfl (mt_upper ms) (by omega) (by omega) ?_
      refine g_top (v2 := aJ ((sNu S (a.toNat)).1)) (congrArg aJ (by exact (mn2.2 _ (by omega)).1)) ?_
      refine g_aload_n rfl rfl ?_
      refine g_getR rfl ms.1 (mr_lower ms) ?_
      refine g_iload_n rfl rfl ?_
      refine g_lald (i := b.toNat) rfl (mt_lower ms) (by omega) (by omega) ?_
      refine g_top (v2 := aJ ((sNu S (b.toNat)).2)) (congrArg aJ (by exact (mn2.2 _ (by omega)).2)) ?_
      have hp := ok.at (a := a) (by omega)
      have hq := ok.at (a := b) (by omega)
      have m0 := mulB (x := (sNu S a.toNat).1) (y := (sNu S b.toNat).2) (by omega) (by omega) (by omega) (by omega)
      have m1 := mulB (x := (sNu S b.toNat).1) (y := (sNu S a.toNat).2) (by omega) (by omega) (by omega) (by omega)
      have m2 := mulB (x := (sNu S a.toNat).2) (y := (sNu S b.toNat).2) (by omega) (by omega) (by omega) (by omega)
      have m3 := mulB (x := (sNu S a.toNat).1) (y := (sNu S b.toNat).1) (by omega) (by omega) (by omega) (by omega)
      have m4 := mulB (x := (sNu S a.toNat).2) (y := (sNu S b.toNat).1) (by omega) (by omega) (by omega) (by omega)
      refine g_lmul rfl (by omega) (by omega) ?_
      refine g_lstore_n (l1 := [(3, aJ (((sNu S (a.toNat)).1) * ((sNu S (b.toNat)).2))), (0, aO (some o)), (1, aI a), (2, aI b)]) rfl rfl ?_
      refine g_aload_n rfl rfl ?_
      refine g_getR rfl ms.1 (mr_upper ms) ?_
      refine g_iload_n rfl rfl ?_
      refine g_lald (i := b.toNat) rfl (mt_upper ms) (by omega) (by omega) ?_
      refine g_top (v2 := aJ ((sNu S (b.toNat)).1)) (congrArg aJ (by exact (mn2.2 _ (by omega)).1)) ?_
      refine g_aload_n rfl rfl ?_
      refine g_getR rfl ms.1 (mr_lower ms) ?_
      refine g_iload_n rfl rfl ?_
      refine g_lald (i := a.toNat) rfl (mt_lower ms) (by omega) (by omega) ?_
      refine g_top (v2 := aJ ((sNu S (a.toNat)).2)) (congrArg aJ (by exact (mn2.2 _ (by omega)).2)) ?_
      refine g_lmul rfl (by omega) (by omega) ?_
      refine g_lstore (l1 := [(5, aJ (((sNu S (b.toNat)).1) * ((sNu S (a.toNat)).2))), (3, aJ (((sNu S (a.toNat)).1) * ((sNu S (b.toNat)).2))), (0, aO (some o)), (1, aI a), (2, aI b)]) rfl rfl ?_
      refine g_lload_n rfl rfl ?_
      refine g_lload rfl rfl ?_
      refine g_lc_ge rfl rfl (fun c56 => ?_) (fun c56 => ?_)
      · skip
        refine g_lload_n rfl rfl ?_
        refine g_lload rfl rfl ?_
        refine g_lc_le rfl rfl (fun c67 => ?_) (fun c67 => ?_)
        · skip
          refine g_iconst rfl ?_
          refine g_iret rfl ?_
          refine ⟨rfl, ?_⟩
          unfold spCmp
          first
            | (rw [if_neg (by omega)]; done)
            | (rw [if_pos (by omega)]
               unfold ordF
               split
               · omega
               · first | omega | (split <;> omega))
        · skip
          refine g_iconst rfl ?_
          refine g_goto rfl ?_
          refine g_iret rfl ?_
          refine ⟨rfl, ?_⟩
          unfold spCmp
          first
            | (rw [if_neg (by omega)]; done)
            | (rw [if_pos (by omega)]
               unfold ordF
               split
               · omega
               · first | omega | (split <;> omega))
      · skip
        refine g_iconst rfl ?_
        refine g_goto rfl ?_
        refine g_iret rfl ?_
        refine ⟨rfl, ?_⟩
        unfold spCmp
        first
          | (rw [if_neg (by omega)]; done)
          | (rw [if_pos (by omega)]
             unfold ordF
             split
             · omega
             · first | omega | (split <;> omega))
    · skip
      refine g_bipush rfl ?_
      refine g_iret rfl ?_
      refine ⟨rfl, ?_⟩
      unfold spCmp
      first
        | (rw [if_neg (by omega)]; done)
        | (rw [if_pos (by omega)]
           unfold ordF
           split
           · omega
           · first | omega | (split <;> omega))
