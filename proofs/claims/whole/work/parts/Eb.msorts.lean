/-! the reference's sorts told: printed by wip/whole/eb.py -/
set_option maxRecDepth 100000 in
set_option maxHeartbeats 4000000 in
theorem m_isThing {w : aW} {d : Nat} (hd : 3 ≤ d) {h : aH} {o : Nat} (ms : MS h o) (V : Nat → Nat → Int) {S : aS} (ok : OkT S) (mt : MT V o S) (t : Int)  : WP w d 281 [aO (some o), aI t] (hw h V) (RI (fun r h1 => h1 = hw h V ∧ r = if 0 ≤ t ∧ t < sT S then 1 else 0)) := by
  obtain ⟨d, rfl⟩ : ∃ d1, d = d1 + 1 := ⟨d - 1, by omega⟩
  refine WP.enter (cd := cd_X12_isThing) rfl ?_
  have G0 := Gs.refl V o (fun _ => False)
  have hn := ok.1
  have hls : largs 0 [aO (some o), aI t] = [(0, aO (some o)), (1, aI t)] := rfl
  rw [hls]
  clear hls
  refine g_iload_n rfl rfl ?_
  refine g_i2l rfl ?_
  refine g_lconst0 rfl ?_
  refine g_aload_n rfl rfl ?_
  refine g_getI rfl ms.1 ?_
  refine g_top (v2 := aI ((sT S : Int))) (congrArg aI (by exact mt.1)) ?_
  refine g_iconst rfl ?_
  refine g_isub rfl (by omega) (by omega) ?_
  refine g_i2l rfl ?_
  refine g_callSI [aJ t, aJ 0, aJ (((sT S : Int)) - 1)] [] rfl rfl rfl rfl (Nat.le_of_ble_eq_true rfl) (c_in (by omega) _ _ _ _) ?_
  rintro r1 _ ⟨rfl, rfl⟩
  refine g_zret rfl (by omega) ?_
  refine ⟨rfl, ?_⟩
  split <;> (try split) <;> omega
set_option maxRecDepth 100000 in
set_option maxHeartbeats 4000000 in
theorem m_is {w : aW} {d : Nat} (hd : 3 ≤ d) {h : aH} {o : Nat} (ms : MS h o) (V : Nat → Nat → Int) {S : aS} (ok : OkT S) (mt : MT V o S) (t : Int) (s : Int)  : WP w d 280 [aO (some o), aI t, aI s] (hw h V) (RI (fun r h1 => h1 = hw h V ∧ r = if (0 ≤ t ∧ t < sT S) ∧ sTs S t.toNat = s then 1 else 0)) := by
  obtain ⟨d, rfl⟩ : ∃ d1, d = d1 + 1 := ⟨d - 1, by omega⟩
  refine WP.enter (cd := cd_X12_is) rfl ?_
  have G0 := Gs.refl V o (fun _ => False)
  have hn := ok.1
  have hls : largs 0 [aO (some o), aI t, aI s] = [(0, aO (some o)), (1, aI t), (2, aI s)] := rfl
  rw [hls]
  clear hls
  refine g_iload_n rfl rfl ?_
  refine g_i2l rfl ?_
  refine g_lconst0 rfl ?_
  refine g_aload_n rfl rfl ?_
  refine g_getI rfl ms.1 ?_
  refine g_top (v2 := aI ((sT S : Int))) (congrArg aI (by exact mt.1)) ?_
  refine g_iconst rfl ?_
  refine g_isub rfl (by omega) (by omega) ?_
  refine g_i2l rfl ?_
  refine g_callSI [aJ t, aJ 0, aJ (((sT S : Int)) - 1)] [] rfl rfl rfl rfl (Nat.le_of_ble_eq_true rfl) (c_in (by omega) _ _ _ _) ?_
  rintro r1 _ ⟨rfl, rfl⟩
  refine g_b_eq rfl (fun c13 => ?_) (fun c13 => ?_)
  · skip
    refine g_iconst rfl ?_
    refine g_zret rfl (by omega) ?_
    refine ⟨rfl, ?_⟩
    first
      | rw [if_pos (by omega)]
      | rw [if_neg (by omega)]
  · skip
    refine g_aload_n rfl rfl ?_
    refine g_getR rfl ms.1 (mr_sort ms) ?_
    refine g_iload_n rfl rfl ?_
    refine g_iald (i := t.toNat) rfl (mt_sort ms) (by omega) (by omega) ?_
    refine g_top (v2 := aI (sTs S t.toNat)) (congrArg aI (by exact (mt.2 t.toNat (by omega)).1)) ?_
    refine g_iload_n rfl rfl ?_
    refine g_icmp_ne rfl (fun c23 => ?_) (fun c23 => ?_)
    · skip
      refine g_iconst rfl ?_
      refine g_zret rfl (by omega) ?_
      refine ⟨rfl, ?_⟩
      first
        | rw [if_pos (by omega)]
        | rw [if_neg (by omega)]
    · skip
      refine g_iconst rfl ?_
      refine g_goto rfl ?_
      refine g_zret rfl (by omega) ?_
      refine ⟨rfl, ?_⟩
      first
        | rw [if_pos (by omega)]
        | rw [if_neg (by omega)]
theorem m_wants0 {w : aW} {d : Nat} (hd : 1 ≤ d) (h : aH) : WP w d 305 [aI 0] h (RI (fun r h1 => h1 = h ∧ r = 33)) := by
  obtain ⟨d, rfl⟩ : ∃ d1, d = d1 + 1 := ⟨d - 1, by omega⟩
  refine WP.enter (cd := cd_X12_wants) rfl ?_
  have hls : largs 0 [aI 0] = [(0, aI 0)] := rfl
  rw [hls]
  clear hls
  refine g_iload_n rfl rfl ?_
  refine g_tsw (t := 96) rfl (by rfl) ?_
  refine g_bipush rfl ?_
  refine g_iret rfl ?_
  exact ⟨rfl, rfl⟩
theorem m_wants1 {w : aW} {d : Nat} (hd : 1 ≤ d) (h : aH) : WP w d 305 [aI 1] h (RI (fun r h1 => h1 = h ∧ r = 0)) := by
  obtain ⟨d, rfl⟩ : ∃ d1, d = d1 + 1 := ⟨d - 1, by omega⟩
  refine WP.enter (cd := cd_X12_wants) rfl ?_
  have hls : largs 0 [aI 1] = [(0, aI 1)] := rfl
  rw [hls]
  clear hls
  refine g_iload_n rfl rfl ?_
  refine g_tsw (t := 99) rfl (by rfl) ?_
  refine g_iconst rfl ?_
  refine g_iret rfl ?_
  exact ⟨rfl, rfl⟩
theorem m_wants2 {w : aW} {d : Nat} (hd : 1 ≤ d) (h : aH) : WP w d 305 [aI 2] h (RI (fun r h1 => h1 = h ∧ r = 11)) := by
  obtain ⟨d, rfl⟩ : ∃ d1, d = d1 + 1 := ⟨d - 1, by omega⟩
  refine WP.enter (cd := cd_X12_wants) rfl ?_
  have hls : largs 0 [aI 2] = [(0, aI 2)] := rfl
  rw [hls]
  clear hls
  refine g_iload_n rfl rfl ?_
  refine g_tsw (t := 101) rfl (by rfl) ?_
  refine g_bipush rfl ?_
  refine g_iret rfl ?_
  exact ⟨rfl, rfl⟩
theorem m_wants3 {w : aW} {d : Nat} (hd : 1 ≤ d) (h : aH) : WP w d 305 [aI 3] h (RI (fun r h1 => h1 = h ∧ r = 0)) := by
  obtain ⟨d, rfl⟩ : ∃ d1, d = d1 + 1 := ⟨d - 1, by omega⟩
  refine WP.enter (cd := cd_X12_wants) rfl ?_
  have hls : largs 0 [aI 3] = [(0, aI 3)] := rfl
  rw [hls]
  clear hls
  refine g_iload_n rfl rfl ?_
  refine g_tsw (t := 99) rfl (by rfl) ?_
  refine g_iconst rfl ?_
  refine g_iret rfl ?_
  exact ⟨rfl, rfl⟩
theorem m_wants4 {w : aW} {d : Nat} (hd : 1 ≤ d) (h : aH) : WP w d 305 [aI 4] h (RI (fun r h1 => h1 = h ∧ r = 1)) := by
  obtain ⟨d, rfl⟩ : ∃ d1, d = d1 + 1 := ⟨d - 1, by omega⟩
  refine WP.enter (cd := cd_X12_wants) rfl ?_
  have hls : largs 0 [aI 4] = [(0, aI 4)] := rfl
  rw [hls]
  clear hls
  refine g_iload_n rfl rfl ?_
  refine g_tsw (t := 104) rfl (by rfl) ?_
  refine g_iconst rfl ?_
  refine g_iret rfl ?_
  exact ⟨rfl, rfl⟩
theorem m_wants5 {w : aW} {d : Nat} (hd : 1 ≤ d) (h : aH) : WP w d 305 [aI 5] h (RI (fun r h1 => h1 = h ∧ r = 1)) := by
  obtain ⟨d, rfl⟩ : ∃ d1, d = d1 + 1 := ⟨d - 1, by omega⟩
  refine WP.enter (cd := cd_X12_wants) rfl ?_
  have hls : largs 0 [aI 5] = [(0, aI 5)] := rfl
  rw [hls]
  clear hls
  refine g_iload_n rfl rfl ?_
  refine g_tsw (t := 104) rfl (by rfl) ?_
  refine g_iconst rfl ?_
  refine g_iret rfl ?_
  exact ⟨rfl, rfl⟩
theorem m_wants6 {w : aW} {d : Nat} (hd : 1 ≤ d) (h : aH) : WP w d 305 [aI 6] h (RI (fun r h1 => h1 = h ∧ r = 1)) := by
  obtain ⟨d, rfl⟩ : ∃ d1, d = d1 + 1 := ⟨d - 1, by omega⟩
  refine WP.enter (cd := cd_X12_wants) rfl ?_
  have hls : largs 0 [aI 6] = [(0, aI 6)] := rfl
  rw [hls]
  clear hls
  refine g_iload_n rfl rfl ?_
  refine g_tsw (t := 104) rfl (by rfl) ?_
  refine g_iconst rfl ?_
  refine g_iret rfl ?_
  exact ⟨rfl, rfl⟩
theorem m_wants7 {w : aW} {d : Nat} (hd : 1 ≤ d) (h : aH) : WP w d 305 [aI 7] h (RI (fun r h1 => h1 = h ∧ r = 1)) := by
  obtain ⟨d, rfl⟩ : ∃ d1, d = d1 + 1 := ⟨d - 1, by omega⟩
  refine WP.enter (cd := cd_X12_wants) rfl ?_
  have hls : largs 0 [aI 7] = [(0, aI 7)] := rfl
  rw [hls]
  clear hls
  refine g_iload_n rfl rfl ?_
  refine g_tsw (t := 104) rfl (by rfl) ?_
  refine g_iconst rfl ?_
  refine g_iret rfl ?_
  exact ⟨rfl, rfl⟩
theorem m_wants8 {w : aW} {d : Nat} (hd : 1 ≤ d) (h : aH) : WP w d 305 [aI 8] h (RI (fun r h1 => h1 = h ∧ r = 2)) := by
  obtain ⟨d, rfl⟩ : ∃ d1, d = d1 + 1 := ⟨d - 1, by omega⟩
  refine WP.enter (cd := cd_X12_wants) rfl ?_
  have hls : largs 0 [aI 8] = [(0, aI 8)] := rfl
  rw [hls]
  clear hls
  refine g_iload_n rfl rfl ?_
  refine g_tsw (t := 106) rfl (by rfl) ?_
  refine g_iconst rfl ?_
  refine g_iret rfl ?_
  exact ⟨rfl, rfl⟩
theorem m_wants9 {w : aW} {d : Nat} (hd : 1 ≤ d) (h : aH) : WP w d 305 [aI 9] h (RI (fun r h1 => h1 = h ∧ r = 2)) := by
  obtain ⟨d, rfl⟩ : ∃ d1, d = d1 + 1 := ⟨d - 1, by omega⟩
  refine WP.enter (cd := cd_X12_wants) rfl ?_
  have hls : largs 0 [aI 9] = [(0, aI 9)] := rfl
  rw [hls]
  clear hls
  refine g_iload_n rfl rfl ?_
  refine g_tsw (t := 106) rfl (by rfl) ?_
  refine g_iconst rfl ?_
  refine g_iret rfl ?_
  exact ⟨rfl, rfl⟩
theorem m_wants10 {w : aW} {d : Nat} (hd : 1 ≤ d) (h : aH) : WP w d 305 [aI 10] h (RI (fun r h1 => h1 = h ∧ r = 12)) := by
  obtain ⟨d, rfl⟩ : ∃ d1, d = d1 + 1 := ⟨d - 1, by omega⟩
  refine WP.enter (cd := cd_X12_wants) rfl ?_
  have hls : largs 0 [aI 10] = [(0, aI 10)] := rfl
  rw [hls]
  clear hls
  refine g_iload_n rfl rfl ?_
  refine g_tsw (t := 108) rfl (by rfl) ?_
  refine g_bipush rfl ?_
  refine g_iret rfl ?_
  exact ⟨rfl, rfl⟩
theorem m_wants11 {w : aW} {d : Nat} (hd : 1 ≤ d) (h : aH) : WP w d 305 [aI 11] h (RI (fun r h1 => h1 = h ∧ r = 22)) := by
  obtain ⟨d, rfl⟩ : ∃ d1, d = d1 + 1 := ⟨d - 1, by omega⟩
  refine WP.enter (cd := cd_X12_wants) rfl ?_
  have hls : largs 0 [aI 11] = [(0, aI 11)] := rfl
  rw [hls]
  clear hls
  refine g_iload_n rfl rfl ?_
  refine g_tsw (t := 111) rfl (by rfl) ?_
  refine g_bipush rfl ?_
  refine g_iret rfl ?_
  exact ⟨rfl, rfl⟩
theorem m_wants12 {w : aW} {d : Nat} (hd : 1 ≤ d) (h : aH) : WP w d 305 [aI 12] h (RI (fun r h1 => h1 = h ∧ r = 0)) := by
  obtain ⟨d, rfl⟩ : ∃ d1, d = d1 + 1 := ⟨d - 1, by omega⟩
  refine WP.enter (cd := cd_X12_wants) rfl ?_
  have hls : largs 0 [aI 12] = [(0, aI 12)] := rfl
  rw [hls]
  clear hls
  refine g_iload_n rfl rfl ?_
  refine g_tsw (t := 99) rfl (by rfl) ?_
  refine g_iconst rfl ?_
  refine g_iret rfl ?_
  exact ⟨rfl, rfl⟩
theorem m_wants13 {w : aW} {d : Nat} (hd : 1 ≤ d) (h : aH) : WP w d 305 [aI 13] h (RI (fun r h1 => h1 = h ∧ r = 0)) := by
  obtain ⟨d, rfl⟩ : ∃ d1, d = d1 + 1 := ⟨d - 1, by omega⟩
  refine WP.enter (cd := cd_X12_wants) rfl ?_
  have hls : largs 0 [aI 13] = [(0, aI 13)] := rfl
  rw [hls]
  clear hls
  refine g_iload_n rfl rfl ?_
  refine g_tsw (t := 99) rfl (by rfl) ?_
  refine g_iconst rfl ?_
  refine g_iret rfl ?_
  exact ⟨rfl, rfl⟩
theorem m_wants14 {w : aW} {d : Nat} (hd : 1 ≤ d) (h : aH) : WP w d 305 [aI 14] h (RI (fun r h1 => h1 = h ∧ r = 12)) := by
  obtain ⟨d, rfl⟩ : ∃ d1, d = d1 + 1 := ⟨d - 1, by omega⟩
  refine WP.enter (cd := cd_X12_wants) rfl ?_
  have hls : largs 0 [aI 14] = [(0, aI 14)] := rfl
  rw [hls]
  clear hls
  refine g_iload_n rfl rfl ?_
  refine g_tsw (t := 108) rfl (by rfl) ?_
  refine g_bipush rfl ?_
  refine g_iret rfl ?_
  exact ⟨rfl, rfl⟩
theorem m_wants15 {w : aW} {d : Nat} (hd : 1 ≤ d) (h : aH) : WP w d 305 [aI 15] h (RI (fun r h1 => h1 = h ∧ r = 12)) := by
  obtain ⟨d, rfl⟩ : ∃ d1, d = d1 + 1 := ⟨d - 1, by omega⟩
  refine WP.enter (cd := cd_X12_wants) rfl ?_
  have hls : largs 0 [aI 15] = [(0, aI 15)] := rfl
  rw [hls]
  clear hls
  refine g_iload_n rfl rfl ?_
  refine g_tsw (t := 108) rfl (by rfl) ?_
  refine g_bipush rfl ?_
  refine g_iret rfl ?_
  exact ⟨rfl, rfl⟩
theorem m_wants16 {w : aW} {d : Nat} (hd : 1 ≤ d) (h : aH) : WP w d 305 [aI 16] h (RI (fun r h1 => h1 = h ∧ r = 22)) := by
  obtain ⟨d, rfl⟩ : ∃ d1, d = d1 + 1 := ⟨d - 1, by omega⟩
  refine WP.enter (cd := cd_X12_wants) rfl ?_
  have hls : largs 0 [aI 16] = [(0, aI 16)] := rfl
  rw [hls]
  clear hls
  refine g_iload_n rfl rfl ?_
  refine g_tsw (t := 111) rfl (by rfl) ?_
  refine g_bipush rfl ?_
  refine g_iret rfl ?_
  exact ⟨rfl, rfl⟩
theorem m_wants17 {w : aW} {d : Nat} (hd : 1 ≤ d) (h : aH) : WP w d 305 [aI 17] h (RI (fun r h1 => h1 = h ∧ r = 22)) := by
  obtain ⟨d, rfl⟩ : ∃ d1, d = d1 + 1 := ⟨d - 1, by omega⟩
  refine WP.enter (cd := cd_X12_wants) rfl ?_
  have hls : largs 0 [aI 17] = [(0, aI 17)] := rfl
  rw [hls]
  clear hls
  refine g_iload_n rfl rfl ?_
  refine g_tsw (t := 111) rfl (by rfl) ?_
  refine g_bipush rfl ?_
  refine g_iret rfl ?_
  exact ⟨rfl, rfl⟩
theorem m_wants18 {w : aW} {d : Nat} (hd : 1 ≤ d) (h : aH) : WP w d 305 [aI 18] h (RI (fun r h1 => h1 = h ∧ r = 2)) := by
  obtain ⟨d, rfl⟩ : ∃ d1, d = d1 + 1 := ⟨d - 1, by omega⟩
  refine WP.enter (cd := cd_X12_wants) rfl ?_
  have hls : largs 0 [aI 18] = [(0, aI 18)] := rfl
  rw [hls]
  clear hls
  refine g_iload_n rfl rfl ?_
  refine g_tsw (t := 106) rfl (by rfl) ?_
  refine g_iconst rfl ?_
  refine g_iret rfl ?_
  exact ⟨rfl, rfl⟩
theorem m_wants19 {w : aW} {d : Nat} (hd : 1 ≤ d) (h : aH) : WP w d 305 [aI 19] h (RI (fun r h1 => h1 = h ∧ r = 2)) := by
  obtain ⟨d, rfl⟩ : ∃ d1, d = d1 + 1 := ⟨d - 1, by omega⟩
  refine WP.enter (cd := cd_X12_wants) rfl ?_
  have hls : largs 0 [aI 19] = [(0, aI 19)] := rfl
  rw [hls]
  clear hls
  refine g_iload_n rfl rfl ?_
  refine g_tsw (t := 106) rfl (by rfl) ?_
  refine g_iconst rfl ?_
  refine g_iret rfl ?_
  exact ⟨rfl, rfl⟩
