/-! count, both sides: printed by wip/whole/s92.py -/
def cntF (n0 n1 n2 n3 k : Int) : Int := if k = 0 then n0 else if k = 1 then n1 else if k = 2 then n2 else if k = 3 then n3 else -2
theorem x_count0 {w : aW} {d : Nat} (hd : 1 ≤ d) {h : aH} {c : Nat} (cs : CS h c) (V : Nat → Nat → Int) (n0 n1 n2 n3 : Int) (h0 : V (c + 3) 2 = n0) (h1 : V (c + 7) 4 = n1) (h2 : V (c + 11) 5 = n2) (h3 : V (c + 17) 9 = n3) : WP w d 223 [aO (some c), aI 0] (hw h V) (RI (fun r h1 => h1 = hw h V ∧ r = cntF n0 n1 n2 n3 0)) := by
  obtain ⟨d, rfl⟩ : ∃ d1, d = d1 + 1 := ⟨d - 1, by omega⟩
  refine WP.enter (cd := cd_X11_count) rfl ?_
  have hls : largs 0 [aO (some c), aI 0] = [(0, aO (some c)), (1, aI 0)] := rfl
  rw [hls]
  clear hls
  refine g_iload_n rfl rfl ?_
  refine g_tsw (t := 32) rfl (by rfl) ?_
  refine g_aload_n rfl rfl ?_
  refine g_getR rfl (cs.kd 0 (by omega) rfl) (cs.rf 4 (by omega) rfl) ?_
  refine g_getI rfl (cs.kd 3 (by omega) rfl) ?_
  refine g_iret rfl ?_
  exact ⟨rfl, h0⟩
theorem x_count1 {w : aW} {d : Nat} (hd : 1 ≤ d) {h : aH} {c : Nat} (cs : CS h c) (V : Nat → Nat → Int) (n0 n1 n2 n3 : Int) (h0 : V (c + 3) 2 = n0) (h1 : V (c + 7) 4 = n1) (h2 : V (c + 11) 5 = n2) (h3 : V (c + 17) 9 = n3) : WP w d 223 [aO (some c), aI 1] (hw h V) (RI (fun r h1 => h1 = hw h V ∧ r = cntF n0 n1 n2 n3 1)) := by
  obtain ⟨d, rfl⟩ : ∃ d1, d = d1 + 1 := ⟨d - 1, by omega⟩
  refine WP.enter (cd := cd_X11_count) rfl ?_
  have hls : largs 0 [aO (some c), aI 1] = [(0, aO (some c)), (1, aI 1)] := rfl
  rw [hls]
  clear hls
  refine g_iload_n rfl rfl ?_
  refine g_tsw (t := 40) rfl (by rfl) ?_
  refine g_aload_n rfl rfl ?_
  refine g_getR rfl (cs.kd 0 (by omega) rfl) (cs.rf 11 (by omega) rfl) ?_
  refine g_getI rfl (cs.kd 7 (by omega) rfl) ?_
  refine g_iret rfl ?_
  exact ⟨rfl, h1⟩
theorem x_count2 {w : aW} {d : Nat} (hd : 1 ≤ d) {h : aH} {c : Nat} (cs : CS h c) (V : Nat → Nat → Int) (n0 n1 n2 n3 : Int) (h0 : V (c + 3) 2 = n0) (h1 : V (c + 7) 4 = n1) (h2 : V (c + 11) 5 = n2) (h3 : V (c + 17) 9 = n3) : WP w d 223 [aO (some c), aI 2] (hw h V) (RI (fun r h1 => h1 = hw h V ∧ r = cntF n0 n1 n2 n3 2)) := by
  obtain ⟨d, rfl⟩ : ∃ d1, d = d1 + 1 := ⟨d - 1, by omega⟩
  refine WP.enter (cd := cd_X11_count) rfl ?_
  have hls : largs 0 [aO (some c), aI 2] = [(0, aO (some c)), (1, aI 2)] := rfl
  rw [hls]
  clear hls
  refine g_iload_n rfl rfl ?_
  refine g_tsw (t := 48) rfl (by rfl) ?_
  refine g_aload_n rfl rfl ?_
  refine g_getR rfl (cs.kd 0 (by omega) rfl) (cs.rf 21 (by omega) rfl) ?_
  refine g_getI rfl (cs.kd 11 (by omega) rfl) ?_
  refine g_iret rfl ?_
  exact ⟨rfl, h2⟩
theorem x_count3 {w : aW} {d : Nat} (hd : 1 ≤ d) {h : aH} {c : Nat} (cs : CS h c) (V : Nat → Nat → Int) (n0 n1 n2 n3 : Int) (h0 : V (c + 3) 2 = n0) (h1 : V (c + 7) 4 = n1) (h2 : V (c + 11) 5 = n2) (h3 : V (c + 17) 9 = n3) : WP w d 223 [aO (some c), aI 3] (hw h V) (RI (fun r h1 => h1 = hw h V ∧ r = cntF n0 n1 n2 n3 3)) := by
  obtain ⟨d, rfl⟩ : ∃ d1, d = d1 + 1 := ⟨d - 1, by omega⟩
  refine WP.enter (cd := cd_X11_count) rfl ?_
  have hls : largs 0 [aO (some c), aI 3] = [(0, aO (some c)), (1, aI 3)] := rfl
  rw [hls]
  clear hls
  refine g_iload_n rfl rfl ?_
  refine g_tsw (t := 56) rfl (by rfl) ?_
  refine g_aload_n rfl rfl ?_
  refine g_getR rfl (cs.kd 0 (by omega) rfl) (cs.rf 31 (by omega) rfl) ?_
  refine g_getI rfl (cs.kd 17 (by omega) rfl) ?_
  refine g_iret rfl ?_
  exact ⟨rfl, h3⟩
theorem x_countX {w : aW} {d : Nat} (hd : 1 ≤ d) {h : aH} {c : Nat} (cs : CS h c) (V : Nat → Nat → Int) (n0 n1 n2 n3 : Int) (h0 : V (c + 3) 2 = n0) (h1 : V (c + 7) 4 = n1) (h2 : V (c + 11) 5 = n2) (h3 : V (c + 17) 9 = n3) (k : Int) (hk : k < 0 ∨ 3 < k) : WP w d 223 [aO (some c), aI k] (hw h V) (RI (fun r h1 => h1 = hw h V ∧ r = cntF n0 n1 n2 n3 k)) := by
  obtain ⟨d, rfl⟩ : ∃ d1, d = d1 + 1 := ⟨d - 1, by omega⟩
  refine WP.enter (cd := cd_X11_count) rfl ?_
  have hls : largs 0 [aO (some c), aI k] = [(0, aO (some c)), (1, aI k)] := rfl
  rw [hls]
  clear hls
  refine g_iload_n rfl rfl ?_
  refine g_tsw_out (t := 64) rfl (by omega) rfl ?_
  refine g_bipush rfl ?_
  refine g_iret rfl ?_
  refine ⟨rfl, ?_⟩
  unfold cntF
  rw [if_neg (by omega), if_neg (by omega), if_neg (by omega), if_neg (by omega)]
theorem m_count {w : aW} {d : Nat} (hd : 1 ≤ d) {h : aH} {o : Nat} (ms : MS h o) (V : Nat → Nat → Int) (n0 n1 n2 n3 : Int) (h0 : V o 2 = n0) (h1 : V o 7 = n1) (h2 : V o 10 = n2) (h3 : V o 17 = n3) (k : Int) : WP w d 381 [aO (some o), aI k] (hw h V) (RI (fun r h1 => h1 = hw h (vset V o 31 0) ∧ r = cntF n0 n1 n2 n3 k)) := by
  obtain ⟨d, rfl⟩ : ∃ d1, d = d1 + 1 := ⟨d - 1, by omega⟩
  refine WP.enter (cd := cd_X12_count) rfl ?_
  have e0 : vset V o 31 0 o 2 = n0 := by rw [vset_ne _ _ _ _ (by omega)]; exact h0
  have e1 : vset V o 31 0 o 7 = n1 := by rw [vset_ne _ _ _ _ (by omega)]; exact h1
  have e2 : vset V o 31 0 o 10 = n2 := by rw [vset_ne _ _ _ _ (by omega)]; exact h2
  have e3 : vset V o 31 0 o 17 = n3 := by rw [vset_ne _ _ _ _ (by omega)]; exact h3
  have hls : largs 0 [aO (some o), aI k] = [(0, aO (some o)), (1, aI k)] := rfl
  rw [hls]
  clear hls
  refine g_aload_n rfl rfl ?_
  refine g_iconst rfl ?_
  refine g_putI rfl ms.1 ?_
  refine g_iload_n rfl rfl ?_
  refine g_if_ne rfl (fun c6 => ?_) (fun c6 => ?_)
  · skip
    refine g_iload_n rfl rfl ?_
    refine g_iconst rfl ?_
    refine g_icmp_ne rfl (fun c18 => ?_) (fun c18 => ?_)
    · skip
      refine g_iload_n rfl rfl ?_
      refine g_iconst rfl ?_
      refine g_icmp_ne rfl (fun c30 => ?_) (fun c30 => ?_)
      · skip
        refine g_iload_n rfl rfl ?_
        refine g_iconst rfl ?_
        refine g_icmp_ne rfl (fun c42 => ?_) (fun c42 => ?_)
        · skip
          refine g_bipush rfl ?_
          refine g_iret rfl ?_
          refine ⟨rfl, ?_⟩
          unfold cntF
          first
            | (rw [if_pos (by omega)]; first | exact e0 | exact h0)
            | (rw [if_neg (by omega), if_pos (by omega)]; first | exact e1 | exact h1)
            | (rw [if_neg (by omega), if_neg (by omega), if_pos (by omega)]; first | exact e2 | exact h2)
            | (rw [if_neg (by omega), if_neg (by omega), if_neg (by omega), if_pos (by omega)]; first | exact e3 | exact h3)
            | (rw [if_neg (by omega), if_neg (by omega), if_neg (by omega), if_neg (by omega)])
        · skip
          refine g_aload_n rfl rfl ?_
          refine g_getI rfl ms.1 ?_
          refine g_top (v2 := aI (V o 17)) (congrArg aI (by show (vset V o 31 0) o 17 = (V o 17); rw [vset_ne _ _ _ _ (by omega)])) ?_
          refine g_goto rfl ?_
          refine g_iret rfl ?_
          refine ⟨rfl, ?_⟩
          unfold cntF
          first
            | (rw [if_pos (by omega)]; first | exact e0 | exact h0)
            | (rw [if_neg (by omega), if_pos (by omega)]; first | exact e1 | exact h1)
            | (rw [if_neg (by omega), if_neg (by omega), if_pos (by omega)]; first | exact e2 | exact h2)
            | (rw [if_neg (by omega), if_neg (by omega), if_neg (by omega), if_pos (by omega)]; first | exact e3 | exact h3)
            | (rw [if_neg (by omega), if_neg (by omega), if_neg (by omega), if_neg (by omega)])
      · skip
        refine g_aload_n rfl rfl ?_
        refine g_getI rfl ms.1 ?_
        refine g_top (v2 := aI (V o 10)) (congrArg aI (by show (vset V o 31 0) o 10 = (V o 10); rw [vset_ne _ _ _ _ (by omega)])) ?_
        refine g_goto rfl ?_
        refine g_iret rfl ?_
        refine ⟨rfl, ?_⟩
        unfold cntF
        first
          | (rw [if_pos (by omega)]; first | exact e0 | exact h0)
          | (rw [if_neg (by omega), if_pos (by omega)]; first | exact e1 | exact h1)
          | (rw [if_neg (by omega), if_neg (by omega), if_pos (by omega)]; first | exact e2 | exact h2)
          | (rw [if_neg (by omega), if_neg (by omega), if_neg (by omega), if_pos (by omega)]; first | exact e3 | exact h3)
          | (rw [if_neg (by omega), if_neg (by omega), if_neg (by omega), if_neg (by omega)])
    · skip
      refine g_aload_n rfl rfl ?_
      refine g_getI rfl ms.1 ?_
      refine g_top (v2 := aI (V o 7)) (congrArg aI (by show (vset V o 31 0) o 7 = (V o 7); rw [vset_ne _ _ _ _ (by omega)])) ?_
      refine g_goto rfl ?_
      refine g_iret rfl ?_
      refine ⟨rfl, ?_⟩
      unfold cntF
      first
        | (rw [if_pos (by omega)]; first | exact e0 | exact h0)
        | (rw [if_neg (by omega), if_pos (by omega)]; first | exact e1 | exact h1)
        | (rw [if_neg (by omega), if_neg (by omega), if_pos (by omega)]; first | exact e2 | exact h2)
        | (rw [if_neg (by omega), if_neg (by omega), if_neg (by omega), if_pos (by omega)]; first | exact e3 | exact h3)
        | (rw [if_neg (by omega), if_neg (by omega), if_neg (by omega), if_neg (by omega)])
  · skip
    refine g_aload_n rfl rfl ?_
    refine g_getI rfl ms.1 ?_
    refine g_top (v2 := aI (V o 2)) (congrArg aI (by show (vset V o 31 0) o 2 = (V o 2); rw [vset_ne _ _ _ _ (by omega)])) ?_
    refine g_goto rfl ?_
    refine g_iret rfl ?_
    refine ⟨rfl, ?_⟩
    unfold cntF
    first
      | (rw [if_pos (by omega)]; first | exact e0 | exact h0)
      | (rw [if_neg (by omega), if_pos (by omega)]; first | exact e1 | exact h1)
      | (rw [if_neg (by omega), if_neg (by omega), if_pos (by omega)]; first | exact e2 | exact h2)
      | (rw [if_neg (by omega), if_neg (by omega), if_neg (by omega), if_pos (by omega)]; first | exact e3 | exact h3)
      | (rw [if_neg (by omega), if_neg (by omega), if_neg (by omega), if_neg (by omega)])
