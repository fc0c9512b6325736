/-! the reference's numbers: printed by wip/whole/s40.py -/
/-- a fraction brought down -/
def lowF (n d : Int) : Int × Int := if d < 0 then (-(n.tdiv (Int.gcd n d)), -(d.tdiv (Int.gcd n d))) else (n.tdiv (Int.gcd n d), d.tdiv (Int.gcd n d))
def smallF (q : Int × Int) : Bool := decide (-1073741824 ≤ q.1) && (decide (q.1 ≤ 1073741824) && decide (q.2 ≤ 1073741824))
theorem smallF_iff (q : Int × Int) : smallF q = true ↔ -1073741824 ≤ q.1 ∧ q.1 ≤ 1073741824 ∧ q.2 ≤ 1073741824 := by simp [smallF]
theorem b01 {x : Int} {c : Bool} (h : x = if c then 1 else 0) : x = 0 ∨ x = 1 := by subst h; cases c <;> simp
theorem m_reduce {w : aW} {d : Nat} (hd : 2 ≤ d) {h : aH} {o : Nat} (ms : MS h o) (V : Nat → Nat → Int) (n d1 : Int) (hn : -9223372036854775808 < n ∧ n < 9223372036854775808) (hd1 : -9223372036854775808 < d1 ∧ d1 < 9223372036854775808) (h0 : d1 ≠ 0) : WP w d 268 [aO (some o), aJ n, aJ d1] (hw h V) (RI (fun x h1 => h1 = hw h (vset (vset V o 5 (lowF n d1).1) o 6 (lowF n d1).2) ∧ x = if smallF (lowF n d1) then 1 else 0)) := by
  obtain ⟨d, rfl⟩ : ∃ d1, d = d1 + 1 := ⟨d - 1, by omega⟩
  refine WP.enter (cd := cd_X12_reduce) rfl ?_
  have hg : (0 : Int) < (Int.gcd n d1 : Int) := by
    have := Int.gcd_pos_of_ne_zero_right n h0
    omega
  have b1 := tdiv_le n hg
  have b2 := tdiv_le d1 hg
  have e1 : w64 (n.tdiv (Int.gcd n d1)) = n.tdiv (Int.gcd n d1) := w64_id (by unfold r64; omega)
  have e2 : w64 (d1.tdiv (Int.gcd n d1)) = d1.tdiv (Int.gcd n d1) := w64_id (by unfold r64; omega)
  have e3 : w64 (-(n.tdiv (Int.gcd n d1))) = -(n.tdiv (Int.gcd n d1)) := w64_id (by unfold r64; omega)
  have e4 : w64 (-(d1.tdiv (Int.gcd n d1))) = -(d1.tdiv (Int.gcd n d1)) := w64_id (by unfold r64; omega)
  have hls : largs 0 [aO (some o), aJ n, aJ d1] = [(0, aO (some o)), (1, aJ n), (3, aJ d1)] := rfl
  rw [hls]
  clear hls
  refine g_lload_n rfl rfl ?_
  refine g_lload_n rfl rfl ?_
  refine g_callSJ [aJ n, aJ d1] [] rfl rfl rfl rfl (Nat.le_of_ble_eq_true rfl) (c_divisor (by omega) n d1 hn hd1 _) ?_
  rintro g _ ⟨rfl, rfl⟩
  refine g_lstore (l1 := [(5, aJ ((Int.gcd n d1 : Int))), (0, aO (some o)), (1, aJ n), (3, aJ d1)]) rfl rfl ?_
  refine g_aload_n rfl rfl ?_
  refine g_lload_n rfl rfl ?_
  refine g_lconst0 rfl ?_
  refine g_lc_ge rfl rfl (fun c10 => ?_) (fun c10 => ?_)
  · skip
    refine g_lload_n rfl rfl ?_
    refine g_lload rfl rfl ?_
    refine g_ldiv rfl (by omega) ?_
    refine g_top (v2 := aJ (n.tdiv (Int.gcd n d1))) (congrArg aJ (by first | rfl | exact e1)) ?_
    refine g_putJ rfl ms.1 ?_
    refine g_aload_n rfl rfl ?_
    refine g_lload_n rfl rfl ?_
    refine g_lconst0 rfl ?_
    refine g_lc_ge rfl rfl (fun c32 => ?_) (fun c32 => ?_)
    · skip
      refine g_lload_n rfl rfl ?_
      refine g_lload rfl rfl ?_
      refine g_ldiv rfl (by omega) ?_
      refine g_top (v2 := aJ (d1.tdiv (Int.gcd n d1))) (congrArg aJ (by first | rfl | exact e2)) ?_
      refine g_putJ rfl ms.1 ?_
      refine g_aload_n rfl rfl ?_
      refine g_getJ rfl ms.1 ?_
      refine g_top (v2 := aJ (n.tdiv (Int.gcd n d1))) (congrArg aJ (by show (vset (vset V o 5 (n.tdiv (Int.gcd n d1))) o 6 (d1.tdiv (Int.gcd n d1))) o 5 = (n.tdiv (Int.gcd n d1)); rw [vset_ne _ _ _ _ (by omega), vset_eq])) ?_
      refine g_ldc2 rfl ?_
      refine g_ldc2 rfl ?_
      refine g_callSI [aJ (n.tdiv (Int.gcd n d1)), aJ ((-1073741824)), aJ 1073741824] [] rfl rfl rfl rfl (Nat.le_of_ble_eq_true rfl) (c_in (by omega) _ _ _ _) ?_
      rintro x1 _ ⟨rfl, rfl⟩
      refine g_if_eq rfl (fun c64 => ?_) (fun c64 => ?_)
      · skip
        refine g_iconst rfl ?_
        refine g_zret rfl (by omega) ?_
        first
          | (exfalso; omega)
          | (have u : d1 < 0 := by omega
             refine ⟨by simp only [lowF, if_pos u]; rfl, ?_⟩
             simp only [lowF, if_pos u, smallF]
             split at c64 <;> simp_all <;> omega)
          | (have u : ¬ d1 < 0 := by omega
             refine ⟨by simp only [lowF, if_neg u]; rfl, ?_⟩
             simp only [lowF, if_neg u, smallF]
             split at c64 <;> simp_all <;> omega)
      · skip
        refine g_aload_n rfl rfl ?_
        refine g_getJ rfl ms.1 ?_
        refine g_top (v2 := aJ (d1.tdiv (Int.gcd n d1))) (congrArg aJ (by show (vset (vset V o 5 (n.tdiv (Int.gcd n d1))) o 6 (d1.tdiv (Int.gcd n d1))) o 6 = (d1.tdiv (Int.gcd n d1)); rw [vset_eq])) ?_
        refine g_ldc2 rfl ?_
        refine g_lc_gt rfl rfl (fun c74 => ?_) (fun c74 => ?_)
        · skip
          refine g_iconst rfl ?_
          refine g_zret rfl (by omega) ?_
          first
            | (exfalso; omega)
            | (have u : d1 < 0 := by omega
               refine ⟨by simp only [lowF, if_pos u]; rfl, ?_⟩
               simp only [lowF, if_pos u, smallF]
               split at c64 <;> simp_all <;> omega)
            | (have u : ¬ d1 < 0 := by omega
               refine ⟨by simp only [lowF, if_neg u]; rfl, ?_⟩
               simp only [lowF, if_neg u, smallF]
               split at c64 <;> simp_all <;> omega)
        · skip
          refine g_iconst rfl ?_
          refine g_goto rfl ?_
          refine g_zret rfl (by omega) ?_
          first
            | (exfalso; omega)
            | (have u : d1 < 0 := by omega
               refine ⟨by simp only [lowF, if_pos u]; rfl, ?_⟩
               simp only [lowF, if_pos u, smallF]
               split at c64 <;> simp_all <;> omega)
            | (have u : ¬ d1 < 0 := by omega
               refine ⟨by simp only [lowF, if_neg u]; rfl, ?_⟩
               simp only [lowF, if_neg u, smallF]
               split at c64 <;> simp_all <;> omega)
    · skip
      refine g_lload_n rfl rfl ?_
      refine g_lload rfl rfl ?_
      refine g_ldiv rfl (by omega) ?_
      refine g_top (v2 := aJ (d1.tdiv (Int.gcd n d1))) (congrArg aJ (by exact e2)) ?_
      refine g_lneg rfl ?_
      refine g_top (v2 := aJ (-(d1.tdiv (Int.gcd n d1)))) (congrArg aJ (by exact e4)) ?_
      refine g_goto rfl ?_
      refine g_top (v2 := aJ (-(d1.tdiv (Int.gcd n d1)))) (congrArg aJ (by first | rfl | exact e2)) ?_
      refine g_putJ rfl ms.1 ?_
      refine g_aload_n rfl rfl ?_
      refine g_getJ rfl ms.1 ?_
      refine g_top (v2 := aJ (n.tdiv (Int.gcd n d1))) (congrArg aJ (by show (vset (vset V o 5 (n.tdiv (Int.gcd n d1))) o 6 (-(d1.tdiv (Int.gcd n d1)))) o 5 = (n.tdiv (Int.gcd n d1)); rw [vset_ne _ _ _ _ (by omega), vset_eq])) ?_
      refine g_ldc2 rfl ?_
      refine g_ldc2 rfl ?_
      refine g_callSI [aJ (n.tdiv (Int.gcd n d1)), aJ ((-1073741824)), aJ 1073741824] [] rfl rfl rfl rfl (Nat.le_of_ble_eq_true rfl) (c_in (by omega) _ _ _ _) ?_
      rintro x1 _ ⟨rfl, rfl⟩
      refine g_if_eq rfl (fun c64 => ?_) (fun c64 => ?_)
      · skip
        refine g_iconst rfl ?_
        refine g_zret rfl (by omega) ?_
        first
          | (exfalso; omega)
          | (have u : d1 < 0 := by omega
             refine ⟨by simp only [lowF, if_pos u]; rfl, ?_⟩
             simp only [lowF, if_pos u, smallF]
             split at c64 <;> simp_all <;> omega)
          | (have u : ¬ d1 < 0 := by omega
             refine ⟨by simp only [lowF, if_neg u]; rfl, ?_⟩
             simp only [lowF, if_neg u, smallF]
             split at c64 <;> simp_all <;> omega)
      · skip
        refine g_aload_n rfl rfl ?_
        refine g_getJ rfl ms.1 ?_
        refine g_top (v2 := aJ (-(d1.tdiv (Int.gcd n d1)))) (congrArg aJ (by show (vset (vset V o 5 (n.tdiv (Int.gcd n d1))) o 6 (-(d1.tdiv (Int.gcd n d1)))) o 6 = (-(d1.tdiv (Int.gcd n d1))); rw [vset_eq])) ?_
        refine g_ldc2 rfl ?_
        refine g_lc_gt rfl rfl (fun c74 => ?_) (fun c74 => ?_)
        · skip
          refine g_iconst rfl ?_
          refine g_zret rfl (by omega) ?_
          first
            | (exfalso; omega)
            | (have u : d1 < 0 := by omega
               refine ⟨by simp only [lowF, if_pos u]; rfl, ?_⟩
               simp only [lowF, if_pos u, smallF]
               split at c64 <;> simp_all <;> omega)
            | (have u : ¬ d1 < 0 := by omega
               refine ⟨by simp only [lowF, if_neg u]; rfl, ?_⟩
               simp only [lowF, if_neg u, smallF]
               split at c64 <;> simp_all <;> omega)
        · skip
          refine g_iconst rfl ?_
          refine g_goto rfl ?_
          refine g_zret rfl (by omega) ?_
          first
            | (exfalso; omega)
            | (have u : d1 < 0 := by omega
               refine ⟨by simp only [lowF, if_pos u]; rfl, ?_⟩
               simp only [lowF, if_pos u, smallF]
               split at c64 <;> simp_all <;> omega)
            | (have u : ¬ d1 < 0 := by omega
               refine ⟨by simp only [lowF, if_neg u]; rfl, ?_⟩
               simp only [lowF, if_neg u, smallF]
               split at c64 <;> simp_all <;> omega)
  · skip
    refine g_lload_n rfl rfl ?_
    refine g_lload rfl rfl ?_
    refine g_ldiv rfl (by omega) ?_
    refine g_top (v2 := aJ (n.tdiv (Int.gcd n d1))) (congrArg aJ (by exact e1)) ?_
    refine g_lneg rfl ?_
    refine g_top (v2 := aJ (-(n.tdiv (Int.gcd n d1)))) (congrArg aJ (by exact e3)) ?_
    refine g_goto rfl ?_
    refine g_top (v2 := aJ (-(n.tdiv (Int.gcd n d1)))) (congrArg aJ (by first | rfl | exact e1)) ?_
    refine g_putJ rfl ms.1 ?_
    refine g_aload_n rfl rfl ?_
    refine g_lload_n rfl rfl ?_
    refine g_lconst0 rfl ?_
    refine g_lc_ge rfl rfl (fun c32 => ?_) (fun c32 => ?_)
    · skip
      refine g_lload_n rfl rfl ?_
      refine g_lload rfl rfl ?_
      refine g_ldiv rfl (by omega) ?_
      refine g_top (v2 := aJ (d1.tdiv (Int.gcd n d1))) (congrArg aJ (by first | rfl | exact e2)) ?_
      refine g_putJ rfl ms.1 ?_
      refine g_aload_n rfl rfl ?_
      refine g_getJ rfl ms.1 ?_
      refine g_top (v2 := aJ (-(n.tdiv (Int.gcd n d1)))) (congrArg aJ (by show (vset (vset V o 5 (-(n.tdiv (Int.gcd n d1)))) o 6 (d1.tdiv (Int.gcd n d1))) o 5 = (-(n.tdiv (Int.gcd n d1))); rw [vset_ne _ _ _ _ (by omega), vset_eq])) ?_
      refine g_ldc2 rfl ?_
      refine g_ldc2 rfl ?_
      refine g_callSI [aJ (-(n.tdiv (Int.gcd n d1))), aJ ((-1073741824)), aJ 1073741824] [] rfl rfl rfl rfl (Nat.le_of_ble_eq_true rfl) (c_in (by omega) _ _ _ _) ?_
      rintro x1 _ ⟨rfl, rfl⟩
      refine g_if_eq rfl (fun c64 => ?_) (fun c64 => ?_)
      · skip
        refine g_iconst rfl ?_
        refine g_zret rfl (by omega) ?_
        first
          | (exfalso; omega)
          | (have u : d1 < 0 := by omega
             refine ⟨by simp only [lowF, if_pos u]; rfl, ?_⟩
             simp only [lowF, if_pos u, smallF]
             split at c64 <;> simp_all <;> omega)
          | (have u : ¬ d1 < 0 := by omega
             refine ⟨by simp only [lowF, if_neg u]; rfl, ?_⟩
             simp only [lowF, if_neg u, smallF]
             split at c64 <;> simp_all <;> omega)
      · skip
        refine g_aload_n rfl rfl ?_
        refine g_getJ rfl ms.1 ?_
        refine g_top (v2 := aJ (d1.tdiv (Int.gcd n d1))) (congrArg aJ (by show (vset (vset V o 5 (-(n.tdiv (Int.gcd n d1)))) o 6 (d1.tdiv (Int.gcd n d1))) o 6 = (d1.tdiv (Int.gcd n d1)); rw [vset_eq])) ?_
        refine g_ldc2 rfl ?_
        refine g_lc_gt rfl rfl (fun c74 => ?_) (fun c74 => ?_)
        · skip
          refine g_iconst rfl ?_
          refine g_zret rfl (by omega) ?_
          first
            | (exfalso; omega)
            | (have u : d1 < 0 := by omega
               refine ⟨by simp only [lowF, if_pos u]; rfl, ?_⟩
               simp only [lowF, if_pos u, smallF]
               split at c64 <;> simp_all <;> omega)
            | (have u : ¬ d1 < 0 := by omega
               refine ⟨by simp only [lowF, if_neg u]; rfl, ?_⟩
               simp only [lowF, if_neg u, smallF]
               split at c64 <;> simp_all <;> omega)
        · skip
          refine g_iconst rfl ?_
          refine g_goto rfl ?_
          refine g_zret rfl (by omega) ?_
          first
            | (exfalso; omega)
            | (have u : d1 < 0 := by omega
               refine ⟨by simp only [lowF, if_pos u]; rfl, ?_⟩
               simp only [lowF, if_pos u, smallF]
               split at c64 <;> simp_all <;> omega)
            | (have u : ¬ d1 < 0 := by omega
               refine ⟨by simp only [lowF, if_neg u]; rfl, ?_⟩
               simp only [lowF, if_neg u, smallF]
               split at c64 <;> simp_all <;> omega)
    · skip
      refine g_lload_n rfl rfl ?_
      refine g_lload rfl rfl ?_
      refine g_ldiv rfl (by omega) ?_
      refine g_top (v2 := aJ (d1.tdiv (Int.gcd n d1))) (congrArg aJ (by exact e2)) ?_
      refine g_lneg rfl ?_
      refine g_top (v2 := aJ (-(d1.tdiv (Int.gcd n d1)))) (congrArg aJ (by exact e4)) ?_
      refine g_goto rfl ?_
      refine g_top (v2 := aJ (-(d1.tdiv (Int.gcd n d1)))) (congrArg aJ (by first | rfl | exact e2)) ?_
      refine g_putJ rfl ms.1 ?_
      refine g_aload_n rfl rfl ?_
      refine g_getJ rfl ms.1 ?_
      refine g_top (v2 := aJ (-(n.tdiv (Int.gcd n d1)))) (congrArg aJ (by show (vset (vset V o 5 (-(n.tdiv (Int.gcd n d1)))) o 6 (-(d1.tdiv (Int.gcd n d1)))) o 5 = (-(n.tdiv (Int.gcd n d1))); rw [vset_ne _ _ _ _ (by omega), vset_eq])) ?_
      refine g_ldc2 rfl ?_
      refine g_ldc2 rfl ?_
      refine g_callSI [aJ (-(n.tdiv (Int.gcd n d1))), aJ ((-1073741824)), aJ 1073741824] [] rfl rfl rfl rfl (Nat.le_of_ble_eq_true rfl) (c_in (by omega) _ _ _ _) ?_
      rintro x1 _ ⟨rfl, rfl⟩
      refine g_if_eq rfl (fun c64 => ?_) (fun c64 => ?_)
      · skip
        refine g_iconst rfl ?_
        refine g_zret rfl (by omega) ?_
        first
          | (exfalso; omega)
          | (have u : d1 < 0 := by omega
             refine ⟨by simp only [lowF, if_pos u]; rfl, ?_⟩
             simp only [lowF, if_pos u, smallF]
             split at c64 <;> simp_all <;> omega)
          | (have u : ¬ d1 < 0 := by omega
             refine ⟨by simp only [lowF, if_neg u]; rfl, ?_⟩
             simp only [lowF, if_neg u, smallF]
             split at c64 <;> simp_all <;> omega)
      · skip
        refine g_aload_n rfl rfl ?_
        refine g_getJ rfl ms.1 ?_
        refine g_top (v2 := aJ (-(d1.tdiv (Int.gcd n d1)))) (congrArg aJ (by show (vset (vset V o 5 (-(n.tdiv (Int.gcd n d1)))) o 6 (-(d1.tdiv (Int.gcd n d1)))) o 6 = (-(d1.tdiv (Int.gcd n d1))); rw [vset_eq])) ?_
        refine g_ldc2 rfl ?_
        refine g_lc_gt rfl rfl (fun c74 => ?_) (fun c74 => ?_)
        · skip
          refine g_iconst rfl ?_
          refine g_zret rfl (by omega) ?_
          first
            | (exfalso; omega)
            | (have u : d1 < 0 := by omega
               refine ⟨by simp only [lowF, if_pos u]; rfl, ?_⟩
               simp only [lowF, if_pos u, smallF]
               split at c64 <;> simp_all <;> omega)
            | (have u : ¬ d1 < 0 := by omega
               refine ⟨by simp only [lowF, if_neg u]; rfl, ?_⟩
               simp only [lowF, if_neg u, smallF]
               split at c64 <;> simp_all <;> omega)
        · skip
          refine g_iconst rfl ?_
          refine g_goto rfl ?_
          refine g_zret rfl (by omega) ?_
          first
            | (exfalso; omega)
            | (have u : d1 < 0 := by omega
               refine ⟨by simp only [lowF, if_pos u]; rfl, ?_⟩
               simp only [lowF, if_pos u, smallF]
               split at c64 <;> simp_all <;> omega)
            | (have u : ¬ d1 < 0 := by omega
               refine ⟨by simp only [lowF, if_neg u]; rfl, ?_⟩
               simp only [lowF, if_neg u, smallF]
               split at c64 <;> simp_all <;> omega)
theorem m_keepNumber {w : aW} {d : Nat} (hd : 1 ≤ d) {h : aH} {o : Nat} (ms : MS h o) (V : Nat → Nat → Int) (k : Nat) (hk : V o 2 = k) (hk2 : k ≤ 200) (b : Int) : WP w d 269 [aO (some o), aI b] (hw h V) (RI (fun x h1 => if b = 0 ∨ k = 200 then h1 = hw h V ∧ x = -4 else h1 = hw h (vset (vset (vset V (o + 2) k (V o 5)) (o + 3) k (V o 6)) o 2 (k + 1)) ∧ x = k)) := by
  obtain ⟨d, rfl⟩ : ∃ d1, d = d1 + 1 := ⟨d - 1, by omega⟩
  refine WP.enter (cd := cd_X12_keepNumber) rfl ?_
  have hls : largs 0 [aO (some o), aI b] = [(0, aO (some o)), (1, aI b)] := rfl
  rw [hls]
  clear hls
  refine g_iload_n rfl rfl ?_
  refine g_if_eq rfl (fun c1 => ?_) (fun c1 => ?_)
  · skip
    refine g_bipush rfl ?_
    refine g_iret rfl ?_
    first
      | (rw [if_pos (by omega)]; exact ⟨rfl, rfl⟩)
      | (rw [if_neg (by omega)]; exact ⟨rfl, by omega⟩)
  · skip
    refine g_aload_n rfl rfl ?_
    refine g_getI rfl ms.1 ?_
    refine g_top (v2 := aI ((k : Int))) (congrArg aI (by show V o 2 = ((k : Int)); rw [hk])) ?_
    refine g_sipush rfl ?_
    refine g_icmp_ne rfl (fun c11 => ?_) (fun c11 => ?_)
    · skip
      refine g_aload_n rfl rfl ?_
      refine g_getR rfl ms.1 (mr_upper ms) ?_
      refine g_aload_n rfl rfl ?_
      refine g_getI rfl ms.1 ?_
      refine g_top (v2 := aI ((k : Int))) (congrArg aI (by show V o 2 = ((k : Int)); rw [hk])) ?_
      refine g_aload_n rfl rfl ?_
      refine g_getJ rfl ms.1 ?_
      refine g_last (i := k) rfl (mt_upper ms) (by omega) (by omega) ?_
      refine g_aload_n rfl rfl ?_
      refine g_getR rfl ms.1 (mr_lower ms) ?_
      refine g_aload_n rfl rfl ?_
      refine g_getI rfl ms.1 ?_
      refine g_top (v2 := aI ((k : Int))) (congrArg aI (by show (vset V (o + 2) k (V o 5)) o 2 = ((k : Int)); rw [vset_ne _ _ _ _ (by omega), hk])) ?_
      refine g_aload_n rfl rfl ?_
      refine g_getJ rfl ms.1 ?_
      refine g_top (v2 := aJ (V o 6)) (congrArg aJ (by show (vset V (o + 2) k (V o 5)) o 6 = (V o 6); rw [vset_ne _ _ _ _ (by omega)])) ?_
      refine g_last (i := k) rfl (mt_lower ms) (by omega) (by omega) ?_
      refine g_aload_n rfl rfl ?_
      refine g_dup rfl rfl ?_
      refine g_getI rfl ms.1 ?_
      refine g_top (v2 := aI ((k : Int))) (congrArg aI (by show (vset (vset V (o + 2) k (V o 5)) (o + 3) k (V o 6)) o 2 = ((k : Int)); rw [vset_ne _ _ _ _ (by omega), vset_ne _ _ _ _ (by omega), hk])) ?_
      refine g_iconst rfl ?_
      refine g_iadd rfl (by omega) (by omega) ?_
      refine g_putI rfl ms.1 ?_
      refine g_aload_n rfl rfl ?_
      refine g_getI rfl ms.1 ?_
      refine g_top (v2 := aI (((k : Int)) + 1)) (congrArg aI (by show (vset (vset (vset V (o + 2) k (V o 5)) (o + 3) k (V o 6)) o 2 (((k : Int)) + 1)) o 2 = (((k : Int)) + 1); rw [vset_eq])) ?_
      refine g_iconst rfl ?_
      refine g_isub rfl (by omega) (by omega) ?_
      refine g_iret rfl ?_
      first
        | (rw [if_pos (by omega)]; exact ⟨rfl, rfl⟩)
        | (rw [if_neg (by omega)]; exact ⟨rfl, by omega⟩)
    · skip
      refine g_bipush rfl ?_
      refine g_iret rfl ?_
      first
        | (rw [if_pos (by omega)]; exact ⟨rfl, rfl⟩)
        | (rw [if_neg (by omega)]; exact ⟨rfl, by omega⟩)
theorem m_isNumber {w : aW} {d : Nat} (hd : 2 ≤ d) {h : aH} {o : Nat} (ms : MS h o) (V : Nat → Nat → Int) (k : Nat) (hk : V o 2 = k) (hk2 : k ≤ 200) (a : Int) : WP w d 271 [aO (some o), aI a] (hw h V) (RI (fun x h1 => h1 = hw h V ∧ x = if 0 ≤ a ∧ a < k then 1 else 0)) := by
  obtain ⟨d, rfl⟩ : ∃ d1, d = d1 + 1 := ⟨d - 1, by omega⟩
  refine WP.enter (cd := cd_X12_isNumber) rfl ?_
  have hls : largs 0 [aO (some o), aI a] = [(0, aO (some o)), (1, aI a)] := rfl
  rw [hls]
  clear hls
  refine g_iload_n rfl rfl ?_
  refine g_i2l rfl ?_
  refine g_lconst0 rfl ?_
  refine g_aload_n rfl rfl ?_
  refine g_getI rfl ms.1 ?_
  refine g_top (v2 := aI ((k : Int))) (congrArg aI (by show V o 2 = ((k : Int)); rw [hk])) ?_
  refine g_iconst rfl ?_
  refine g_isub rfl (by omega) (by omega) ?_
  refine g_i2l rfl ?_
  refine g_callSI [aJ a, aJ 0, aJ (((k : Int)) - 1)] [] rfl rfl rfl rfl (Nat.le_of_ble_eq_true rfl) (c_in (by omega) _ _ _ _) ?_
  rintro x1 _ ⟨rfl, rfl⟩
  refine g_zret rfl (by split <;> omega) ?_
  refine ⟨rfl, ?_⟩
  split <;> (try split) <;> omega
/-- what the reference does with a fraction brought down -/
def mKeep (o k : Nat) (V : Nat → Nat → Int) : Nat → Nat → Int := vset (vset (vset V (o + 2) k (V o 5)) (o + 3) k (V o 6)) o 2 (k + 1)
theorem m_fraction {w : aW} {d : Nat} (hd : 3 ≤ d) {h : aH} {o : Nat} (ms : MS h o) (V : Nat → Nat → Int) (k : Nat) (hk : V o 2 = k) (hk2 : k ≤ 200) (n d1 : Int) (hn : -9223372036854775808 ≤ n ∧ n < 9223372036854775808) (hd1 : -9223372036854775808 ≤ d1 ∧ d1 < 9223372036854775808) : WP w d 272 [aO (some o), aJ n, aJ d1] (hw h V) (RI (fun x h1 => if d1 = 0 then h1 = hw h (vset V o 31 1) ∧ x = 0 else if n = -9223372036854775808 ∨ d1 = -9223372036854775808 then h1 = hw h (vset V o 31 0) ∧ x = -4 else if smallF (lowF n d1) = true ∧ k < 200 then h1 = hw h (mKeep o k (vset (vset (vset V o 31 0) o 5 (lowF n d1).1) o 6 (lowF n d1).2)) ∧ x = k else h1 = hw h (vset (vset (vset V o 31 0) o 5 (lowF n d1).1) o 6 (lowF n d1).2) ∧ x = -4)) := by
  obtain ⟨d, rfl⟩ : ∃ d1, d = d1 + 1 := ⟨d - 1, by omega⟩
  refine WP.enter (cd := cd_X12_fraction) rfl ?_
  have hls : largs 0 [aO (some o), aJ n, aJ d1] = [(0, aO (some o)), (1, aJ n), (3, aJ d1)] := rfl
  rw [hls]
  clear hls
  refine g_aload_n rfl rfl ?_
  refine g_lload_n rfl rfl ?_
  refine g_lconst0 rfl ?_
  refine g_lc_ne rfl rfl (fun c3 => ?_) (fun c3 => ?_)
  · skip
    refine g_iconst rfl ?_
    refine g_putI rfl ms.1 ?_
    refine g_aload_n rfl rfl ?_
    refine g_getI rfl ms.1 ?_
    refine g_top (v2 := aI 0) (congrArg aI (by show (vset V o 31 0) o 31 = 0; rw [vset_eq])) ?_
    refine g_if_le_t rfl (by omega) ?_
    refine g_lload_n rfl rfl ?_
    refine g_ldc2 rfl ?_
    refine g_lc_eq rfl rfl (fun c28 => ?_) (fun c28 => ?_)
    · skip
      refine g_bipush rfl ?_
      refine g_iret rfl ?_
      first
        | (rw [if_pos (by omega)]; exact ⟨rfl, rfl⟩)
        | (rw [if_neg (by omega), if_pos (by omega)]; exact ⟨rfl, rfl⟩)
        | (exfalso; omega)
    · skip
      refine g_lload_n rfl rfl ?_
      refine g_ldc2 rfl ?_
      refine g_lc_ne rfl rfl (fun c36 => ?_) (fun c36 => ?_)
      · skip
        refine g_aload_n rfl rfl ?_
        refine g_aload_n rfl rfl ?_
        refine g_lload_n rfl rfl ?_
        refine g_lload_n rfl rfl ?_
        refine g_callVI [aJ n, aJ d1] [aO (some o)] rfl rfl rfl rfl (Nat.le_of_ble_eq_true rfl) ms.1 (m_reduce (by omega) ms ((vset V o 31 0)) n d1 (by omega) (by omega) (by omega)) ?_
        rintro x1 _ ⟨rfl, p2⟩
        refine g_callVI [aI x1] [] rfl rfl rfl rfl (Nat.le_of_ble_eq_true rfl) ms.1 (m_keepNumber (by omega) ms (vset (vset (vset V o 31 0) o 5 (lowF n d1).1) o 6 (lowF n d1).2) k (by rw [vset_ne _ _ _ _ (by omega), vset_ne _ _ _ _ (by omega), vset_ne _ _ _ _ (by omega)]; exact hk) hk2 x1) ?_
        intro x5 h2 q2
        refine g_iret rfl ?_
        rw [if_neg (by omega), if_neg (by omega)]
        by_cases hq : smallF (lowF n d1) = true ∧ k < 200
        · rw [if_pos hq]
          rw [if_neg (by rw [p2]; simp [hq.1]; omega)] at q2
          exact q2
        · rw [if_neg hq]
          rw [if_pos (by rw [p2]; by_cases hs1 : smallF (lowF n d1) = true <;> simp_all <;> omega)] at q2
          exact q2
      · skip
        refine g_bipush rfl ?_
        refine g_iret rfl ?_
        first
          | (rw [if_pos (by omega)]; exact ⟨rfl, rfl⟩)
          | (rw [if_neg (by omega), if_pos (by omega)]; exact ⟨rfl, rfl⟩)
          | (exfalso; omega)
  · skip
    refine g_iconst rfl ?_
    refine g_goto rfl ?_
    refine g_putI rfl ms.1 ?_
    refine g_aload_n rfl rfl ?_
    refine g_getI rfl ms.1 ?_
    refine g_top (v2 := aI 1) (congrArg aI (by show (vset V o 31 1) o 31 = 1; rw [vset_eq])) ?_
    refine g_if_le_f rfl (by omega) ?_
    refine g_iconst rfl ?_
    refine g_iret rfl ?_
    first
      | (rw [if_pos (by omega)]; exact ⟨rfl, rfl⟩)
      | (rw [if_neg (by omega), if_pos (by omega)]; exact ⟨rfl, rfl⟩)
      | (exfalso; omega)
