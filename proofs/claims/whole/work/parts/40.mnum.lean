/-! the reference's numbers: printed by wip/whole/s40.py -/
/-- a fraction brought down -/
def lowF (n d : Int) : Int × Int := if d < 0 then (-(n.tdiv (Int.gcd n d)), -(d.tdiv (Int.gcd n d))) else (n.tdiv (Int.gcd n d), d.tdiv (Int.gcd n d))
def smallF (q : Int × Int) : Bool := decide (-1073741824 ≤ q.1) && (decide (q.1 ≤ 1073741824) && decide (q.2 ≤ 1073741824))
theorem smallF_iff (q : Int × Int) : smallF q = true ↔ -1073741824 ≤ q.1 ∧ q.1 ≤ 1073741824 ∧ q.2 ≤ 1073741824 := by simp [smallF]
theorem b01 {x : Int} {c : Bool} (h : x = if c then 1 else 0) : x = 0 ∨ x = 1 := by subst h; cases c <;> simp
theorem m_reduce {w : aW} {d : Nat} (hd : 2 ≤ d) {h : aH} {o : Nat} (ms : MS h o) (V : Nat → Nat → Int) (n d1 : Int) (hn : -9223372036854775808 < n ∧ n < 9223372036854775808) (hd1 : -9223372036854775808 < d1 ∧ d1 < 9223372036854775808) (h0 : d1 ≠ 0) : WP w d 268 [aO (some o), aJ n, aJ d1] (hw h V) (RI (fun x h1 => h1 = hw h (vset (vset V o 5 (lowF n d1).1) o 6 (lowF n d1).2) ∧ x = if smallF (lowF n d1) then 1 else 0)) := by
  obtain ⟨d, rfl⟩ : ∃ d1, d = d1 + 1 := ⟨d - 1, by omega⟩
  refine WP.enter (cd := cd_X12_reduce) rfl ?_
  have hg : (0 : Int) < (Int.gcd n d1 : Int) := by
    have := Int.gcd_pos_of_ne_zero_right n h0
    omega
  have b1 := tdiv_le n hg
  have b2 := tdiv_le d1 hg
  have e1 : w64 (n.tdiv (Int.gcd n d1)) = n.tdiv (Int.gcd n d1) := w64_id (by unfold r64; omega)
  have e2 : w64 (d1.tdiv (Int.gcd n d1)) = d1.tdiv (Int.gcd n d1) := w64_id (by unfold r64; omega)
  have e3 : w64 (-(n.tdiv (Int.gcd n d1))) = -(n.tdiv (Int.gcd n d1)) := w64_id (by unfold r64; omega)
  have e4 : w64 (-(d1.tdiv (Int.gcd n d1))) = -(d1.tdiv (Int.gcd n d1)) := w64_id (by unfold r64; omega)
  have hls : largs 0 [aO (some o), aJ n, aJ d1] = [(0, aO (some o)), (1, aJ n), (3, aJ d1)] := rfl
  rw [hls]
  clear hls
  refine g_lload_n rfl rfl ?_
  refine g_lload_n rfl rfl ?_
  refine g_callSJ [aJ n, aJ d1] [] rfl rfl rfl rfl (Nat.le_of_ble_eq_true rfl) (c_divisor (by omega) n d1 hn hd1 _) ?_
  rintro g _ ⟨rfl, rfl⟩
  refine g_lstore (l1 := [(5, aJ ((Int.gcd n d1 : Int))), (0, aO (some o)), (1, aJ n), (3, aJ d1)]) rfl rfl ?_
  refine g_aload_n rfl rfl ?_
  refine g_lload_n rfl rfl ?_
  refine g_lconst0 rfl ?_
  refine g_lc_ge rfl rfl (fun c10 => ?_) (fun c10 => ?_)
  · skip
    refine g_lload_n rfl rfl ?_
    refine g_lload rfl rfl ?_
    refine g_ldiv rfl (by omega) ?_
    refine g_top (v2 := aJ (n.tdiv (Int.gcd n d1))) (congrArg aJ (by first | rfl | exact e1)) ?_
    refine g_putJ rfl ms.1 ?_
    refine g_aload_n rfl rfl ?_
    refine g_lload_n rfl rfl ?_
    refine g_lconst0 rfl ?_
    refine g_lc_ge rfl rfl (fun c32 => ?_) (fun c32 => ?_)
    · skip
      refine g_lload_n rfl rfl ?_
      refine g_lload rfl rfl ?_
      refine g_ldiv rfl (by omega) ?_
      refine g_top (v2 := aJ (d1.tdiv (Int.gcd n d1))) (congrArg aJ (by first | rfl | exact e2)) ?_
      refine g_putJ rfl ms.1 ?_
      refine g_aload_n rfl rfl ?_
      refine g_getJ rfl ms.1 ?_
      refine g_top (v2 := aJ (n.tdiv (Int.gcd n d1))) (congrArg aJ (by show (vset (vset V o 5 (n.tdiv (Int.gcd n d1))) o 6 (d1.tdiv (Int.gcd n d1))) o 5 = (n.tdiv (Int.gcd n d1)); rw [vset_ne _ _ _ _ (by omega), vset_eq])) ?_
      refine g_ldc2 rfl ?_
      refine g_ldc2 rfl ?_
      refine g_callSI [aJ (n.tdiv (Int.gcd n d1)), aJ ((-1073741824)), aJ 1073741824] [] rfl rfl rfl rfl (Nat.le_of_ble_eq_true rfl) (c_in (by omega) _ _ _ _) ?_
      rintro x1 _ ⟨rfl, rfl⟩
      refine g_if_eq rfl (fun c64 => ?_) (fun c64 => ?_)
      · skip
        refine g_iconst rfl ?_
        refine g_zret rfl (by omega) ?_
        first
          | (exfalso; omega)
          | (have u : d1 < 0 := by omega
             refine ⟨by simp only [lowF, if_pos u]; rfl, ?_⟩
             simp only [lowF, if_pos u, smallF]
             split at c64 <;> simp_all <;> omega)
          | (have u : ¬ d1 < 0 := by omega
             refine ⟨by simp only [lowF, if_neg u]; rfl, ?_⟩
             simp only [lowF, if_neg u, smallF]
             split at c64 <;> simp_all <;> omega)
      · skip
        refine g_aload_n rfl rfl ?_
        refine g_getJ rfl ms.1 ?_
        refine g_top (v2 := aJ (d1.tdiv (Int.gcd n d1))) (congrArg aJ (by show (vset (vset V o 5 (n.tdiv (Int.gcd n d1))) o 6 (d1.tdiv (Int.gcd n d1))) o 6 = (d1.tdiv (Int.gcd n d1)); rw [vset_eq])) ?_
        refine g_ldc2 rfl ?_
        refine g_lc_gt rfl rfl (fun c74 => ?_) (fun c74 => ?_)
        · skip
          refine g_iconst rfl ?_
          refine g_zret rfl (by omega) ?_
          first
            | (exfalso; omega)
            | (have u : d1 < 0 := by omega
               refine ⟨by simp only [lowF, if_pos u]; rfl, ?_⟩
               simp only [lowF, if_pos u, smallF]
               split at c64 <;> simp_all <;> omega)
            | (have u : ¬ d1 < 0 := by omega
               refine ⟨by simp only [lowF, if_neg u]; rfl, ?_⟩
               simp only [lowF, if_neg u, smallF]
               split at c64 <;> simp_all <;> omega)
        · skip
          refine g_iconst rfl ?_
          refine g_goto rfl ?_
          refine g_zret rfl (by omega) ?_
          first
            | (exfalso; omega)
            | (have u : d1 < 0 := by omega
               refine ⟨by simp only [lowF, if_pos u]; rfl, ?_⟩
               simp only [lowF, if_pos u, smallF]
               split at c64 <;> simp_all <;> omega)
            | (have u : ¬ d1 < 0 := by omega
               refine ⟨by simp only [lowF, if_neg u]; rfl, ?_⟩
               simp only [lowF, if_neg u, smallF]
               split at c64 <;> simp_all <;> omega)
    · skip
      refine g_lload_n rfl rfl ?_
      refine g_lload rfl rfl ?_
      refine g_ldiv rfl (by omega) ?_
      refine g_top (v2 := aJ (d1.tdiv (Int.gcd n d1))) (congrArg aJ (by exact e2)) ?_
      refine g_lneg rfl ?_
      refine g_top (v2 := aJ (-(d1.tdiv (Int.gcd n d1)))) (congrArg aJ (by exact e4)) ?_
      refine g_goto rfl ?_
      refine g_top (v2 := aJ (-(d1.tdiv (Int.gcd n d1)))) (congrArg aJ (by first | rfl | exact e2)) ?_
      refine g_putJ rfl ms.1 ?_
      refine g_aload_n rfl rfl ?_
      refine g_getJ rfl ms.1 ?_
      refine g_top (v2 := aJ (n.tdiv (Int.gcd n d1))) (congrArg aJ (by show (vset (vset V o 5 (n.tdiv (Int.gcd n d1))) o 6 (-(d1.tdiv (Int.gcd n d1)))) o 5 = (n.tdiv (Int.gcd n d1)); rw [vset_ne _ _ _ _ (by omega), vset_eq])) ?_
      refine g_ldc2 rfl ?_
      refine g_ldc2 rfl ?_
      refine g_callSI [aJ (n.tdiv (Int.gcd n d1)), aJ ((-1073741824)), aJ 1073741824] [] rfl rfl rfl rfl (Nat.le_of_ble_eq_true rfl) (c_in (by omega) _ _ _ _) ?_
      rintro x1 _ ⟨rfl, rfl⟩
      refine g_if_eq rfl (fun c64 => ?_) (fun c64 => ?_)
      · skip
        refine g_iconst rfl ?_
        refine g_zret rfl (by omega) ?_
        first
          | (exfalso; omega)
          | (have u : d1 < 0 := by omega
             refine ⟨by simp only [lowF, if_pos u]; rfl, ?_⟩
             simp only [lowF, if_pos u, smallF]
             split at c64 <;> simp_all <;> omega)
          | (have u : ¬ d1 < 0 := by omega
             refine ⟨by simp only [lowF, if_neg u]; rfl, ?_⟩
             simp only [lowF, if_neg u, smallF]
             split at c64 <;> simp_all <;> omega)
      · skip
        refine g_aload_n rfl rfl ?_
        refine g_getJ rfl ms.1 ?_
        refine g_top (v2 := aJ (-(d1.tdiv (Int.gcd n d1)))) (congrArg aJ (by show (vset (vset V o 5 (n.tdiv (Int.gcd n d1))) o 6 (-(d1.tdiv (Int.gcd n d1)))) o 6 = (-(d1.tdiv (Int.gcd n d1))); rw [vset_eq])) ?_
        refine g_ldc2 rfl ?_
        refine g_lc_gt rfl rfl (fun c74 => ?_) (fun c74 => ?_)
        · skip
          refine g_iconst rfl ?_
          refine g_zret rfl (by omega) ?_
          first
            | (exfalso; omega)
            | (have u : d1 < 0 := by omega
               refine ⟨by simp only [lowF, if_pos u]; rfl, ?_⟩
               simp only [lowF, if_pos u, smallF]
               split at c64 <;> simp_all <;> omega)
            | (have u : ¬ d1 < 0 := by omega
               refine ⟨by simp only [lowF, if_neg u]; rfl, ?_⟩
               simp only [lowF, if_neg u, smallF]
               split at c64 <;> simp_all <;> omega)
        · skip
          refine g_iconst rfl ?_
          refine g_goto rfl ?_
          refine g_zret rfl (by omega) ?_
          first
            | (exfalso; omega)
            | (have u : d1 < 0 := by omega
               refine ⟨by simp only [lowF, if_pos u]; rfl, ?_⟩
               simp only [lowF, if_pos u, smallF]
               split at c64 <;> simp_all <;> omega)
            | (have u : ¬ d1 < 0 := by omega
               refine ⟨by simp only [lowF, if_neg u]; rfl, ?_⟩
               simp only [lowF, if_neg u, smallF]
               split at c64 <;> simp_all <;> omega)
  · skip
    refine g_lload_n rfl rfl ?_
    refine g_lload rfl rfl ?_
    refine g_ldiv rfl (by omega) ?_
    refine g_top (v2 := aJ (n.tdiv (Int.gcd n d1))) (congrArg aJ (by exact e1)) ?_
    refine g_lneg rfl ?_
    refine g_top (v2 := aJ (-(n.tdiv (Int.gcd n d1)))) (congrArg aJ (by exact e3)) ?_
    refine g_goto rfl ?_
    refine g_top (v2 := aJ (-(n.tdiv (Int.gcd n d1)))) (congrArg aJ (by first | rfl | exact e1)) ?_
    refine g_putJ rfl ms.1 ?_
    refine g_aload_n rfl rfl ?_
    refine g_lload_n rfl rfl ?_
    refine g_lconst0 rfl ?_
    refine g_lc_ge rfl rfl (fun c32 => ?_) (fun c32 => ?_)
    · skip
      refine g_lload_n rfl rfl ?_
      refine g_lload rfl rfl ?_
      refine g_ldiv rfl (by omega) ?_
      refine g_top (v2 := aJ (d1.tdiv (Int.gcd n d1))) (congrArg aJ (by first | rfl | exact e2)) ?_
      refine g_putJ rfl ms.1 ?_
      refine g_aload_n rfl rfl ?_
      refine g_getJ rfl ms.1 ?_
      refine g_top (v2 := aJ (-(n.tdiv (Int.gcd n d1)))) (congrArg aJ (by show (vset (vset V o 5 (-(n.tdiv (Int.gcd n d1)))) o 6 (d1.tdiv (Int.gcd n d1))) o 5 = (-(n.tdiv (Int.gcd n d1))); rw [vset_ne _ _ _ _ (by omega), vset_eq])) ?_
      refine g_ldc2 rfl ?_
      refine g_ldc2 rfl ?_
      refine g_callSI [aJ (-(n.tdiv (Int.gcd n d1))), aJ ((-1073741824)), aJ 1073741824] [] rfl rfl rfl rfl (Nat.le_of_ble_eq_true rfl) (c_in (by omega) _ _ _ _) ?_
      rintro x1 _ ⟨rfl, rfl⟩
      refine g_if_eq rfl (fun c64 => ?_) (fun c64 => ?_)
      · skip
        refine g_iconst rfl ?_
        refine g_zret rfl (by omega) ?_
        first
          | (exfalso; omega)
          | (have u : d1 < 0 := by omega
             refine ⟨by simp only [lowF, if_pos u]; rfl, ?_⟩
             simp only [lowF, if_pos u, smallF]
             split at c64 <;> simp_all <;> omega)
          | (have u : ¬ d1 < 0 := by omega
             refine ⟨by simp only [lowF, if_neg u]; rfl, ?_⟩
             simp only [lowF, if_neg u, smallF]
             split at c64 <;> simp_all <;> omega)
      · skip
        refine g_aload_n rfl rfl ?_
        refine g_getJ rfl ms.1 ?_
        refine g_top (v2 := aJ (d1.tdiv (Int.gcd n d1))) (congrArg aJ (by show (vset (vset V o 5 (-(n.tdiv (Int.gcd n d1)))) o 6 (d1.tdiv (Int.gcd n d1))) o 6 = (d1.tdiv (Int.gcd n d1)); rw [vset_eq])) ?_
        refine g_ldc2 rfl ?_
        refine g_lc_gt rfl rfl (fun c74 => ?_) (fun c74 => ?_)
        · skip
          refine g_iconst rfl ?_
          refine g_zret rfl (by omega) ?_
          first
            | (exfalso; omega)
            | (have u : d1 < 0 := by omega
               refine ⟨by simp only [lowF, if_pos u]; rfl, ?_⟩
               simp only [lowF, if_pos u, smallF]
               split at c64 <;> simp_all <;> omega)
            | (have u : ¬ d1 < 0 := by omega
               refine ⟨by simp only [lowF, if_neg u]; rfl, ?_⟩
               simp only [lowF, if_neg u, smallF]
               split at c64 <;> simp_all <;> omega)
        · skip
          refine g_iconst rfl ?_
          refine g_goto rfl ?_
          refine g_zret rfl (by omega) ?_
          first
            | (exfalso; omega)
            | (have u : d1 < 0 := by omega
               refine ⟨by simp only [lowF, if_pos u]; rfl, ?_⟩
               simp only [lowF, if_pos u, smallF]
               split at c64 <;> simp_all <;> omega)
            | (have u : ¬ d1 < 0 := by omega
               refine ⟨by simp only [lowF, if_neg u]; rfl, ?_⟩
               simp only [lowF, if_neg u, smallF]
               split at c64 <;> simp_all <;> omega)
    · skip
      refine g_lload_n rfl rfl ?_
      refine g_lload rfl rfl ?_
      refine g_ldiv rfl (by omega) ?_
      refine g_top (v2 := aJ (d1.tdiv (Int.gcd n d1))) (congrArg aJ (by exact e2)) ?_
      refine g_lneg rfl ?_
      refine g_top (v2 := aJ (-(d1.tdiv (Int.gcd n d1)))) (congrArg aJ (by exact e4)) ?_
      refine g_goto rfl ?_
      refine g_top (v2 := aJ (-(d1.tdiv (Int.gcd n d1)))) (congrArg aJ (by first | rfl | exact e2)) ?_
      refine g_putJ rfl ms.1 ?_
      refine g_aload_n rfl rfl ?_
      refine g_getJ rfl ms.1 ?_
      refine g_top (v2 := aJ (-(n.tdiv (Int.gcd n d1)))) (congrArg aJ (by show (vset (vset V o 5 (-(n.tdiv (Int.gcd n d1)))) o 6 (-(d1.tdiv (Int.gcd n d1)))) o 5 = (-(n.tdiv (Int.gcd n d1))); rw [vset_ne _ _ _ _ (by omega), vset_eq])) ?_
      refine g_ldc2 rfl ?_
      refine g_ldc2 rfl ?_
      refine g_callSI [aJ (-(n.tdiv (Int.gcd n d1))), aJ ((-1073741824)), aJ 1073741824] [] rfl rfl rfl rfl (Nat.le_of_ble_eq_true rfl) (c_in (by omega) _ _ _ _) ?_
      rintro x1 _ ⟨rfl, rfl⟩
      refine g_if_eq rfl (fun c64 => ?_) (fun c64 => ?_)
      · skip
        refine g_iconst rfl ?_
        refine g_zret rfl (by omega) ?_
        first
          | (exfalso; omega)
          | (have u : d1 < 0 := by omega
             refine ⟨by simp only [lowF, if_pos u]; rfl, ?_⟩
             simp only [lowF, if_pos u, smallF]
             split at c64 <;> simp_all <;> omega)
          | (have u : ¬ d1 < 0 := by omega
             refine ⟨by simp only [lowF, if_neg u]; rfl, ?_⟩
             simp only [lowF, if_neg u, smallF]
             split at c64 <;> simp_all <;> omega)
      · skip
        refine g_aload_n rfl rfl ?_
        refine g_getJ rfl ms.1 ?_
        refine g_top (v2 := aJ (-(d1.tdiv (Int.gcd n d1)))) (congrArg aJ (by show (vset (vset V o 5 (-(n.tdiv (Int.gcd n d1)))) o 6 (-(d1.tdiv (Int.gcd n d1)))) o 6 = (-(d1.tdiv (Int.gcd n d1))); rw [vset_eq])) ?_
        refine g_ldc2 rfl ?_
        refine g_lc_gt rfl rfl (fun c74 => ?_) (fun c74 => ?_)
        · skip
          refine g_iconst rfl ?_
          refine g_zret rfl (by omega) ?_
          first
            | (exfalso; omega)
            | (have u : d1 < 0 := by omega
               refine ⟨by simp only [lowF, if_pos u]; rfl, ?_⟩
               simp only [lowF, if_pos u, smallF]
               split at c64 <;> simp_all <;> omega)
            | (have u : ¬ d1 < 0 := by omega
               refine ⟨by simp only [lowF, if_neg u]; rfl, ?_⟩
               simp only [lowF, if_neg u, smallF]
               split at c64 <;> simp_all <;> omega)
        · skip
          refine g_iconst rfl ?_
          refine g_goto rfl ?_
          refine g_zret rfl (by omega) ?_
          first
            | (exfalso; omega)
            | (have u : d1 < 0 := by omega
               refine ⟨by simp only [lowF, if_pos u]; rfl, ?_⟩
               simp only [lowF, if_pos u, smallF]
               split at c64 <;> simp_all <;> omega)
            | (have u : ¬ d1 < 0 := by omega
               refine ⟨by simp only [lowF, if_neg u]; rfl, ?_⟩
               simp only [lowF, if_neg u, smallF]
               split at c64 <;> simp_all <;> omega)
