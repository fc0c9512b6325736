/-! the class lays boards: printed by wip/whole/s51.py -/
def dgc (S s : Nat) : Nat → Nat := fun j => s / S ^ j % S
def sacr (S x : Nat) : Nat → Nat
  | 0 => 0
  | m + 1 => sacr S x m + S ^ (x + (m + 1))
def rmB (w l : Nat) (n : Int) (x y : Nat) : Nat → Bool
  | 0 => true
  | m + 1 => rmB w l n x y m && !tout w l n x (y + (m + 1))
theorem rmB_iff (w l : Nat) (n : Int) (x y : Nat) : ∀ m, rmB w l n x y m = true ↔ ∀ i, 1 ≤ i → i < m + 1 → tout w l n x (y + i) = false := by
  intro m
  induction m with
  | zero => exact ⟨fun _ i h1 h2 => by omega, fun _ => rfl⟩
  | succ m ih =>
    unfold rmB
    rw [Bool.and_eq_true, ih]
    constructor
    · rintro ⟨q1, q2⟩ i h1 h2
      by_cases e : i = m + 1
      · rw [e]; simpa using q2
      · exact q1 i h1 (by omega)
    · intro q
      exact ⟨fun i h1 h2 => q i h1 (by omega), by rw [q (m + 1) (by omega) (by omega)]; rfl⟩
theorem pw3 {S m : Nat} (hS : S ≤ 3) (hm : m ≤ 10) : S ^ m ≤ 59049 := Nat.le_trans (Nat.pow_le_pow_left hS m) (Nat.pow_le_pow_right (n := 3) (by omega) hm)
theorem dg_lt {S w p e s : Nat} (hS : 0 < S) (hp : p < w) (hs : s < S ^ w) (h : s / S ^ p % S + e < S) : s + e * S ^ p < S ^ w := by
  have e1 : (s + e * S ^ p) / S ^ p = s / S ^ p + e := by rw [Nat.add_mul_div_right _ _ (Nat.pow_pos hS)]
  have e4 : (s / S ^ p + e) / S = s / S ^ p / S := by
    have h1 := Nat.div_add_mod (s / S ^ p) S
    rw [show s / S ^ p + e = S * (s / S ^ p / S) + (s / S ^ p % S + e) by omega, Nat.mul_add_div hS, Nat.div_eq_of_lt h, Nat.add_zero]
  have e2 : S ^ w = S ^ p * S * S ^ (w - p - 1) := by
    rw [← Nat.pow_succ, ← Nat.pow_add]
    congr 1
    omega
  have h0 : s / S ^ w = 0 := Nat.div_eq_of_lt hs
  have h1 : (s + e * S ^ p) / S ^ w = 0 := by
    rw [← h0, e2, ← Nat.div_div_eq_div_mul, ← Nat.div_div_eq_div_mul, e1, e4, ← Nat.div_div_eq_div_mul, ← Nat.div_div_eq_div_mul]
  exact (Nat.div_eq_zero_iff_lt (Nat.pow_pos hS)).mp h1
theorem dg_sacr {S w x s : Nat} (hS : 2 ≤ S) (hs : s < S ^ w) : ∀ m, (∀ i, 1 ≤ i → i ≤ m → x + i < w ∧ s / S ^ (x + i) % S = 0) → s + sacr S x m < S ^ w ∧ ∀ j, (s + sacr S x m) / S ^ j % S = if x < j ∧ j < x + (m + 1) then 1 else s / S ^ j % S := by
  intro m
  induction m with
  | zero => intro _; exact ⟨hs, fun j => by rw [if_neg (by omega)]; rfl⟩
  | succ m ih =>
    intro h
    obtain ⟨i1, i2⟩ := ih fun i h1 h2 => h i h1 (by omega)
    obtain ⟨hw, hd⟩ := h (m + 1) (by omega) (by omega)
    have hd0 : (s + sacr S x m) / S ^ (x + (m + 1)) % S = 0 := by rw [i2, if_neg (by omega)]; exact hd
    have e : s + sacr S x (m + 1) = s + sacr S x m + 1 * S ^ (x + (m + 1)) := by rw [Nat.one_mul, Nat.add_assoc]; rfl
    rw [e]
    refine ⟨dg_lt (by omega) hw i1 (by rw [hd0]; omega), fun j => ?_⟩
    rw [dg_add (by omega) (by rw [hd0]; omega)]
    by_cases q : j = x + (m + 1)
    · rw [if_pos q, hd0, if_pos (by omega)]
    · rw [if_neg q, i2]
      by_cases q2 : x < j ∧ j < x + (m + 1)
      · rw [if_pos q2, if_pos (by omega)]
      · rw [if_neg q2, if_neg (by omega)]
theorem cell_at {w y x : Nat} (hx : x < w) : (w * y + x) % w = x ∧ (w * y + x) / w = y := by
  refine ⟨by rw [Nat.mul_add_mod, Nat.mod_eq_of_lt hx], ?_⟩
  rw [Nat.mul_add_div (by omega), Nat.div_eq_of_lt hx, Nat.add_zero]
section STEP
variable {S w l k y x s : Nat} {n : Int}
noncomputable def tFc (S w l : Nat) (n : Int) (k c s : Nat) : Int := tF S w l n k c (dgc S s)
theorem tFc_dec (hS : 2 ≤ S) (hx : x < w) (hd : 0 < s / S ^ x % S) : tFc S w l n (k + 1) (w * y + x) s = tFc S w l n k (w * y + x + 1) (s - S ^ x) := by
  obtain ⟨e1, e2⟩ := cell_at (y := y) hx
  unfold tFc
  rw [tF, e1, e2, if_pos (show 0 < dgc S s x from hd)]
  refine tF_congr S w l n (by omega) _ _ _ _ fun j hj => ?_
  show vup (dgc S s) x (dgc S s x - 1) j = _
  unfold vup dgc
  rw [(dg_sub (by omega) hd).2]
theorem tFc_out (hx : x < w) (hd : s / S ^ x % S = 0) (ho : tout w l n x y = true) : tFc S w l n (k + 1) (w * y + x) s = tFc S w l n k (w * y + x + 1) s := by
  obtain ⟨e1, e2⟩ := cell_at (y := y) hx
  unfold tFc
  rw [tF, e1, e2, if_neg (show ¬0 < dgc S s x by unfold dgc; omega), if_pos ho]
theorem tFc_in (hS : 2 ≤ S) (hx : x < w) (hs : s < S ^ w) (hd : s / S ^ x % S = 0) (ho : tout w l n x y = false) :
    tFc S w l n (k + 1) (w * y + x) s = (if rmB w l n x y (S - 1) = true then tFc S w l n k (w * y + x + 1) (s + (S - 1) * S ^ x) else 0) + (haveI := Classical.propDecidable (tacr S w l n (dgc S s) x y); if tacr S w l n (dgc S s) x y then tFc S w l n k (w * y + x + 1) (s + sacr S x (S - 1)) else 0) := by
  obtain ⟨e1, e2⟩ := cell_at (y := y) hx
  have hr : troom S w l n x y ↔ rmB w l n x y (S - 1) = true := by
    rw [rmB_iff, Nat.sub_add_cancel (by omega)]
    exact Iff.rfl
  unfold tFc
  rw [tF, e1, e2, if_neg (show ¬0 < dgc S s x by unfold dgc; omega), if_neg (by rw [ho]; decide)]
  congr 1
  · by_cases q : troom S w l n x y
    · rw [if_pos q, if_pos (hr.mp q)]
      refine tF_congr S w l n (by omega) _ _ _ _ fun j hj => ?_
      unfold vup dgc
      rw [dg_add (by omega) (by rw [hd]; omega), hd, Nat.zero_add]
    · rw [if_neg q, if_neg (fun u => q (hr.mpr u))]
  · by_cases q : tacr S w l n (dgc S s) x y
    · rw [if_pos q, if_pos q]
      refine tF_congr S w l n (by omega) _ _ _ _ fun j hj => ?_
      have h2 := (dg_sacr (x := x) hS hs (S - 1) fun i h1 h2 => by
        obtain ⟨q1, q2⟩ := q i h1 (by omega)
        unfold tout at q1
        simp only [Bool.or_eq_false_iff, decide_eq_false_iff_not] at q1
        exact ⟨by omega, q2⟩).2 j
      rw [Nat.sub_add_cancel (by omega)] at h2
      unfold vlay
      exact h2.symm
    · rw [if_neg q, if_neg q]
end STEP
/-- what holds of the next row of ways while it is filled -/
def TI (V V1 : Nat → Nat → Int) (nb N : Nat) (F : Nat → Int) (T : Int) : Prop := (∀ a, a ≠ nb → V1 a = V a) ∧ (∀ i < N, r64 (V1 nb i)) ∧ cg (sm N fun i => V1 nb i * F i) T
theorem TI.add {V V1 : Nat → Nat → Int} {nb N : Nat} {F : Nat → Int} {T : Int} (h : TI V V1 nb N F T) {t : Nat} (ht : t < N) (b : Int) : TI V (vset V1 nb t (w64 (V1 nb t + b))) nb N F (T + b * F t) := by
  obtain ⟨h1, h2, h3⟩ := h
  refine ⟨fun a ha => ?_, fun i hi => ?_, ?_⟩
  · funext j
    rw [vset_ne _ _ _ _ (by omega), h1 a ha]
  · by_cases e : i = t
    · rw [e, vset_eq]; exact r64_w64 _
    · rw [vset_ne _ _ _ _ (by omega)]; exact h2 i hi
  · exact sm_add_cg ht (fun i hi => vset_ne _ _ _ _ (by omega)) (by rw [vset_eq]; exact cg_w64 _) h3
theorem TI.to {V V1 : Nat → Nat → Int} {nb N : Nat} {F : Nat → Int} {T T1 : Int} (h : TI V V1 nb N F T) (e : T = T1) : TI V V1 nb N F T1 := e ▸ h
theorem x_isGone {w : aW} {d : Nat} (hd : 1 ≤ d) {h : aH} {c : Nat} (cs : CS h c) (V : Nat → Nat → Int) (w1 l : Nat) (n : Int) (hwd : V (c + 27) 2 = w1) (hlt : V (c + 27) 3 = l) (hgn : V (c + 27) 4 = n) (hw8 : w1 ≤ 8) (hl8 : l ≤ 8) (x y : Nat) (hx : x < 100) (hy : y < 100) : WP w d 3 [aO (some (c + 27)), aI ((x : Int)), aI ((y : Int))] (hw h V) (RI (fun r h1 => h1 = hw h V ∧ r = if tout w1 l n x y = true then 1 else 0)) := by
  obtain ⟨d, rfl⟩ : ∃ d1, d = d1 + 1 := ⟨d - 1, by omega⟩
  refine WP.enter (cd := cd_X0_isGone) rfl ?_
  have hls : largs 0 [aO (some (c + 27)), aI ((x : Int)), aI ((y : Int))] = [(0, aO (some (c + 27))), (1, aI ((x : Int))), (2, aI ((y : Int)))] := rfl
  rw [hls]
  clear hls
  have j47 : Wk w d cd_X0_isGone 47 [(0, aO (some (c + 27))), (1, aI ((x : Int))), (2, aI ((y : Int)))] [aI (if tout w1 l n x y = true then 1 else 0)] (hw h V) (RI (fun r h1 => h1 = hw h V ∧ r = if tout w1 l n x y = true then 1 else 0)) := by
    skip
    refine g_zret rfl (by exact bi_01 _) ?_
    exact ⟨rfl, rfl⟩
  refine g_iload_n rfl rfl ?_
  refine g_if_lt_f rfl (by omega) ?_
  refine g_iload_n rfl rfl ?_
  refine g_if_lt_f rfl (by omega) ?_
  refine g_iload_n rfl rfl ?_
  refine g_aload_n rfl rfl ?_
  refine g_getI rfl (cs.kd 27 (by omega) rfl) ?_
  refine g_top (v2 := aI ((w1 : Int))) (congrArg aI (by show V (c + 27) 2 = ((w1 : Int)); rw [hwd])) ?_
  refine g_icmp_ge rfl (fun c13 => ?_) (fun c13 => ?_)
  · skip
    refine g_iconst rfl ?_
    refine g_goto rfl ?_
    refine g_top (v2 := aI (if tout w1 l n x y = true then 1 else 0)) (congrArg aI (bi_t (by unfold tout gb; simp only [Bool.or_eq_true, decide_eq_true_eq]; omega))) ?_
    exact j47 
  · skip
    refine g_iload_n rfl rfl ?_
    refine g_aload_n rfl rfl ?_
    refine g_getI rfl (cs.kd 27 (by omega) rfl) ?_
    refine g_top (v2 := aI ((l : Int))) (congrArg aI (by show V (c + 27) 3 = ((l : Int)); rw [hlt])) ?_
    refine g_icmp_ge rfl (fun c21 => ?_) (fun c21 => ?_)
    · skip
      refine g_iconst rfl ?_
      refine g_goto rfl ?_
      refine g_top (v2 := aI (if tout w1 l n x y = true then 1 else 0)) (congrArg aI (bi_t (by unfold tout gb; simp only [Bool.or_eq_true, decide_eq_true_eq]; omega))) ?_
      exact j47 
    · skip
      refine g_aload_n rfl rfl ?_
      refine g_getJ rfl (cs.kd 27 (by omega) rfl) ?_
      refine g_top (v2 := aJ n) (congrArg aJ (by show V (c + 27) 4 = n; rw [hgn])) ?_
      refine g_bipush rfl ?_
      refine g_iload_n rfl rfl ?_
      refine g_imul rfl (by omega) (by omega) ?_
      refine g_iload_n rfl rfl ?_
      refine g_iadd rfl (by omega) (by omega) ?_
      refine g_lushr rfl ?_
      refine g_lconst1 rfl ?_
      refine g_land rfl ?_
      refine g_top (v2 := aJ (n / 2 ^ (8 * y + x) % 2)) (congrArg aJ (by exact lushr_bit n (y := 8 * y + x) (by omega))) ?_
      refine g_lconst0 rfl ?_
      refine g_lc_eq rfl rfl (fun c38 => ?_) (fun c38 => ?_)
      · skip
        refine g_iconst rfl ?_
        refine g_top (v2 := aI (if tout w1 l n x y = true then 1 else 0)) (congrArg aI (bi_f (by unfold tout gb; simp only [Bool.or_eq_true, decide_eq_true_eq]; omega))) ?_
        exact j47 
      · skip
        refine g_iconst rfl ?_
        refine g_goto rfl ?_
        refine g_top (v2 := aI (if tout w1 l n x y = true then 1 else 0)) (congrArg aI (bi_t (by unfold tout gb; simp only [Bool.or_eq_true, decide_eq_true_eq]; omega))) ?_
        exact j47 
theorem x_digit {w : aW} {d : Nat} (hd : 1 ≤ d) {h : aH} {c : Nat} (cs : CS h c) (V : Nat → Nat → Int) (S : Nat) (hS : V (c + 27) 5 = S) (hS2 : 2 ≤ S) (hS3 : S ≤ 3) (s u : Nat) (hu : 0 < u) (hs : s < 2147483648) : WP w d 5 [aO (some (c + 27)), aI ((s : Int)), aI ((u : Int))] (hw h V) (RI (fun r h1 => h1 = hw h V ∧ r = (s / u % S : Nat))) := by
  obtain ⟨d, rfl⟩ : ∃ d1, d = d1 + 1 := ⟨d - 1, by omega⟩
  refine WP.enter (cd := cd_X0_digit) rfl ?_
  have hls : largs 0 [aO (some (c + 27)), aI ((s : Int)), aI ((u : Int))] = [(0, aO (some (c + 27))), (1, aI ((s : Int))), (2, aI ((u : Int)))] := rfl
  rw [hls]
  clear hls
  refine g_iload_n rfl rfl ?_
  refine g_if_le_f rfl (by omega) ?_
  refine g_aload_n rfl rfl ?_
  refine g_getI rfl (cs.kd 27 (by omega) rfl) ?_
  refine g_top (v2 := aI ((S : Int))) (congrArg aI (by show V (c + 27) 5 = ((S : Int)); rw [hS])) ?_
  refine g_if_gt_t rfl (by omega) ?_
  refine g_iload_n rfl rfl ?_
  refine g_iload_n rfl rfl ?_
  refine g_idivN (m := u) (n := s) rfl (by omega) (by omega) ?_
  refine g_aload_n rfl rfl ?_
  refine g_getI rfl (cs.kd 27 (by omega) rfl) ?_
  refine g_top (v2 := aI ((S : Int))) (congrArg aI (by show V (c + 27) 5 = ((S : Int)); rw [hS])) ?_
  refine g_iremN (m := S) (n := (s / u)) rfl (by omega) ?_
  refine g_iret rfl ?_
  exact ⟨rfl, rfl⟩
theorem sacr_le {S x m : Nat} (hS : S ≤ 3) (hx : x < 8) (hm : m ≤ 2) : sacr S x m ≤ 118098 := by
  have h1 := pw3 (m := x + 1) hS (by omega)
  have h2 := pw3 (m := x + 2) hS (by omega)
  rcases (show m = 0 ∨ m = 1 ∨ m = 2 by omega) with rfl | rfl | rfl
  · show 0 ≤ _; omega
  · show 0 + S ^ (x + 1) ≤ _; omega
  · show 0 + S ^ (x + 1) + S ^ (x + 2) ≤ _; omega
theorem x_across {w : aW} {d : Nat} (hd : 2 ≤ d) {h : aH} {c : Nat} (cs : CS h c) (V : Nat → Nat → Int) (w1 l : Nat) (n : Int) (hwd : V (c + 27) 2 = w1) (hlt : V (c + 27) 3 = l) (hgn : V (c + 27) 4 = n) (hw8 : w1 ≤ 8) (hl8 : l ≤ 8) (S : Nat) (hS : V (c + 27) 5 = S) (hS2 : 2 ≤ S) (hS3 : S ≤ 3) (s x y : Nat) (hs : s < 6561) (hx : x < w1) (hy : y < l) : WP w d 7 [aO (some (c + 27)), aI ((s : Int)), aI ((x : Int)), aI ((y : Int)), aI (((S ^ x : Nat) : Int))] (hw h V) (RI (fun r h1 => h1 = hw h V ∧ ((tacr S w1 l n (dgc S s) x y ∧ r = (s + sacr S x (S - 1) : Nat)) ∨ (¬tacr S w1 l n (dgc S s) x y ∧ r = -1)))) := by
  obtain ⟨d, rfl⟩ : ∃ d1, d = d1 + 1 := ⟨d - 1, by omega⟩
  refine WP.enter (cd := cd_X0_stateWithAcross) rfl ?_
  have hp0 := pw3 (m := x) hS3 (by omega)
  have hls : largs 0 [aO (some (c + 27)), aI ((s : Int)), aI ((x : Int)), aI ((y : Int)), aI (((S ^ x : Nat) : Int))] = [(0, aO (some (c + 27))), (1, aI ((s : Int))), (2, aI ((x : Int))), (3, aI ((y : Int))), (4, aI (((S ^ x : Nat) : Int)))] := rfl
  rw [hls]
  clear hls
  have l10 : ∀ (fuel : Nat) (j : Nat), (j + 1 ≤ S) → (∀ i, 1 ≤ i → i ≤ j → tout w1 l n (x + i) y = false ∧ dgc S s (x + i) = 0) → S - j < fuel → Wk w d cd_X0_stateWithAcross 10 [(5, aI (((s + sacr S x j : Nat) : Int))), (6, aI (((S ^ (x + j) : Nat) : Int))), (7, aI ((j + 1 : Int))), (0, aO (some (c + 27))), (1, aI ((s : Int))), (2, aI ((x : Int))), (3, aI ((y : Int))), (4, aI (((S ^ x : Nat) : Int)))] [] (hw h V) (RI (fun r h1 => h1 = hw h V ∧ ((tacr S w1 l n (dgc S s) x y ∧ r = (s + sacr S x (S - 1) : Nat)) ∨ (¬tacr S w1 l n (dgc S s) x y ∧ r = -1)))) := by
    intro fuel
    induction fuel with
    | zero => intros; omega
    | succ fuel ih10 =>
      intro j hj hq hfuel
      have hp1 := pw3 (m := x + j) hS3 (by omega)
      have hp2 := pw3 (m := x + (j + 1)) hS3 (by omega)
      have hp3 := sacr_le (x := x) (m := j) hS3 (by omega) (by omega)
      have hp4 : ((S ^ (x + j) : Nat) : Int) * (S : Int) = ((S ^ (x + (j + 1)) : Nat) : Int) := by rw [← Nat.add_assoc, Nat.pow_succ, Int.natCast_mul]
      refine g_iload rfl rfl ?_
      refine g_aload_n rfl rfl ?_
      refine g_getI rfl (cs.kd 27 (by omega) rfl) ?_
      refine g_top (v2 := aI ((S : Int))) (congrArg aI (by show V (c + 27) 5 = ((S : Int)); rw [hS])) ?_
      refine g_icmp_ge rfl (fun c16 => ?_) (fun c16 => ?_)
      · skip
        refine g_iload rfl rfl ?_
        refine g_iret rfl ?_
        refine ⟨rfl, Or.inl ⟨fun i h1 h2 => hq i h1 (by omega), ?_⟩⟩
        rw [show S - 1 = j by omega]
      · skip
        refine g_iload rfl rfl ?_
        refine g_aload_n rfl rfl ?_
        refine g_getI rfl (cs.kd 27 (by omega) rfl) ?_
        refine g_top (v2 := aI ((S : Int))) (congrArg aI (by show V (c + 27) 5 = ((S : Int)); rw [hS])) ?_
        refine g_imul rfl (by rw [hp4]; omega) (by rw [hp4]; omega) ?_
        refine g_top (v2 := aI (((S ^ (x + (j + 1)) : Nat) : Int))) (congrArg aI (by exact hp4)) ?_
        refine g_istore (l1 := [(6, aI (((S ^ (x + (j + 1)) : Nat) : Int))), (5, aI (((s + sacr S x j : Nat) : Int))), (7, aI ((j + 1 : Int))), (0, aO (some (c + 27))), (1, aI ((s : Int))), (2, aI ((x : Int))), (3, aI ((y : Int))), (4, aI (((S ^ x : Nat) : Int)))]) rfl rfl ?_
        refine g_aload_n rfl rfl ?_
        refine g_iload_n rfl rfl ?_
        refine g_iload rfl rfl ?_
        refine g_iadd rfl (by omega) (by omega) ?_
        refine g_iload_n rfl rfl ?_
        refine g_callVI [aI (((x : Int)) + ((j + 1 : Int))), aI ((y : Int))] [] rfl rfl rfl rfl (Nat.le_of_ble_eq_true rfl) (cs.kd 27 (by omega) rfl) (x_isGone (by omega) cs V w1 l n hwd hlt hgn hw8 hl8 (x + (j + 1)) (y) (by omega) (by omega)) ?_
        rintro _ _ ⟨rfl, rfl⟩
        refine g_b_ne rfl (fun c37 => ?_) (fun c37 => ?_)
        · skip
          refine g_iconst rfl ?_
          refine g_iret rfl ?_
          refine ⟨rfl, Or.inr ⟨fun q => ?_, rfl⟩⟩
          obtain ⟨q1, q2⟩ := q (j + 1) (by omega) (by omega)
          first
            | (rw [q1] at c37; exact absurd c37 (by decide))
            | (have q3 : s / S ^ (x + (j + 1)) % S = 0 := q2
               omega)
        · skip
          refine g_aload_n rfl rfl ?_
          refine g_iload_n rfl rfl ?_
          refine g_iload rfl rfl ?_
          refine g_callVI [aI ((s : Int)), aI (((S ^ (x + (j + 1)) : Nat) : Int))] [] rfl rfl rfl rfl (Nat.le_of_ble_eq_true rfl) (cs.kd 27 (by omega) rfl) (x_digit (by omega) cs V S hS hS2 hS3 (s) (S ^ (x + (j + 1))) (Nat.pow_pos (by omega)) (by omega)) ?_
          rintro _ _ ⟨rfl, rfl⟩
          refine g_if_le rfl (fun c47 => ?_) (fun c47 => ?_)
          · skip
            refine g_iload rfl rfl ?_
            refine g_iload rfl rfl ?_
            refine g_iadd rfl (by omega) (by omega) ?_
            refine g_top (v2 := aI (((s + sacr S x (j + 1) : Nat) : Int))) (congrArg aI (by have e : sacr S x (j + 1) = sacr S x j + S ^ (x + (j + 1)) := rfl; omega)) ?_
            refine g_istore (l1 := [(5, aI (((s + sacr S x (j + 1) : Nat) : Int))), (6, aI (((S ^ (x + (j + 1)) : Nat) : Int))), (7, aI ((j + 1 : Int))), (0, aO (some (c + 27))), (1, aI ((s : Int))), (2, aI ((x : Int))), (3, aI ((y : Int))), (4, aI (((S ^ x : Nat) : Int)))]) rfl rfl ?_
            refine g_iinc (l1 := [(7, aI ((j + 1 : Int) + 1)), (5, aI (((s + sacr S x (j + 1) : Nat) : Int))), (6, aI (((S ^ (x + (j + 1)) : Nat) : Int))), (0, aO (some (c + 27))), (1, aI ((s : Int))), (2, aI ((x : Int))), (3, aI ((y : Int))), (4, aI (((S ^ x : Nat) : Int)))]) rfl rfl (by omega) (by omega) rfl ?_
            refine g_goto rfl ?_
            refine g_ls [1, 2, 0, 3, 4, 5, 6, 7] rfl rfl ?_
            exact ih10 (j + 1) (by omega) (by intro i h1 h2; by_cases e : i = j + 1; exact ⟨by rw [e]; simpa using c37, by rw [e]; show s / S ^ (x + (j + 1)) % S = 0; omega⟩; exact hq i h1 (by omega)) (by omega)
          · skip
            refine g_iconst rfl ?_
            refine g_iret rfl ?_
            refine ⟨rfl, Or.inr ⟨fun q => ?_, rfl⟩⟩
            obtain ⟨q1, q2⟩ := q (j + 1) (by omega) (by omega)
            first
              | (rw [q1] at c37; exact absurd c37 (by decide))
              | (have q3 : s / S ^ (x + (j + 1)) % S = 0 := q2
                 omega)
  refine g_iload_n rfl rfl ?_
  refine g_istore (l1 := [(5, aI ((s : Int))), (0, aO (some (c + 27))), (1, aI ((s : Int))), (2, aI ((x : Int))), (3, aI ((y : Int))), (4, aI (((S ^ x : Nat) : Int)))]) rfl rfl ?_
  refine g_iload rfl rfl ?_
  refine g_istore (l1 := [(6, aI (((S ^ x : Nat) : Int))), (5, aI ((s : Int))), (0, aO (some (c + 27))), (1, aI ((s : Int))), (2, aI ((x : Int))), (3, aI ((y : Int))), (4, aI (((S ^ x : Nat) : Int)))]) rfl rfl ?_
  refine g_iconst rfl ?_
  refine g_istore (l1 := [(7, aI 1), (6, aI (((S ^ x : Nat) : Int))), (5, aI ((s : Int))), (0, aO (some (c + 27))), (1, aI ((s : Int))), (2, aI ((x : Int))), (3, aI ((y : Int))), (4, aI (((S ^ x : Nat) : Int)))]) rfl rfl ?_
  refine g_ls [2, 1, 0, 3, 4, 5, 6, 7] rfl rfl ?_
  exact l10 _ 0 (by omega) (by intro i h1 h2; omega) (Nat.lt_succ_self _)
