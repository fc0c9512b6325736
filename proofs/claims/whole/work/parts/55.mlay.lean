/-! the reference lays boards: printed by wip/whole/s55.py -/
def sacp (S p : Nat) : Nat → Nat
  | 0 => 0
  | m + 1 => sacp S p m + S ^ (p + m)
theorem dg_sacp {S w p s : Nat} (hS : 2 ≤ S) (hs : s < S ^ w) : ∀ m, (∀ i, i < m → p + i < w ∧ s / S ^ (p + i) % S = 0) → s + sacp S p m < S ^ w ∧ ∀ j, (s + sacp S p m) / S ^ j % S = if p ≤ j ∧ j < p + m then 1 else s / S ^ j % S := by
  intro m
  induction m with
  | zero => intro _; exact ⟨hs, fun j => by rw [if_neg (by omega)]; rfl⟩
  | succ m ih =>
    intro h
    obtain ⟨i1, i2⟩ := ih fun i h1 => h i (by omega)
    obtain ⟨hw, hd⟩ := h m (by omega)
    have hd0 : (s + sacp S p m) / S ^ (p + m) % S = 0 := by rw [i2, if_neg (by omega)]; exact hd
    have e : s + sacp S p (m + 1) = s + sacp S p m + 1 * S ^ (p + m) := by rw [Nat.one_mul, Nat.add_assoc]; rfl
    rw [e]
    refine ⟨dg_lt (by omega) hw i1 (by rw [hd0]; omega), fun j => ?_⟩
    rw [dg_add (by omega) (by rw [hd0]; omega)]
    by_cases q : j = p + m
    · rw [if_pos q, hd0, if_pos (by omega)]
    · rw [if_neg q, i2]
      by_cases q2 : p ≤ j ∧ j < p + m
      · rw [if_pos q2, if_pos (by omega)]
      · rw [if_neg q2, if_neg (by omega)]
/-- where column j's digit stands when cell c is the next -/
def rps (w c j : Nat) : Nat := (j + w - c % w) % w
def dr (w c s : Nat) : Nat → Nat := fun j => s / 3 ^ rps w c j % 3
theorem rps_v {w c j : Nat} (hw : 0 < w) (hj : j < w) : rps w c j = if c % w ≤ j then j - c % w else j + w - c % w := by
  have hx := Nat.mod_lt c hw
  unfold rps
  split
  · rw [show j + w - c % w = j - c % w + w by omega, Nat.add_mod_right, Nat.mod_eq_of_lt (by omega)]
  · rw [Nat.mod_eq_of_lt (by omega)]
theorem mod_next {w : Nat} (hw : 0 < w) (c : Nat) : (c + 1) % w = if c % w + 1 = w then 0 else c % w + 1 := by
  have hx := Nat.mod_lt c hw
  have e := Nat.div_add_mod c w
  have e3 : c + 1 = w * (c / w) + (c % w + 1) := by omega
  split
  · next hq =>
    have e4 : c + 1 = w * (c / w + 1) := by rw [Nat.mul_add, Nat.mul_one]; omega
    rw [e4, Nat.mul_mod_right]
  · rw [e3, Nat.mul_add_mod, Nat.mod_eq_of_lt (by omega)]
theorem rps_next {w c j : Nat} (hw : 0 < w) (hj : j < w) : if j = c % w then rps w c j = 0 ∧ rps w (c + 1) j = w - 1 else rps w (c + 1) j + 1 = rps w c j ∧ rps w c j < w := by
  have hx := Nat.mod_lt c hw
  rw [rps_v hw hj, rps_v hw hj, mod_next hw c]
  split <;> split <;> split <;> (try split) <;> omega
theorem dr_next {w c s e : Nat} (hw : 0 < w) (hs : s < 3 ^ w) (he : e < 3) : s / 3 < 3 ^ (w - 1) ∧ s / 3 + e * 3 ^ (w - 1) < 3 ^ w ∧ ∀ j, j < w → dr w (c + 1) (s / 3 + e * 3 ^ (w - 1)) j = if j = c % w then e else dr w c s j := by
  have e1 : 3 ^ w = 3 ^ (w - 1) * 3 := by rw [← Nat.pow_succ]; congr 1; omega
  have h1 : s / 3 < 3 ^ (w - 1) := by omega
  have hp : 0 < 3 ^ (w - 1) := Nat.pow_pos (by omega)
  refine ⟨h1, ?_, fun j hj => ?_⟩
  · have := Nat.mul_le_mul_right (3 ^ (w - 1)) (show e ≤ 2 by omega)
    omega
  · have hr := rps_next (c := c) hw hj
    have hd0 : s / 3 / 3 ^ (w - 1) % 3 = 0 := by rw [Nat.div_eq_of_lt h1]
    unfold dr
    rw [dg_add (by omega) (by rw [hd0]; omega)]
    by_cases q : j = c % w
    · rw [if_pos q] at hr ⊢
      rw [if_pos hr.2, hd0, Nat.zero_add]
    · rw [if_neg q] at hr ⊢
      rw [if_neg (by omega), ← hr.1, Nat.div_div_eq_div_mul, ← Nat.pow_succ']
noncomputable def tGc (S w l : Nat) (n : Int) (k c s : Nat) : Int := tG S w l n k c (dr w c s)
def lfB (n : Int) (y x rest : Nat) : Nat → Bool
  | 0 => true
  | j + 1 => lfB n y x rest j && (!gb n (8 * y + x + (j + 1)) && rest / 3 ^ j % 3 == 0)
theorem lfB_iff (n : Int) (y x rest : Nat) : ∀ m, lfB n y x rest m = true ↔ ∀ i, i < m → gb n (8 * y + x + (i + 1)) = false ∧ rest / 3 ^ i % 3 = 0 := by
  intro m
  induction m with
  | zero => exact ⟨fun _ i h => by omega, fun _ => rfl⟩
  | succ m ih =>
    unfold lfB
    rw [Bool.and_eq_true, ih, Bool.and_eq_true]
    constructor
    · rintro ⟨q1, q2, q3⟩ i h
      by_cases e : i = m
      · rw [e]; exact ⟨by simpa using q2, by simpa using q3⟩
      · exact q1 i (by omega)
    · intro q
      exact ⟨fun i h => q i (by omega), by rw [(q m (by omega)).1]; rfl, by rw [(q m (by omega)).2]; rfl⟩
section RSTEP
variable {S w l k c s : Nat} {n : Int}
theorem dr_x (hw : 0 < w) : dr w c s (c % w) = s % 3 := by
  have := rps_next (c := c) hw (Nat.mod_lt c hw)
  rw [if_pos rfl] at this
  unfold dr
  rw [this.1, Nat.pow_zero, Nat.div_one]
theorem tGc_g0 (hw : 0 < w) (hs : s < 3 ^ w) (hg : gb n (8 * (c / w) + c % w) = true) (hd : s % 3 = 0) : tGc S w l n (k + 1) c s = tGc S w l n k (c + 1) (s / 3) := by
  unfold tGc
  rw [tG, if_pos hg, if_pos (by rw [dr_x hw]; exact hd)]
  have h := (dr_next (c := c) (e := 0) hw hs (by omega)).2.2
  simp only [Nat.zero_mul, Nat.add_zero] at h
  refine tG_congr S w l n hw _ _ _ _ fun j hj => ?_
  rw [h j hj]
  split
  · next q => rw [q, dr_x hw]; exact hd
  · rfl
theorem tGc_g1 (hw : 0 < w) (hg : gb n (8 * (c / w) + c % w) = true) (hd : s % 3 ≠ 0) : tGc S w l n (k + 1) c s = 0 := by
  unfold tGc
  rw [tG, if_pos hg, if_neg (by rw [dr_x hw]; exact hd)]
theorem tGc_d (hw : 0 < w) (hs : s < 3 ^ w) (hg : ¬gb n (8 * (c / w) + c % w) = true) (hd : 0 < s % 3) : tGc S w l n (k + 1) c s = tGc S w l n k (c + 1) (s / 3 + (s % 3 - 1) * 3 ^ (w - 1)) := by
  unfold tGc
  rw [tG, if_neg hg, if_pos (by rw [dr_x hw]; exact hd)]
  have h := (dr_next (c := c) (e := s % 3 - 1) hw hs (by omega)).2.2
  refine tG_congr S w l n hw _ _ _ _ fun j hj => ?_
  rw [h j hj]
  unfold vup
  split
  · rw [dr_x hw]
  · rfl
theorem tGc_i (hw : 0 < w) (hS : 2 ≤ S) (hS3 : S ≤ 3) (hs : s < 3 ^ w) (hc : c / w < l) (hg : ¬gb n (8 * (c / w) + c % w) = true) (hd : s % 3 = 0) :
    tGc S w l n (k + 1) c s = (if c / w + S ≤ l then tGc S w l n k (c + 1) (s / 3 + (S - 1) * 3 ^ (w - 1)) else 0) + (if c % w + S ≤ w ∧ lfB n (c / w) (c % w) (s / 3) (S - 1) = true then tGc S w l n k (c + 1) (s / 3 + sacp 3 0 (S - 1)) else 0) := by
  have hx := Nat.mod_lt c hw
  have h := fun e he => (dr_next (c := c) (s := s) (e := e) hw hs he)
  have hrest := (h 0 (by omega)).1
  have hps : ∀ i, c % w + (i + 1) < w → rps w c (c % w + (i + 1)) = i + 1 := fun i hi => by rw [rps_v hw hi, if_pos (by omega)]; omega
  have hdr : ∀ i, c % w + (i + 1) < w → dr w c s (c % w + (i + 1)) = s / 3 / 3 ^ i % 3 := fun i hi => by
    unfold dr
    rw [hps i hi, Nat.pow_succ', ← Nat.div_div_eq_div_mul]
  have hac : tacr S w l n (dr w c s) (c % w) (c / w) ↔ c % w + S ≤ w ∧ lfB n (c / w) (c % w) (s / 3) (S - 1) = true := by
    rw [lfB_iff]
    unfold tacr tout
    constructor
    · intro q
      have hle : c % w + S ≤ w := by
        have := (q (S - 1) (by omega) (by omega)).1
        simp only [Bool.or_eq_false_iff, decide_eq_false_iff_not] at this
        omega
      refine ⟨hle, fun i hi => ?_⟩
      obtain ⟨q1, q2⟩ := q (i + 1) (by omega) (by omega)
      simp only [Bool.or_eq_false_iff, decide_eq_false_iff_not] at q1
      rw [hdr i (by omega)] at q2
      exact ⟨by rw [Nat.add_assoc]; exact q1.2.2, q2⟩
    · rintro ⟨hle, q⟩ i h1 h2
      obtain ⟨q1, q2⟩ := q (i - 1) (by omega)
      rw [show i - 1 + 1 = i by omega, Nat.add_assoc] at q1
      refine ⟨?_, ?_⟩
      · simp only [Bool.or_eq_false_iff, decide_eq_false_iff_not]
        exact ⟨by omega, by omega, q1⟩
      · have := hdr (i - 1) (by omega)
        rw [show i - 1 + 1 = i by omega] at this
        rw [this]
        exact q2
  unfold tGc
  rw [tG, if_neg hg, if_neg (by rw [dr_x hw]; omega)]
  congr 1
  · split
    · refine tG_congr S w l n hw _ _ _ _ fun j hj => ?_
      rw [(h (S - 1) (by omega)).2.2 j hj]
      rfl
    · rfl
  · by_cases q : tacr S w l n (dr w c s) (c % w) (c / w)
    · rw [if_pos q, if_pos (hac.mp q)]
      have q2 := hac.mp q
      rw [lfB_iff] at q2
      refine tG_congr S w l n hw _ _ _ _ fun j hj => ?_
      have h2 := (dg_sacp (S := 3) (p := 0) (w := w - 1) (s := s / 3) (by omega) hrest (S - 1) fun i hi => by
        rw [Nat.zero_add]
        exact ⟨by omega, (q2.2 i hi).2⟩).2
      have h0 := (h 0 (by omega)).2.2 j hj
      simp only [Nat.zero_mul, Nat.add_zero] at h0
      have hr := rps_next (c := c) hw hj
      unfold vlay
      show _ = (s / 3 + sacp 3 0 (S - 1)) / 3 ^ rps w (c + 1) j % 3
      rw [h2]
      by_cases e : c % w < j ∧ j < c % w + S
      · have e2 : rps w c j = j - c % w := by rw [rps_v hw hj, if_pos (by omega)]
        rw [if_neg (by omega)] at hr
        rw [if_pos e, if_pos (by omega)]
      · rw [if_neg e]
        by_cases e3 : j = c % w
        · rw [if_pos e3] at hr h0
          have h9 : s / 3 / 3 ^ rps w (c + 1) j % 3 = 0 := h0
          rw [if_neg (by omega), h9, e3, dr_x hw]
          exact hd
        · rw [if_neg e3] at hr h0
          have h9 : s / 3 / 3 ^ rps w (c + 1) j % 3 = dr w c s j := h0
          have e2 := rps_v (c := c) hw hj
          rw [if_neg (by split at e2 <;> omega), h9]
    · rw [if_neg q, if_neg (fun u => q (hac.mpr u))]
end RSTEP
theorem m_stand {w : aW} {d : Nat} (hd : 1 ≤ d) {h : aH} {o : Nat} (ms : MS h o) (V : Nat → Nat → Int) (s rest top y l S : Nat) (hs : s < 6561) (hr : rest + (S - 1) * top < 6561) (hS : 1 ≤ S) (hS3 : S ≤ 3) (ht : top < 6561) (hy : y < 100) (hl : l < 100) : WP w d 369 [aO (some o), aI ((s : Int)), aI ((rest : Int)), aI ((top : Int)), aI ((y : Int)), aI ((l : Int)), aI ((S : Int))] (hw h V) (RN (fun h1 => h1 = hw h (if y + S ≤ l then vset V (o + 18) (rest + (S - 1) * top) (w64 (V (o + 18) (rest + (S - 1) * top) + V (o + 17) s)) else V))) := by
  obtain ⟨d, rfl⟩ : ∃ d1, d = d1 + 1 := ⟨d - 1, by omega⟩
  refine WP.enter (cd := cd_X12_stand) rfl ?_
  have hm : (S - 1) * top ≤ 2 * 6561 := Nat.mul_le_mul (by omega) (by omega)
  have hls : largs 0 [aO (some o), aI ((s : Int)), aI ((rest : Int)), aI ((top : Int)), aI ((y : Int)), aI ((l : Int)), aI ((S : Int))] = [(0, aO (some o)), (1, aI ((s : Int))), (2, aI ((rest : Int))), (3, aI ((top : Int))), (4, aI ((y : Int))), (5, aI ((l : Int))), (6, aI ((S : Int)))] := rfl
  rw [hls]
  clear hls
  refine g_iload rfl rfl ?_
  refine g_iload rfl rfl ?_
  refine g_iadd rfl (by omega) (by omega) ?_
  refine g_iload rfl rfl ?_
  refine g_icmp_gt rfl (fun c7 => ?_) (fun c7 => ?_)
  · skip
    refine g_vret rfl ?_
    first | (rw [if_pos (by omega)]; rfl) | (rw [if_neg (by omega)])
  · skip
    refine g_aload_n rfl rfl ?_
    refine g_getR rfl ms.1 (mr_then ms) ?_
    refine g_iload_n rfl rfl ?_
    refine g_iload rfl rfl ?_
    refine g_iconst rfl ?_
    refine g_isub rfl (by omega) (by omega) ?_
    refine g_top (v2 := aI (((S - 1 : Nat) : Int))) (congrArg aI (by omega)) ?_
    refine g_iload_n rfl rfl ?_
    refine g_imul rfl (by omega) (by omega) ?_
    refine g_iadd rfl (by omega) (by omega) ?_
    refine g_dup2 rfl rfl rfl ?_
    refine g_lald (i := rest + ((S - 1) * top)) rfl (mt_then ms) (by omega) (by omega) ?_
    refine g_aload_n rfl rfl ?_
    refine g_getR rfl ms.1 (mr_now ms) ?_
    refine g_iload_n rfl rfl ?_
    refine g_lald (i := s) rfl (mt_now ms) (by omega) (by omega) ?_
    refine g_laddW rfl ?_
    refine g_last (i := rest + ((S - 1) * top)) rfl (mt_then ms) (by omega) (by omega) ?_
    refine g_vret rfl ?_
    first | (rw [if_pos (by omega)]; rfl) | (rw [if_neg (by omega)])
theorem sacp_le {m : Nat} (hm : m ≤ 2) : sacp 3 0 m ≤ 4 := by
  rcases (show m = 0 ∨ m = 1 ∨ m = 2 by omega) with rfl | rfl | rfl <;> decide
set_option maxRecDepth 100000 in
theorem m_lie {w : aW} {d : Nat} (hd : 1 ≤ d) {h : aH} {o : Nat} (ms : MS h o) (V : Nat → Nat → Int) (s rest x y w1 S : Nat) (n : Int) (hs : s < 6561) (hr : rest < 2187) (hS : 2 ≤ S) (hS3 : S ≤ 3) (hx : x < w1) (hw8 : w1 ≤ 8) (hy : y < 8) : WP w d 370 [aO (some o), aI ((s : Int)), aI ((rest : Int)), aI ((x : Int)), aI ((y : Int)), aI ((w1 : Int)), aI ((S : Int)), aJ n] (hw h V) (RN (fun h1 => h1 = hw h (if x + S ≤ w1 ∧ lfB n y x rest (S - 1) = true then vset V (o + 18) (rest + sacp 3 0 (S - 1)) (w64 (V (o + 18) (rest + sacp 3 0 (S - 1)) + V (o + 17) s)) else V))) := by
  obtain ⟨d, rfl⟩ : ∃ d1, d = d1 + 1 := ⟨d - 1, by omega⟩
  refine WP.enter (cd := cd_X12_lie) rfl ?_
  have hp9 := sacp_le (m := S - 1) (by omega)
  have hls : largs 0 [aO (some o), aI ((s : Int)), aI ((rest : Int)), aI ((x : Int)), aI ((y : Int)), aI ((w1 : Int)), aI ((S : Int)), aJ n] = [(0, aO (some o)), (1, aI ((s : Int))), (2, aI ((rest : Int))), (3, aI ((x : Int))), (4, aI ((y : Int))), (5, aI ((w1 : Int))), (6, aI ((S : Int))), (7, aJ n)] := rfl
  rw [hls]
  clear hls
  have l22 : ∀ (fuel : Nat) (j : Nat), (j + 1 ≤ S) → (x + S ≤ w1) → S - j < fuel → Wk w d cd_X12_lie 22 [(12, aI ((j + 1 : Int))), (11, aI (if lfB n y x rest (j) = true then 1 else 0)), (10, aI (((3 ^ j : Nat) : Int))), (9, aI ((rest + sacp 3 0 j : Int))), (0, aO (some o)), (1, aI ((s : Int))), (2, aI ((rest : Int))), (3, aI ((x : Int))), (4, aI ((y : Int))), (5, aI ((w1 : Int))), (6, aI ((S : Int))), (7, aJ n)] [] (hw h V) (RN (fun h1 => h1 = hw h (if x + S ≤ w1 ∧ lfB n y x rest (S - 1) = true then vset V (o + 18) (rest + sacp 3 0 (S - 1)) (w64 (V (o + 18) (rest + sacp 3 0 (S - 1)) + V (o + 17) s)) else V))) := by
    intro fuel
    induction fuel with
    | zero => intros; omega
    | succ fuel ih22 =>
      intro j hj hxs hfuel
      have hp0 : 0 < 3 ^ j := Nat.pow_pos (by omega)
      have hp1 : 3 ^ j ≤ 3 ^ 2 := Nat.pow_le_pow_right (by omega) (by omega)
      have hp2 : sacp 3 0 j ≤ 4 := sacp_le (by omega)
      have hp3 : sacp 3 0 (j + 1) = sacp 3 0 j + 3 ^ j := by show sacp 3 0 j + 3 ^ (0 + j) = _; rw [Nat.zero_add]
      have hp5 : (3 : Int) * ((3 ^ j : Nat) : Int) = ((3 ^ (j + 1) : Nat) : Int) := by rw [Nat.pow_succ, Int.natCast_mul, Int.mul_comm]; rfl
      have j80 : (j + 1 < S) → Wk w d cd_X12_lie 80 [(13, aI (if gb n (8 * y + x + (j + 1)) = true then 1 else 0)), (12, aI ((j + 1 : Int))), (10, aI (((3 ^ j : Nat) : Int))), (9, aI ((rest + sacp 3 0 j : Int))), (0, aO (some o)), (1, aI ((s : Int))), (2, aI ((rest : Int))), (3, aI ((x : Int))), (4, aI ((y : Int))), (5, aI ((w1 : Int))), (6, aI ((S : Int))), (7, aJ n)] [aI (if lfB n y x rest (j + 1) = true then 1 else 0)] (hw h V) (RN (fun h1 => h1 = hw h (if x + S ≤ w1 ∧ lfB n y x rest (S - 1) = true then vset V (o + 18) (rest + sacp 3 0 (S - 1)) (w64 (V (o + 18) (rest + sacp 3 0 (S - 1)) + V (o + 17) s)) else V))) := by
        intro hj2
        refine g_istore (l1 := [(11, aI (if lfB n y x rest (j + 1) = true then 1 else 0)), (13, aI (if gb n (8 * y + x + (j + 1)) = true then 1 else 0)), (12, aI ((j + 1 : Int))), (10, aI (((3 ^ j : Nat) : Int))), (9, aI ((rest + sacp 3 0 j : Int))), (0, aO (some o)), (1, aI ((s : Int))), (2, aI ((rest : Int))), (3, aI ((x : Int))), (4, aI ((y : Int))), (5, aI ((w1 : Int))), (6, aI ((S : Int))), (7, aJ n)]) rfl rfl ?_
        refine g_iload rfl rfl ?_
        refine g_iload rfl rfl ?_
        refine g_iadd rfl (by omega) (by omega) ?_
        refine g_top (v2 := aI ((rest + sacp 3 0 (j + 1) : Int))) (congrArg aI (by rw [hp3]; omega)) ?_
        refine g_istore (l1 := [(9, aI ((rest + sacp 3 0 (j + 1) : Int))), (11, aI (if lfB n y x rest (j + 1) = true then 1 else 0)), (13, aI (if gb n (8 * y + x + (j + 1)) = true then 1 else 0)), (12, aI ((j + 1 : Int))), (10, aI (((3 ^ j : Nat) : Int))), (0, aO (some o)), (1, aI ((s : Int))), (2, aI ((rest : Int))), (3, aI ((x : Int))), (4, aI ((y : Int))), (5, aI ((w1 : Int))), (6, aI ((S : Int))), (7, aJ n)]) rfl rfl ?_
        refine g_iconst rfl ?_
        refine g_iload rfl rfl ?_
        refine g_imul rfl (by rw [hp5]; have h33 : 3 ^ (j + 1) ≤ 3 ^ 3 := Nat.pow_le_pow_right (by omega) (by omega); omega) (by rw [hp5]; have h33 : 3 ^ (j + 1) ≤ 3 ^ 3 := Nat.pow_le_pow_right (by omega) (by omega); omega) ?_
        refine g_top (v2 := aI (((3 ^ (j + 1) : Nat) : Int))) (congrArg aI (by exact hp5)) ?_
        refine g_istore (l1 := [(10, aI (((3 ^ (j + 1) : Nat) : Int))), (9, aI ((rest + sacp 3 0 (j + 1) : Int))), (11, aI (if lfB n y x rest (j + 1) = true then 1 else 0)), (13, aI (if gb n (8 * y + x + (j + 1)) = true then 1 else 0)), (12, aI ((j + 1 : Int))), (0, aO (some o)), (1, aI ((s : Int))), (2, aI ((rest : Int))), (3, aI ((x : Int))), (4, aI ((y : Int))), (5, aI ((w1 : Int))), (6, aI ((S : Int))), (7, aJ n)]) rfl rfl ?_
        refine g_iinc (l1 := [(12, aI ((j + 1 : Int) + 1)), (10, aI (((3 ^ (j + 1) : Nat) : Int))), (9, aI ((rest + sacp 3 0 (j + 1) : Int))), (11, aI (if lfB n y x rest (j + 1) = true then 1 else 0)), (13, aI (if gb n (8 * y + x + (j + 1)) = true then 1 else 0)), (0, aO (some o)), (1, aI ((s : Int))), (2, aI ((rest : Int))), (3, aI ((x : Int))), (4, aI ((y : Int))), (5, aI ((w1 : Int))), (6, aI ((S : Int))), (7, aJ n)]) rfl rfl (by omega) (by omega) rfl ?_
        refine g_goto rfl ?_
        refine g_ls [0, 3, 1, 2, 5, 6, 7, 8, 9, 10, 11, 12] rfl rfl ?_
        exact ih22 (j + 1) (by omega) (by omega) (by omega)
      have j54 : (j + 1 < S) → Wk w d cd_X12_lie 54 [(12, aI ((j + 1 : Int))), (11, aI (if lfB n y x rest (j) = true then 1 else 0)), (10, aI (((3 ^ j : Nat) : Int))), (9, aI ((rest + sacp 3 0 j : Int))), (0, aO (some o)), (1, aI ((s : Int))), (2, aI ((rest : Int))), (3, aI ((x : Int))), (4, aI ((y : Int))), (5, aI ((w1 : Int))), (6, aI ((S : Int))), (7, aJ n)] [aI (if gb n (8 * y + x + (j + 1)) = true then 1 else 0)] (hw h V) (RN (fun h1 => h1 = hw h (if x + S ≤ w1 ∧ lfB n y x rest (S - 1) = true then vset V (o + 18) (rest + sacp 3 0 (S - 1)) (w64 (V (o + 18) (rest + sacp 3 0 (S - 1)) + V (o + 17) s)) else V))) := by
        intro hj2
        refine g_istore (l1 := [(13, aI (if gb n (8 * y + x + (j + 1)) = true then 1 else 0)), (12, aI ((j + 1 : Int))), (11, aI (if lfB n y x rest (j) = true then 1 else 0)), (10, aI (((3 ^ j : Nat) : Int))), (9, aI ((rest + sacp 3 0 j : Int))), (0, aO (some o)), (1, aI ((s : Int))), (2, aI ((rest : Int))), (3, aI ((x : Int))), (4, aI ((y : Int))), (5, aI ((w1 : Int))), (6, aI ((S : Int))), (7, aJ n)]) rfl rfl ?_
        refine g_iload rfl rfl ?_
        refine g_b_eq rfl (fun c58 => ?_) (fun c58 => ?_)
        · skip
          refine g_iconst rfl ?_
          refine g_top (v2 := aI (if lfB n y x rest (j + 1) = true then 1 else 0)) (congrArg aI (bi_f (by unfold lfB; rw [Bool.and_eq_true, Bool.and_eq_true]; first | exact ⟨c58, by simpa using c63, by simp only [beq_iff_eq]; omega⟩ | exact fun u => c58 u.1 | (intro u; have u2 := u.2.1; rw [c63] at u2; exact absurd u2 (by decide)) | (intro u; have u3 := u.2.2; rw [beq_iff_eq] at u3; omega)))) ?_
          refine g_ls [0, 1, 3, 4, 5, 6, 7, 8, 9, 10, 11, 12] rfl rfl ?_
          exact j80 (by omega)
        · skip
          refine g_iload rfl rfl ?_
          refine g_b_ne rfl (fun c63 => ?_) (fun c63 => ?_)
          · skip
            refine g_iconst rfl ?_
            refine g_top (v2 := aI (if lfB n y x rest (j + 1) = true then 1 else 0)) (congrArg aI (bi_f (by unfold lfB; rw [Bool.and_eq_true, Bool.and_eq_true]; first | exact ⟨c58, by simpa using c63, by simp only [beq_iff_eq]; omega⟩ | exact fun u => c58 u.1 | (intro u; have u2 := u.2.1; rw [c63] at u2; exact absurd u2 (by decide)) | (intro u; have u3 := u.2.2; rw [beq_iff_eq] at u3; omega)))) ?_
            refine g_ls [0, 1, 3, 4, 5, 6, 7, 8, 9, 10, 11, 12] rfl rfl ?_
            exact j80 (by omega)
          · skip
            refine g_iload_n rfl rfl ?_
            refine g_iload rfl rfl ?_
            refine g_idivN (m := (3 ^ j)) (n := rest) rfl (by omega) (by omega) ?_
            refine g_iconst rfl ?_
            refine g_iremN (m := 3) (n := (rest / (3 ^ j))) rfl (by omega) ?_
            refine g_if_ne rfl (fun c72 => ?_) (fun c72 => ?_)
            · skip
              refine g_iconst rfl ?_
              refine g_top (v2 := aI (if lfB n y x rest (j + 1) = true then 1 else 0)) (congrArg aI (bi_f (by unfold lfB; rw [Bool.and_eq_true, Bool.and_eq_true]; first | exact ⟨c58, by simpa using c63, by simp only [beq_iff_eq]; omega⟩ | exact fun u => c58 u.1 | (intro u; have u2 := u.2.1; rw [c63] at u2; exact absurd u2 (by decide)) | (intro u; have u3 := u.2.2; rw [beq_iff_eq] at u3; omega)))) ?_
              refine g_ls [0, 1, 3, 4, 5, 6, 7, 8, 9, 10, 11, 12] rfl rfl ?_
              exact j80 (by omega)
            · skip
              refine g_iconst rfl ?_
              refine g_goto rfl ?_
              refine g_top (v2 := aI (if lfB n y x rest (j + 1) = true then 1 else 0)) (congrArg aI (bi_t (by unfold lfB; rw [Bool.and_eq_true, Bool.and_eq_true]; first | exact ⟨c58, by simpa using c63, by simp only [beq_iff_eq]; omega⟩ | exact fun u => c58 u.1 | (intro u; have u2 := u.2.1; rw [c63] at u2; exact absurd u2 (by decide)) | (intro u; have u3 := u.2.2; rw [beq_iff_eq] at u3; omega)))) ?_
              refine g_ls [0, 1, 3, 4, 5, 6, 7, 8, 9, 10, 11, 12] rfl rfl ?_
              exact j80 (by omega)
      refine g_iload rfl rfl ?_
      refine g_iload rfl rfl ?_
      refine g_icmp_ge rfl (fun c26 => ?_) (fun c26 => ?_)
      · skip
        rw [show j = (S - 1) by omega]
        refine g_iload rfl rfl ?_
        refine g_b_eq rfl (fun c103 => ?_) (fun c103 => ?_)
        · skip
          refine g_vret rfl ?_
          first | (rw [if_pos ⟨by omega, by assumption⟩]; rfl) | (rw [if_neg (by intro u; first | exact absurd u.2 (by assumption) | omega)])
        · skip
          refine g_aload_n rfl rfl ?_
          refine g_getR rfl ms.1 (mr_then ms) ?_
          refine g_iload rfl rfl ?_
          refine g_dup2 rfl rfl rfl ?_
          refine g_lald (i := rest + sacp 3 0 (S - 1)) rfl (mt_then ms) (by omega) (by omega) ?_
          refine g_aload_n rfl rfl ?_
          refine g_getR rfl ms.1 (mr_now ms) ?_
          refine g_iload_n rfl rfl ?_
          refine g_lald (i := s) rfl (mt_now ms) (by omega) (by omega) ?_
          refine g_laddW rfl ?_
          refine g_last (i := rest + sacp 3 0 (S - 1)) rfl (mt_then ms) (by omega) (by omega) ?_
          refine g_vret rfl ?_
          first | (rw [if_pos ⟨by omega, by assumption⟩]; rfl) | (rw [if_neg (by intro u; first | exact absurd u.2 (by assumption) | omega)])
      · skip
        refine g_lload rfl rfl ?_
        refine g_bipush rfl ?_
        refine g_iload rfl rfl ?_
        refine g_imul rfl (by omega) (by omega) ?_
        refine g_iload_n rfl rfl ?_
        refine g_iadd rfl (by omega) (by omega) ?_
        refine g_iload rfl rfl ?_
        refine g_iadd rfl (by omega) (by omega) ?_
        refine g_lshr rfl ?_
        refine g_lconst1 rfl ?_
        refine g_land rfl ?_
        refine g_top (v2 := aJ (n / 2 ^ (8 * y + x + (j + 1)) % 2)) (congrArg aJ (by exact lshr_bit n (y := 8 * y + x + (j + 1)) (by omega))) ?_
        refine g_lconst1 rfl ?_
        refine g_lc_ne rfl rfl (fun c45 => ?_) (fun c45 => ?_)
        · skip
          refine g_iconst rfl ?_
          refine g_top (v2 := aI (if gb n (8 * y + x + (j + 1)) = true then 1 else 0)) (congrArg aI (bi_f (by unfold gb; rw [decide_eq_true_eq]; omega))) ?_
          exact j54 (by omega)
        · skip
          refine g_iconst rfl ?_
          refine g_goto rfl ?_
          refine g_top (v2 := aI (if gb n (8 * y + x + (j + 1)) = true then 1 else 0)) (congrArg aI (bi_t (by unfold gb; rw [decide_eq_true_eq]; omega))) ?_
          exact j54 (by omega)
  refine g_iload_n rfl rfl ?_
  refine g_iload rfl rfl ?_
  refine g_iadd rfl (by omega) (by omega) ?_
  refine g_iload rfl rfl ?_
  refine g_icmp_le rfl (fun c6 => ?_) (fun c6 => ?_)
  · skip
    refine g_iload_n rfl rfl ?_
    refine g_istore (l1 := [(9, aI ((rest : Int))), (0, aO (some o)), (1, aI ((s : Int))), (2, aI ((rest : Int))), (3, aI ((x : Int))), (4, aI ((y : Int))), (5, aI ((w1 : Int))), (6, aI ((S : Int))), (7, aJ n)]) rfl rfl ?_
    refine g_iconst rfl ?_
    refine g_istore (l1 := [(10, aI 1), (9, aI ((rest : Int))), (0, aO (some o)), (1, aI ((s : Int))), (2, aI ((rest : Int))), (3, aI ((x : Int))), (4, aI ((y : Int))), (5, aI ((w1 : Int))), (6, aI ((S : Int))), (7, aJ n)]) rfl rfl ?_
    refine g_iconst rfl ?_
    refine g_istore (l1 := [(11, aI 1), (10, aI 1), (9, aI ((rest : Int))), (0, aO (some o)), (1, aI ((s : Int))), (2, aI ((rest : Int))), (3, aI ((x : Int))), (4, aI ((y : Int))), (5, aI ((w1 : Int))), (6, aI ((S : Int))), (7, aJ n)]) rfl rfl ?_
    refine g_iconst rfl ?_
    refine g_istore (l1 := [(12, aI 1), (11, aI 1), (10, aI 1), (9, aI ((rest : Int))), (0, aO (some o)), (1, aI ((s : Int))), (2, aI ((rest : Int))), (3, aI ((x : Int))), (4, aI ((y : Int))), (5, aI ((w1 : Int))), (6, aI ((S : Int))), (7, aJ n)]) rfl rfl ?_
    exact l22 _ 0 (by omega) (by omega) (Nat.lt_succ_self _)
  · skip
    refine g_vret rfl ?_
    rw [if_neg (by omega)]
