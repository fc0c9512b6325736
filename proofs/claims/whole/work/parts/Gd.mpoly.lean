/-! the reference's polygons: printed by wip/whole/gd_.py -/
def MG (V : Nat → Nat → Int) (o : Nat) (S : aS) : Prop := V o 10 = sG S ∧ ∀ p < sG S, V (o + 6) p = sGn S p ∧ ∀ i < sGn S p, V (o + 7) (12 * p + i) = gx S p i ∧ V (o + 8) (12 * p + i) = gy S p i
theorem MG.fr {V V1 : Nat → Nat → Int} {o : Nat} {S : aS} (x : MG V o S) (h0 : V1 o 10 = V o 10) (h : ∀ a, o + 6 ≤ a → a ≤ o + 8 → V1 a = V a) : MG V1 o S := by
  unfold MG
  rw [h0, h (o + 6) (by omega) (by omega), h (o + 7) (by omega) (by omega), h (o + 8) (by omega) (by omega)]
  exact x
theorem mod0 {S : aS} {p i : Nat} (hi : i < sGn S p) : i % sGn S p = i := Nat.mod_eq_of_lt hi
theorem mod1 {S : aS} {p i : Nat} (hi : i < sGn S p) : (i + 1) % sGn S p = gAft S p i := by
  unfold gAft
  by_cases h : i + 1 < sGn S p
  · rw [if_pos h, Nat.mod_eq_of_lt h]
  · rw [if_neg h, show i + 1 = sGn S p by omega, Nat.mod_self]
theorem mod2 {S : aS} {p i : Nat} (hi : i < sGn S p) : (i + 2) % sGn S p = gAft S p (gAft S p i) := by
  rw [← mod1 (gAft_lt hi), ← mod1 hi]
  rw [Nat.mod_add_mod]
set_option maxRecDepth 100000 in
theorem c_les {w : aW} {d : Nat} (hd : 2 ≤ d) (x y : Int) (h : aH) : WP w d 240 [aJ x, aJ y] h (RJ (fun v h1 => h1 = h ∧ v = min x y)) := by
  obtain ⟨d, rfl⟩ : ∃ d1, d = d1 + 1 := ⟨d - 1, by omega⟩
  refine WP.enter (cd := cd_X12_lesser) rfl ?_
  have hls : largs 0 [aJ x, aJ y] = [(0, aJ x), (2, aJ y)] := rfl
  rw [hls]
  clear hls
  refine g_lload_n rfl rfl ?_
  refine g_lload_n rfl rfl ?_
  refine g_lc_ge rfl rfl (fun cq2 => ?_) (fun cq2 => ?_)
  · skip
    refine g_lload_n rfl rfl ?_
    refine g_lret rfl ?_
    refine ⟨rfl, ?_⟩
    omega
  · skip
    refine g_lload_n rfl rfl ?_
    refine g_goto rfl ?_
    refine g_lret rfl ?_
    refine ⟨rfl, ?_⟩
    omega
set_option maxRecDepth 100000 in
theorem c_grt {w : aW} {d : Nat} (hd : 2 ≤ d) (x y : Int) (h : aH) : WP w d 241 [aJ x, aJ y] h (RJ (fun v h1 => h1 = h ∧ v = max x y)) := by
  obtain ⟨d, rfl⟩ : ∃ d1, d = d1 + 1 := ⟨d - 1, by omega⟩
  refine WP.enter (cd := cd_X12_greater) rfl ?_
  have hls : largs 0 [aJ x, aJ y] = [(0, aJ x), (2, aJ y)] := rfl
  rw [hls]
  clear hls
  refine g_lload_n rfl rfl ?_
  refine g_lload_n rfl rfl ?_
  refine g_lc_le rfl rfl (fun cq2 => ?_) (fun cq2 => ?_)
  · skip
    refine g_lload_n rfl rfl ?_
    refine g_lret rfl ?_
    refine ⟨rfl, ?_⟩
    omega
  · skip
    refine g_lload_n rfl rfl ?_
    refine g_goto rfl ?_
    refine g_lret rfl ?_
    refine ⟨rfl, ?_⟩
    omega
set_option maxRecDepth 100000 in
theorem c_sgn {w : aW} {d : Nat} (hd : 2 ≤ d) (x : Int) (h : aH) : WP w d 335 [aJ x] h (RI (fun v h1 => h1 = h ∧ v = if 0 < x then 1 else if x < 0 then -1 else 0)) := by
  obtain ⟨d, rfl⟩ : ∃ d1, d = d1 + 1 := ⟨d - 1, by omega⟩
  refine WP.enter (cd := cd_X12_signOf) rfl ?_
  have hls : largs 0 [aJ x] = [(0, aJ x)] := rfl
  rw [hls]
  clear hls
  refine g_lload_n rfl rfl ?_
  refine g_lconst0 rfl ?_
  refine g_lc_le rfl rfl (fun cq2 => ?_) (fun cq2 => ?_)
  · skip
    refine g_lload_n rfl rfl ?_
    refine g_lconst0 rfl ?_
    refine g_lc_ge rfl rfl (fun cq12 => ?_) (fun cq12 => ?_)
    · skip
      refine g_iconst rfl ?_
      refine g_iret rfl ?_
      refine ⟨rfl, ?_⟩
      split <;> (try split) <;> omega
    · skip
      refine g_iconst rfl ?_
      refine g_goto rfl ?_
      refine g_iret rfl ?_
      refine ⟨rfl, ?_⟩
      split <;> (try split) <;> omega
  · skip
    refine g_iconst rfl ?_
    refine g_goto rfl ?_
    refine g_iret rfl ?_
    refine ⟨rfl, ?_⟩
    split <;> (try split) <;> omega
set_option maxRecDepth 100000 in
theorem c_size {w : aW} {d : Nat} (hd : 2 ≤ d) (x : Int) (hx : -9223372036854775808 < x ∧ x < 9223372036854775808) (h : aH) : WP w d 242 [aJ x] h (RJ (fun v h1 => h1 = h ∧ v = (x.natAbs : Int))) := by
  obtain ⟨d, rfl⟩ : ∃ d1, d = d1 + 1 := ⟨d - 1, by omega⟩
  refine WP.enter (cd := cd_X12_sizeOf) rfl ?_
  have hls : largs 0 [aJ x] = [(0, aJ x)] := rfl
  rw [hls]
  clear hls
  refine g_lload_n rfl rfl ?_
  refine g_lconst0 rfl ?_
  refine g_lc_ge rfl rfl (fun cq2 => ?_) (fun cq2 => ?_)
  · skip
    refine g_lload_n rfl rfl ?_
    refine g_lret rfl ?_
    refine ⟨rfl, ?_⟩
    omega
  · skip
    refine g_lload_n rfl rfl ?_
    refine g_lneg2 rfl (by omega) (by omega) ?_
    refine g_goto rfl ?_
    refine g_lret rfl ?_
    refine ⟨rfl, ?_⟩
    omega
set_option maxRecDepth 100000 in
theorem m_pgTurn {w : aW} {d : Nat} (hd : 2 ≤ d) {h : aH} {o : Nat} (ms : MS h o) (V : Nat → Nat → Int) {S : aS} (mg : MG V o S) (ok : OkG S) (p : Nat) (hp : p < sG S) (a : Nat) (ha : a < sGn S p) (b : Nat) (hb : b < sGn S p) (q : Nat) (hq : q < sGn S p) : WP w d 333 [aO (some o), aI ((12 * p + a : Int)), aI ((12 * p + b : Int)), aI ((12 * p + q : Int))] (hw h V) (RJ (fun r h1 => h1 = hw h V ∧ r = gT S p a b q)) := by
  obtain ⟨d, rfl⟩ : ∃ d1, d = d1 + 1 := ⟨d - 1, by omega⟩
  refine WP.enter (cd := cd_X12_turn) rfl ?_
  have hok := ok.1
  have hok2 := (ok.2 p hp).1
  have bxa := ok.x hp (i := a) (by omega)
  have bya := ok.y hp (i := a) (by omega)
  have bxb := ok.x hp (i := b) (by omega)
  have byb := ok.y hp (i := b) (by omega)
  have bxq := ok.x hp (i := q) (by omega)
  have byq := ok.y hp (i := q) (by omega)
  have hls : largs 0 [aO (some o), aI ((12 * p + a : Int)), aI ((12 * p + b : Int)), aI ((12 * p + q : Int))] = [(0, aO (some o)), (1, aI ((12 * p + a : Int))), (2, aI ((12 * p + b : Int))), (3, aI ((12 * p + q : Int)))] := rfl
  rw [hls]
  clear hls
  refine g_aload_n rfl rfl ?_
  refine g_getR rfl ms.1 (mr_px ms) ?_
  refine g_iload_n rfl rfl ?_
  refine g_iald (i := 12 * p + b) rfl (mt_px ms) (by omega) (by omega) ?_
  refine g_top (v2 := aI (gx S p b)) (congrArg aI (by exact ((mg.2 p hp).2 b (by omega)).1)) ?_
  refine g_aload_n rfl rfl ?_
  refine g_getR rfl ms.1 (mr_px ms) ?_
  refine g_iload_n rfl rfl ?_
  refine g_iald (i := 12 * p + a) rfl (mt_px ms) (by omega) (by omega) ?_
  refine g_top (v2 := aI (gx S p a)) (congrArg aI (by exact ((mg.2 p hp).2 a (by omega)).1)) ?_
  refine g_isub rfl (by omega) (by omega) ?_
  refine g_i2l rfl ?_
  refine g_aload_n rfl rfl ?_
  refine g_getR rfl ms.1 (mr_py ms) ?_
  refine g_iload_n rfl rfl ?_
  refine g_iald (i := 12 * p + q) rfl (mt_py ms) (by omega) (by omega) ?_
  refine g_top (v2 := aI (gy S p q)) (congrArg aI (by exact ((mg.2 p hp).2 q (by omega)).2)) ?_
  refine g_aload_n rfl rfl ?_
  refine g_getR rfl ms.1 (mr_py ms) ?_
  refine g_iload_n rfl rfl ?_
  refine g_iald (i := 12 * p + a) rfl (mt_py ms) (by omega) (by omega) ?_
  refine g_top (v2 := aI (gy S p a)) (congrArg aI (by exact ((mg.2 p hp).2 a (by omega)).2)) ?_
  refine g_isub rfl (by omega) (by omega) ?_
  refine g_i2l rfl ?_
  have m28 := mul2k (x := gx S p b - gx S p a) (y := gy S p q - gy S p a) (by omega) (by omega)
  refine g_lmul rfl (by omega) (by omega) ?_
  refine g_aload_n rfl rfl ?_
  refine g_getR rfl ms.1 (mr_py ms) ?_
  refine g_iload_n rfl rfl ?_
  refine g_iald (i := 12 * p + b) rfl (mt_py ms) (by omega) (by omega) ?_
  refine g_top (v2 := aI (gy S p b)) (congrArg aI (by exact ((mg.2 p hp).2 b (by omega)).2)) ?_
  refine g_aload_n rfl rfl ?_
  refine g_getR rfl ms.1 (mr_py ms) ?_
  refine g_iload_n rfl rfl ?_
  refine g_iald (i := 12 * p + a) rfl (mt_py ms) (by omega) (by omega) ?_
  refine g_top (v2 := aI (gy S p a)) (congrArg aI (by exact ((mg.2 p hp).2 a (by omega)).2)) ?_
  refine g_isub rfl (by omega) (by omega) ?_
  refine g_i2l rfl ?_
  refine g_aload_n rfl rfl ?_
  refine g_getR rfl ms.1 (mr_px ms) ?_
  refine g_iload_n rfl rfl ?_
  refine g_iald (i := 12 * p + q) rfl (mt_px ms) (by omega) (by omega) ?_
  refine g_top (v2 := aI (gx S p q)) (congrArg aI (by exact ((mg.2 p hp).2 q (by omega)).1)) ?_
  refine g_aload_n rfl rfl ?_
  refine g_getR rfl ms.1 (mr_px ms) ?_
  refine g_iload_n rfl rfl ?_
  refine g_iald (i := 12 * p + a) rfl (mt_px ms) (by omega) (by omega) ?_
  refine g_top (v2 := aI (gx S p a)) (congrArg aI (by exact ((mg.2 p hp).2 a (by omega)).1)) ?_
  refine g_isub rfl (by omega) (by omega) ?_
  refine g_i2l rfl ?_
  have m57 := mul2k (x := gy S p b - gy S p a) (y := gx S p q - gx S p a) (by omega) (by omega)
  refine g_lmul rfl (by omega) (by omega) ?_
  refine g_lsub rfl (by omega) (by omega) ?_
  refine g_lret rfl ?_
  exact ⟨rfl, rfl⟩
set_option maxRecDepth 100000 in
theorem m_pgOn {w : aW} {d : Nat} (hd : 3 ≤ d) {h : aH} {o : Nat} (ms : MS h o) (V : Nat → Nat → Int) {S : aS} (mg : MG V o S) (ok : OkG S) (p : Nat) (hp : p < sG S) (a : Nat) (ha : a < sGn S p) (b : Nat) (hb : b < sGn S p) (q : Nat) (hq : q < sGn S p) : WP w d 334 [aO (some o), aI ((12 * p + a : Int)), aI ((12 * p + b : Int)), aI ((12 * p + q : Int))] (hw h V) (RI (fun r h1 => h1 = hw h V ∧ r = if gOn S p a b q then 1 else 0)) := by
  obtain ⟨d, rfl⟩ : ∃ d1, d = d1 + 1 := ⟨d - 1, by omega⟩
  refine WP.enter (cd := cd_X12_isOn) rfl ?_
  have hok := ok.1
  have hok2 := (ok.2 p hp).1
  have hls : largs 0 [aO (some o), aI ((12 * p + a : Int)), aI ((12 * p + b : Int)), aI ((12 * p + q : Int))] = [(0, aO (some o)), (1, aI ((12 * p + a : Int))), (2, aI ((12 * p + b : Int))), (3, aI ((12 * p + q : Int)))] := rfl
  rw [hls]
  clear hls
  refine g_aload_n rfl rfl ?_
  refine g_getR rfl ms.1 (mr_px ms) ?_
  refine g_iload_n rfl rfl ?_
  refine g_iald (i := 12 * p + q) rfl (mt_px ms) (by omega) (by omega) ?_
  refine g_top (v2 := aI (gx S p q)) (congrArg aI (by exact ((mg.2 p hp).2 q (by omega)).1)) ?_
  refine g_i2l rfl ?_
  refine g_aload_n rfl rfl ?_
  refine g_getR rfl ms.1 (mr_px ms) ?_
  refine g_iload_n rfl rfl ?_
  refine g_iald (i := 12 * p + a) rfl (mt_px ms) (by omega) (by omega) ?_
  refine g_top (v2 := aI (gx S p a)) (congrArg aI (by exact ((mg.2 p hp).2 a (by omega)).1)) ?_
  refine g_i2l rfl ?_
  refine g_aload_n rfl rfl ?_
  refine g_getR rfl ms.1 (mr_px ms) ?_
  refine g_iload_n rfl rfl ?_
  refine g_iald (i := 12 * p + b) rfl (mt_px ms) (by omega) (by omega) ?_
  refine g_top (v2 := aI (gx S p b)) (congrArg aI (by exact ((mg.2 p hp).2 b (by omega)).1)) ?_
  refine g_i2l rfl ?_
  refine g_callSJ [aJ (gx S p a), aJ (gx S p b)] [aJ (gx S p q)] rfl rfl rfl rfl (Nat.le_of_ble_eq_true rfl) (c_les (by omega) (gx S p a) (gx S p b) _) ?_
  rintro r1 hx1 ⟨ehx1, rfl⟩
  rw [ehx1]
  clear ehx1 hx1
  refine g_lc_lt rfl rfl (fun cq24 => ?_) (fun cq24 => ?_)
  · skip
    refine g_iconst rfl ?_
    refine g_istore (l1 := [(4, aI 0), (0, aO (some o)), (1, aI ((12 * p + a : Int))), (2, aI ((12 * p + b : Int))), (3, aI ((12 * p + q : Int)))]) rfl rfl ?_
    refine g_aload_n rfl rfl ?_
    refine g_getR rfl ms.1 (mr_py ms) ?_
    refine g_iload_n rfl rfl ?_
    refine g_iald (i := 12 * p + q) rfl (mt_py ms) (by omega) (by omega) ?_
    refine g_top (v2 := aI (gy S p q)) (congrArg aI (by exact ((mg.2 p hp).2 q (by omega)).2)) ?_
    refine g_i2l rfl ?_
    refine g_aload_n rfl rfl ?_
    refine g_getR rfl ms.1 (mr_py ms) ?_
    refine g_iload_n rfl rfl ?_
    refine g_iald (i := 12 * p + a) rfl (mt_py ms) (by omega) (by omega) ?_
    refine g_top (v2 := aI (gy S p a)) (congrArg aI (by exact ((mg.2 p hp).2 a (by omega)).2)) ?_
    refine g_i2l rfl ?_
    refine g_aload_n rfl rfl ?_
    refine g_getR rfl ms.1 (mr_py ms) ?_
    refine g_iload_n rfl rfl ?_
    refine g_iald (i := 12 * p + b) rfl (mt_py ms) (by omega) (by omega) ?_
    refine g_top (v2 := aI (gy S p b)) (congrArg aI (by exact ((mg.2 p hp).2 b (by omega)).2)) ?_
    refine g_i2l rfl ?_
    refine g_callSJ [aJ (gy S p a), aJ (gy S p b)] [aJ (gy S p q)] rfl rfl rfl rfl (Nat.le_of_ble_eq_true rfl) (c_les (by omega) (gy S p a) (gy S p b) _) ?_
    rintro r2 hx2 ⟨ehx2, rfl⟩
    rw [ehx2]
    clear ehx2 hx2
    refine g_lc_lt rfl rfl (fun cq87 => ?_) (fun cq87 => ?_)
    · skip
      refine g_iconst rfl ?_
      refine g_istore (l1 := [(5, aI 0), (4, aI 0), (0, aO (some o)), (1, aI ((12 * p + a : Int))), (2, aI ((12 * p + b : Int))), (3, aI ((12 * p + q : Int)))]) rfl rfl ?_
      refine g_aload_n rfl rfl ?_
      refine g_iload_n rfl rfl ?_
      refine g_iload_n rfl rfl ?_
      refine g_iload_n rfl rfl ?_
      refine g_callVJ [aI ((12 * p + a : Int)), aI ((12 * p + b : Int)), aI ((12 * p + q : Int))] [] rfl rfl rfl rfl (Nat.le_of_ble_eq_true rfl) ms.1 (m_pgTurn (by omega) ms V mg ok p hp a (by omega) b (by omega) q (by omega)) ?_
      rintro r3 hx3 ⟨ehx3, rfl⟩
      rw [ehx3]
      clear ehx3 hx3
      refine g_lconst0 rfl ?_
      refine g_lc_ne rfl rfl (fun cq134 => ?_) (fun cq134 => ?_)
      · skip
        refine g_iconst rfl ?_
        refine g_zret rfl (by omega) ?_
        refine ⟨rfl, ?_⟩
        unfold gOn btw
        first
          | (rw [if_pos (by omega)]; done)
          | (rw [if_neg (by omega)]; done)
      · skip
        refine g_iload rfl rfl ?_
        refine g_if_eq_t rfl (by omega) ?_
        refine g_iconst rfl ?_
        refine g_zret rfl (by omega) ?_
        refine ⟨rfl, ?_⟩
        unfold gOn btw
        first
          | (rw [if_pos (by omega)]; done)
          | (rw [if_neg (by omega)]; done)
    · skip
      refine g_aload_n rfl rfl ?_
      refine g_getR rfl ms.1 (mr_py ms) ?_
      refine g_iload_n rfl rfl ?_
      refine g_iald (i := 12 * p + q) rfl (mt_py ms) (by omega) (by omega) ?_
      refine g_top (v2 := aI (gy S p q)) (congrArg aI (by exact ((mg.2 p hp).2 q (by omega)).2)) ?_
      refine g_i2l rfl ?_
      refine g_aload_n rfl rfl ?_
      refine g_getR rfl ms.1 (mr_py ms) ?_
      refine g_iload_n rfl rfl ?_
      refine g_iald (i := 12 * p + a) rfl (mt_py ms) (by omega) (by omega) ?_
      refine g_top (v2 := aI (gy S p a)) (congrArg aI (by exact ((mg.2 p hp).2 a (by omega)).2)) ?_
      refine g_i2l rfl ?_
      refine g_aload_n rfl rfl ?_
      refine g_getR rfl ms.1 (mr_py ms) ?_
      refine g_iload_n rfl rfl ?_
      refine g_iald (i := 12 * p + b) rfl (mt_py ms) (by omega) (by omega) ?_
      refine g_top (v2 := aI (gy S p b)) (congrArg aI (by exact ((mg.2 p hp).2 b (by omega)).2)) ?_
      refine g_i2l rfl ?_
      refine g_callSJ [aJ (gy S p a), aJ (gy S p b)] [aJ (gy S p q)] rfl rfl rfl rfl (Nat.le_of_ble_eq_true rfl) (c_grt (by omega) (gy S p a) (gy S p b) _) ?_
      rintro r4 hx4 ⟨ehx4, rfl⟩
      rw [ehx4]
      clear ehx4 hx4
      refine g_lc_gt rfl rfl (fun cq115 => ?_) (fun cq115 => ?_)
      · skip
        refine g_iconst rfl ?_
        refine g_istore (l1 := [(5, aI 0), (4, aI 0), (0, aO (some o)), (1, aI ((12 * p + a : Int))), (2, aI ((12 * p + b : Int))), (3, aI ((12 * p + q : Int)))]) rfl rfl ?_
        refine g_aload_n rfl rfl ?_
        refine g_iload_n rfl rfl ?_
        refine g_iload_n rfl rfl ?_
        refine g_iload_n rfl rfl ?_
        refine g_callVJ [aI ((12 * p + a : Int)), aI ((12 * p + b : Int)), aI ((12 * p + q : Int))] [] rfl rfl rfl rfl (Nat.le_of_ble_eq_true rfl) ms.1 (m_pgTurn (by omega) ms V mg ok p hp a (by omega) b (by omega) q (by omega)) ?_
        rintro r5 hx5 ⟨ehx5, rfl⟩
        rw [ehx5]
        clear ehx5 hx5
        refine g_lconst0 rfl ?_
        refine g_lc_ne rfl rfl (fun cq134 => ?_) (fun cq134 => ?_)
        · skip
          refine g_iconst rfl ?_
          refine g_zret rfl (by omega) ?_
          refine ⟨rfl, ?_⟩
          unfold gOn btw
          first
            | (rw [if_pos (by omega)]; done)
            | (rw [if_neg (by omega)]; done)
        · skip
          refine g_iload rfl rfl ?_
          refine g_if_eq_t rfl (by omega) ?_
          refine g_iconst rfl ?_
          refine g_zret rfl (by omega) ?_
          refine ⟨rfl, ?_⟩
          unfold gOn btw
          first
            | (rw [if_pos (by omega)]; done)
            | (rw [if_neg (by omega)]; done)
      · skip
        refine g_iconst rfl ?_
        refine g_goto rfl ?_
        refine g_istore (l1 := [(5, aI 1), (4, aI 0), (0, aO (some o)), (1, aI ((12 * p + a : Int))), (2, aI ((12 * p + b : Int))), (3, aI ((12 * p + q : Int)))]) rfl rfl ?_
        refine g_aload_n rfl rfl ?_
        refine g_iload_n rfl rfl ?_
        refine g_iload_n rfl rfl ?_
        refine g_iload_n rfl rfl ?_
        refine g_callVJ [aI ((12 * p + a : Int)), aI ((12 * p + b : Int)), aI ((12 * p + q : Int))] [] rfl rfl rfl rfl (Nat.le_of_ble_eq_true rfl) ms.1 (m_pgTurn (by omega) ms V mg ok p hp a (by omega) b (by omega) q (by omega)) ?_
        rintro r6 hx6 ⟨ehx6, rfl⟩
        rw [ehx6]
        clear ehx6 hx6
        refine g_lconst0 rfl ?_
        refine g_lc_ne rfl rfl (fun cq134 => ?_) (fun cq134 => ?_)
        · skip
          refine g_iconst rfl ?_
          refine g_zret rfl (by omega) ?_
          refine ⟨rfl, ?_⟩
          unfold gOn btw
          first
            | (rw [if_pos (by omega)]; done)
            | (rw [if_neg (by omega)]; done)
        · skip
          refine g_iload rfl rfl ?_
          refine g_if_eq_t rfl (by omega) ?_
          refine g_iconst rfl ?_
          refine g_zret rfl (by omega) ?_
          refine ⟨rfl, ?_⟩
          unfold gOn btw
          first
            | (rw [if_pos (by omega)]; done)
            | (rw [if_neg (by omega)]; done)
  · skip
    refine g_aload_n rfl rfl ?_
    refine g_getR rfl ms.1 (mr_px ms) ?_
    refine g_iload_n rfl rfl ?_
    refine g_iald (i := 12 * p + q) rfl (mt_px ms) (by omega) (by omega) ?_
    refine g_top (v2 := aI (gx S p q)) (congrArg aI (by exact ((mg.2 p hp).2 q (by omega)).1)) ?_
    refine g_i2l rfl ?_
    refine g_aload_n rfl rfl ?_
    refine g_getR rfl ms.1 (mr_px ms) ?_
    refine g_iload_n rfl rfl ?_
    refine g_iald (i := 12 * p + a) rfl (mt_px ms) (by omega) (by omega) ?_
    refine g_top (v2 := aI (gx S p a)) (congrArg aI (by exact ((mg.2 p hp).2 a (by omega)).1)) ?_
    refine g_i2l rfl ?_
    refine g_aload_n rfl rfl ?_
    refine g_getR rfl ms.1 (mr_px ms) ?_
    refine g_iload_n rfl rfl ?_
    refine g_iald (i := 12 * p + b) rfl (mt_px ms) (by omega) (by omega) ?_
    refine g_top (v2 := aI (gx S p b)) (congrArg aI (by exact ((mg.2 p hp).2 b (by omega)).1)) ?_
    refine g_i2l rfl ?_
    refine g_callSJ [aJ (gx S p a), aJ (gx S p b)] [aJ (gx S p q)] rfl rfl rfl rfl (Nat.le_of_ble_eq_true rfl) (c_grt (by omega) (gx S p a) (gx S p b) _) ?_
    rintro r7 hx7 ⟨ehx7, rfl⟩
    rw [ehx7]
    clear ehx7 hx7
    refine g_lc_gt rfl rfl (fun cq52 => ?_) (fun cq52 => ?_)
    · skip
      refine g_iconst rfl ?_
      refine g_istore (l1 := [(4, aI 0), (0, aO (some o)), (1, aI ((12 * p + a : Int))), (2, aI ((12 * p + b : Int))), (3, aI ((12 * p + q : Int)))]) rfl rfl ?_
      refine g_aload_n rfl rfl ?_
      refine g_getR rfl ms.1 (mr_py ms) ?_
      refine g_iload_n rfl rfl ?_
      refine g_iald (i := 12 * p + q) rfl (mt_py ms) (by omega) (by omega) ?_
      refine g_top (v2 := aI (gy S p q)) (congrArg aI (by exact ((mg.2 p hp).2 q (by omega)).2)) ?_
      refine g_i2l rfl ?_
      refine g_aload_n rfl rfl ?_
      refine g_getR rfl ms.1 (mr_py ms) ?_
      refine g_iload_n rfl rfl ?_
      refine g_iald (i := 12 * p + a) rfl (mt_py ms) (by omega) (by omega) ?_
      refine g_top (v2 := aI (gy S p a)) (congrArg aI (by exact ((mg.2 p hp).2 a (by omega)).2)) ?_
      refine g_i2l rfl ?_
      refine g_aload_n rfl rfl ?_
      refine g_getR rfl ms.1 (mr_py ms) ?_
      refine g_iload_n rfl rfl ?_
      refine g_iald (i := 12 * p + b) rfl (mt_py ms) (by omega) (by omega) ?_
      refine g_top (v2 := aI (gy S p b)) (congrArg aI (by exact ((mg.2 p hp).2 b (by omega)).2)) ?_
      refine g_i2l rfl ?_
      refine g_callSJ [aJ (gy S p a), aJ (gy S p b)] [aJ (gy S p q)] rfl rfl rfl rfl (Nat.le_of_ble_eq_true rfl) (c_les (by omega) (gy S p a) (gy S p b) _) ?_
      rintro r8 hx8 ⟨ehx8, rfl⟩
      rw [ehx8]
      clear ehx8 hx8
      refine g_lc_lt rfl rfl (fun cq87 => ?_) (fun cq87 => ?_)
      · skip
        refine g_iconst rfl ?_
        refine g_istore (l1 := [(5, aI 0), (4, aI 0), (0, aO (some o)), (1, aI ((12 * p + a : Int))), (2, aI ((12 * p + b : Int))), (3, aI ((12 * p + q : Int)))]) rfl rfl ?_
        refine g_aload_n rfl rfl ?_
        refine g_iload_n rfl rfl ?_
        refine g_iload_n rfl rfl ?_
        refine g_iload_n rfl rfl ?_
        refine g_callVJ [aI ((12 * p + a : Int)), aI ((12 * p + b : Int)), aI ((12 * p + q : Int))] [] rfl rfl rfl rfl (Nat.le_of_ble_eq_true rfl) ms.1 (m_pgTurn (by omega) ms V mg ok p hp a (by omega) b (by omega) q (by omega)) ?_
        rintro r9 hx9 ⟨ehx9, rfl⟩
        rw [ehx9]
        clear ehx9 hx9
        refine g_lconst0 rfl ?_
        refine g_lc_ne rfl rfl (fun cq134 => ?_) (fun cq134 => ?_)
        · skip
          refine g_iconst rfl ?_
          refine g_zret rfl (by omega) ?_
          refine ⟨rfl, ?_⟩
          unfold gOn btw
          first
            | (rw [if_pos (by omega)]; done)
            | (rw [if_neg (by omega)]; done)
        · skip
          refine g_iload rfl rfl ?_
          refine g_if_eq_t rfl (by omega) ?_
          refine g_iconst rfl ?_
          refine g_zret rfl (by omega) ?_
          refine ⟨rfl, ?_⟩
          unfold gOn btw
          first
            | (rw [if_pos (by omega)]; done)
            | (rw [if_neg (by omega)]; done)
      · skip
        refine g_aload_n rfl rfl ?_
        refine g_getR rfl ms.1 (mr_py ms) ?_
        refine g_iload_n rfl rfl ?_
        refine g_iald (i := 12 * p + q) rfl (mt_py ms) (by omega) (by omega) ?_
        refine g_top (v2 := aI (gy S p q)) (congrArg aI (by exact ((mg.2 p hp).2 q (by omega)).2)) ?_
        refine g_i2l rfl ?_
        refine g_aload_n rfl rfl ?_
        refine g_getR rfl ms.1 (mr_py ms) ?_
        refine g_iload_n rfl rfl ?_
        refine g_iald (i := 12 * p + a) rfl (mt_py ms) (by omega) (by omega) ?_
        refine g_top (v2 := aI (gy S p a)) (congrArg aI (by exact ((mg.2 p hp).2 a (by omega)).2)) ?_
        refine g_i2l rfl ?_
        refine g_aload_n rfl rfl ?_
        refine g_getR rfl ms.1 (mr_py ms) ?_
        refine g_iload_n rfl rfl ?_
        refine g_iald (i := 12 * p + b) rfl (mt_py ms) (by omega) (by omega) ?_
        refine g_top (v2 := aI (gy S p b)) (congrArg aI (by exact ((mg.2 p hp).2 b (by omega)).2)) ?_
        refine g_i2l rfl ?_
        refine g_callSJ [aJ (gy S p a), aJ (gy S p b)] [aJ (gy S p q)] rfl rfl rfl rfl (Nat.le_of_ble_eq_true rfl) (c_grt (by omega) (gy S p a) (gy S p b) _) ?_
        rintro r10 hx10 ⟨ehx10, rfl⟩
        rw [ehx10]
        clear ehx10 hx10
        refine g_lc_gt rfl rfl (fun cq115 => ?_) (fun cq115 => ?_)
        · skip
          refine g_iconst rfl ?_
          refine g_istore (l1 := [(5, aI 0), (4, aI 0), (0, aO (some o)), (1, aI ((12 * p + a : Int))), (2, aI ((12 * p + b : Int))), (3, aI ((12 * p + q : Int)))]) rfl rfl ?_
          refine g_aload_n rfl rfl ?_
          refine g_iload_n rfl rfl ?_
          refine g_iload_n rfl rfl ?_
          refine g_iload_n rfl rfl ?_
          refine g_callVJ [aI ((12 * p + a : Int)), aI ((12 * p + b : Int)), aI ((12 * p + q : Int))] [] rfl rfl rfl rfl (Nat.le_of_ble_eq_true rfl) ms.1 (m_pgTurn (by omega) ms V mg ok p hp a (by omega) b (by omega) q (by omega)) ?_
          rintro r11 hx11 ⟨ehx11, rfl⟩
          rw [ehx11]
          clear ehx11 hx11
          refine g_lconst0 rfl ?_
          refine g_lc_ne rfl rfl (fun cq134 => ?_) (fun cq134 => ?_)
          · skip
            refine g_iconst rfl ?_
            refine g_zret rfl (by omega) ?_
            refine ⟨rfl, ?_⟩
            unfold gOn btw
            first
              | (rw [if_pos (by omega)]; done)
              | (rw [if_neg (by omega)]; done)
          · skip
            refine g_iload rfl rfl ?_
            refine g_if_eq_t rfl (by omega) ?_
            refine g_iconst rfl ?_
            refine g_zret rfl (by omega) ?_
            refine ⟨rfl, ?_⟩
            unfold gOn btw
            first
              | (rw [if_pos (by omega)]; done)
              | (rw [if_neg (by omega)]; done)
        · skip
          refine g_iconst rfl ?_
          refine g_goto rfl ?_
          refine g_istore (l1 := [(5, aI 1), (4, aI 0), (0, aO (some o)), (1, aI ((12 * p + a : Int))), (2, aI ((12 * p + b : Int))), (3, aI ((12 * p + q : Int)))]) rfl rfl ?_
          refine g_aload_n rfl rfl ?_
          refine g_iload_n rfl rfl ?_
          refine g_iload_n rfl rfl ?_
          refine g_iload_n rfl rfl ?_
          refine g_callVJ [aI ((12 * p + a : Int)), aI ((12 * p + b : Int)), aI ((12 * p + q : Int))] [] rfl rfl rfl rfl (Nat.le_of_ble_eq_true rfl) ms.1 (m_pgTurn (by omega) ms V mg ok p hp a (by omega) b (by omega) q (by omega)) ?_
          rintro r12 hx12 ⟨ehx12, rfl⟩
          rw [ehx12]
          clear ehx12 hx12
          refine g_lconst0 rfl ?_
          refine g_lc_ne rfl rfl (fun cq134 => ?_) (fun cq134 => ?_)
          · skip
            refine g_iconst rfl ?_
            refine g_zret rfl (by omega) ?_
            refine ⟨rfl, ?_⟩
            unfold gOn btw
            first
              | (rw [if_pos (by omega)]; done)
              | (rw [if_neg (by omega)]; done)
          · skip
            refine g_iload rfl rfl ?_
            refine g_if_eq_t rfl (by omega) ?_
            refine g_iconst rfl ?_
            refine g_zret rfl (by omega) ?_
            refine ⟨rfl, ?_⟩
            unfold gOn btw
            first
              | (rw [if_pos (by omega)]; done)
              | (rw [if_neg (by omega)]; done)
    · skip
      refine g_iconst rfl ?_
      refine g_goto rfl ?_
      refine g_istore (l1 := [(4, aI 1), (0, aO (some o)), (1, aI ((12 * p + a : Int))), (2, aI ((12 * p + b : Int))), (3, aI ((12 * p + q : Int)))]) rfl rfl ?_
      refine g_aload_n rfl rfl ?_
      refine g_getR rfl ms.1 (mr_py ms) ?_
      refine g_iload_n rfl rfl ?_
      refine g_iald (i := 12 * p + q) rfl (mt_py ms) (by omega) (by omega) ?_
      refine g_top (v2 := aI (gy S p q)) (congrArg aI (by exact ((mg.2 p hp).2 q (by omega)).2)) ?_
      refine g_i2l rfl ?_
      refine g_aload_n rfl rfl ?_
      refine g_getR rfl ms.1 (mr_py ms) ?_
      refine g_iload_n rfl rfl ?_
      refine g_iald (i := 12 * p + a) rfl (mt_py ms) (by omega) (by omega) ?_
      refine g_top (v2 := aI (gy S p a)) (congrArg aI (by exact ((mg.2 p hp).2 a (by omega)).2)) ?_
      refine g_i2l rfl ?_
      refine g_aload_n rfl rfl ?_
      refine g_getR rfl ms.1 (mr_py ms) ?_
      refine g_iload_n rfl rfl ?_
      refine g_iald (i := 12 * p + b) rfl (mt_py ms) (by omega) (by omega) ?_
      refine g_top (v2 := aI (gy S p b)) (congrArg aI (by exact ((mg.2 p hp).2 b (by omega)).2)) ?_
      refine g_i2l rfl ?_
      refine g_callSJ [aJ (gy S p a), aJ (gy S p b)] [aJ (gy S p q)] rfl rfl rfl rfl (Nat.le_of_ble_eq_true rfl) (c_les (by omega) (gy S p a) (gy S p b) _) ?_
      rintro r13 hx13 ⟨ehx13, rfl⟩
      rw [ehx13]
      clear ehx13 hx13
      refine g_lc_lt rfl rfl (fun cq87 => ?_) (fun cq87 => ?_)
      · skip
        refine g_iconst rfl ?_
        refine g_istore (l1 := [(5, aI 0), (4, aI 1), (0, aO (some o)), (1, aI ((12 * p + a : Int))), (2, aI ((12 * p + b : Int))), (3, aI ((12 * p + q : Int)))]) rfl rfl ?_
        refine g_aload_n rfl rfl ?_
        refine g_iload_n rfl rfl ?_
        refine g_iload_n rfl rfl ?_
        refine g_iload_n rfl rfl ?_
        refine g_callVJ [aI ((12 * p + a : Int)), aI ((12 * p + b : Int)), aI ((12 * p + q : Int))] [] rfl rfl rfl rfl (Nat.le_of_ble_eq_true rfl) ms.1 (m_pgTurn (by omega) ms V mg ok p hp a (by omega) b (by omega) q (by omega)) ?_
        rintro r14 hx14 ⟨ehx14, rfl⟩
        rw [ehx14]
        clear ehx14 hx14
        refine g_lconst0 rfl ?_
        refine g_lc_ne rfl rfl (fun cq134 => ?_) (fun cq134 => ?_)
        · skip
          refine g_iconst rfl ?_
          refine g_zret rfl (by omega) ?_
          refine ⟨rfl, ?_⟩
          unfold gOn btw
          first
            | (rw [if_pos (by omega)]; done)
            | (rw [if_neg (by omega)]; done)
        · skip
          refine g_iload rfl rfl ?_
          refine g_if_eq_f rfl (by omega) ?_
          refine g_iload rfl rfl ?_
          refine g_if_eq_t rfl (by omega) ?_
          refine g_iconst rfl ?_
          refine g_zret rfl (by omega) ?_
          refine ⟨rfl, ?_⟩
          unfold gOn btw
          first
            | (rw [if_pos (by omega)]; done)
            | (rw [if_neg (by omega)]; done)
      · skip
        refine g_aload_n rfl rfl ?_
        refine g_getR rfl ms.1 (mr_py ms) ?_
        refine g_iload_n rfl rfl ?_
        refine g_iald (i := 12 * p + q) rfl (mt_py ms) (by omega) (by omega) ?_
        refine g_top (v2 := aI (gy S p q)) (congrArg aI (by exact ((mg.2 p hp).2 q (by omega)).2)) ?_
        refine g_i2l rfl ?_
        refine g_aload_n rfl rfl ?_
        refine g_getR rfl ms.1 (mr_py ms) ?_
        refine g_iload_n rfl rfl ?_
        refine g_iald (i := 12 * p + a) rfl (mt_py ms) (by omega) (by omega) ?_
        refine g_top (v2 := aI (gy S p a)) (congrArg aI (by exact ((mg.2 p hp).2 a (by omega)).2)) ?_
        refine g_i2l rfl ?_
        refine g_aload_n rfl rfl ?_
        refine g_getR rfl ms.1 (mr_py ms) ?_
        refine g_iload_n rfl rfl ?_
        refine g_iald (i := 12 * p + b) rfl (mt_py ms) (by omega) (by omega) ?_
        refine g_top (v2 := aI (gy S p b)) (congrArg aI (by exact ((mg.2 p hp).2 b (by omega)).2)) ?_
        refine g_i2l rfl ?_
        refine g_callSJ [aJ (gy S p a), aJ (gy S p b)] [aJ (gy S p q)] rfl rfl rfl rfl (Nat.le_of_ble_eq_true rfl) (c_grt (by omega) (gy S p a) (gy S p b) _) ?_
        rintro r15 hx15 ⟨ehx15, rfl⟩
        rw [ehx15]
        clear ehx15 hx15
        refine g_lc_gt rfl rfl (fun cq115 => ?_) (fun cq115 => ?_)
        · skip
          refine g_iconst rfl ?_
          refine g_istore (l1 := [(5, aI 0), (4, aI 1), (0, aO (some o)), (1, aI ((12 * p + a : Int))), (2, aI ((12 * p + b : Int))), (3, aI ((12 * p + q : Int)))]) rfl rfl ?_
          refine g_aload_n rfl rfl ?_
          refine g_iload_n rfl rfl ?_
          refine g_iload_n rfl rfl ?_
          refine g_iload_n rfl rfl ?_
          refine g_callVJ [aI ((12 * p + a : Int)), aI ((12 * p + b : Int)), aI ((12 * p + q : Int))] [] rfl rfl rfl rfl (Nat.le_of_ble_eq_true rfl) ms.1 (m_pgTurn (by omega) ms V mg ok p hp a (by omega) b (by omega) q (by omega)) ?_
          rintro r16 hx16 ⟨ehx16, rfl⟩
          rw [ehx16]
          clear ehx16 hx16
          refine g_lconst0 rfl ?_
          refine g_lc_ne rfl rfl (fun cq134 => ?_) (fun cq134 => ?_)
          · skip
            refine g_iconst rfl ?_
            refine g_zret rfl (by omega) ?_
            refine ⟨rfl, ?_⟩
            unfold gOn btw
            first
              | (rw [if_pos (by omega)]; done)
              | (rw [if_neg (by omega)]; done)
          · skip
            refine g_iload rfl rfl ?_
            refine g_if_eq_f rfl (by omega) ?_
            refine g_iload rfl rfl ?_
            refine g_if_eq_t rfl (by omega) ?_
            refine g_iconst rfl ?_
            refine g_zret rfl (by omega) ?_
            refine ⟨rfl, ?_⟩
            unfold gOn btw
            first
              | (rw [if_pos (by omega)]; done)
              | (rw [if_neg (by omega)]; done)
        · skip
          refine g_iconst rfl ?_
          refine g_goto rfl ?_
          refine g_istore (l1 := [(5, aI 1), (4, aI 1), (0, aO (some o)), (1, aI ((12 * p + a : Int))), (2, aI ((12 * p + b : Int))), (3, aI ((12 * p + q : Int)))]) rfl rfl ?_
          refine g_aload_n rfl rfl ?_
          refine g_iload_n rfl rfl ?_
          refine g_iload_n rfl rfl ?_
          refine g_iload_n rfl rfl ?_
          refine g_callVJ [aI ((12 * p + a : Int)), aI ((12 * p + b : Int)), aI ((12 * p + q : Int))] [] rfl rfl rfl rfl (Nat.le_of_ble_eq_true rfl) ms.1 (m_pgTurn (by omega) ms V mg ok p hp a (by omega) b (by omega) q (by omega)) ?_
          rintro r17 hx17 ⟨ehx17, rfl⟩
          rw [ehx17]
          clear ehx17 hx17
          refine g_lconst0 rfl ?_
          refine g_lc_ne rfl rfl (fun cq134 => ?_) (fun cq134 => ?_)
          · skip
            refine g_iconst rfl ?_
            refine g_zret rfl (by omega) ?_
            refine ⟨rfl, ?_⟩
            unfold gOn btw
            first
              | (rw [if_pos (by omega)]; done)
              | (rw [if_neg (by omega)]; done)
          · skip
            refine g_iload rfl rfl ?_
            refine g_if_eq_f rfl (by omega) ?_
            refine g_iload rfl rfl ?_
            refine g_if_eq_f rfl (by omega) ?_
            refine g_iconst rfl ?_
            refine g_goto rfl ?_
            refine g_zret rfl (by omega) ?_
            refine ⟨rfl, ?_⟩
            unfold gOn btw
            first
              | (rw [if_pos (by omega)]; done)
              | (rw [if_neg (by omega)]; done)
set_option maxRecDepth 100000 in
theorem m_pgAt0 {w : aW} {d : Nat} (hd : 2 ≤ d) {h : aH} {o : Nat} (ms : MS h o) (V : Nat → Nat → Int) {S : aS} (mg : MG V o S) (ok : OkG S) (p : Nat) (hp : p < sG S) (i : Nat) (hi : i < sGn S p) : WP w d 337 [aO (some o), aI ((p : Int)), aI ((i : Int))] (hw h V) (RI (fun r h1 => h1 = hw h V ∧ r = ((12 * p + i : Nat) : Int))) := by
  obtain ⟨d, rfl⟩ : ∃ d1, d = d1 + 1 := ⟨d - 1, by omega⟩
  refine WP.enter (cd := cd_X12_at) rfl ?_
  have hok := ok.1
  have hok2 := (ok.2 p hp).1
  have hmm : (i) % sGn S p < sGn S p := Nat.mod_lt _ (by omega)
  have hls : largs 0 [aO (some o), aI ((p : Int)), aI ((i : Int))] = [(0, aO (some o)), (1, aI ((p : Int))), (2, aI ((i : Int)))] := rfl
  rw [hls]
  clear hls
  refine g_bipush rfl ?_
  refine g_iload_n rfl rfl ?_
  refine g_imul rfl (by omega) (by omega) ?_
  refine g_iload_n rfl rfl ?_
  refine g_aload_n rfl rfl ?_
  refine g_getR rfl ms.1 (mr_corners ms) ?_
  refine g_iload_n rfl rfl ?_
  refine g_iald (i := p) rfl (mt_corners ms) (by omega) (by omega) ?_
  refine g_top (v2 := aI ((sGn S p : Int))) (congrArg aI (by exact (mg.2 p hp).1)) ?_
  refine g_iremN (m := (sGn S p)) (n := i) rfl (by omega) ?_
  refine g_iadd rfl (by omega) (by omega) ?_
  refine g_iret rfl ?_
  refine ⟨rfl, ?_⟩
  rw [mod0 hi]
  omega
set_option maxRecDepth 100000 in
theorem m_pgAt1 {w : aW} {d : Nat} (hd : 2 ≤ d) {h : aH} {o : Nat} (ms : MS h o) (V : Nat → Nat → Int) {S : aS} (mg : MG V o S) (ok : OkG S) (p : Nat) (hp : p < sG S) (i : Nat) (hi : i < sGn S p) : WP w d 337 [aO (some o), aI ((p : Int)), aI ((i : Int) + 1)] (hw h V) (RI (fun r h1 => h1 = hw h V ∧ r = ((12 * p + gAft S p i : Nat) : Int))) := by
  obtain ⟨d, rfl⟩ : ∃ d1, d = d1 + 1 := ⟨d - 1, by omega⟩
  refine WP.enter (cd := cd_X12_at) rfl ?_
  have hok := ok.1
  have hok2 := (ok.2 p hp).1
  have hmm : (i + 1) % sGn S p < sGn S p := Nat.mod_lt _ (by omega)
  have hls : largs 0 [aO (some o), aI ((p : Int)), aI ((i : Int) + 1)] = [(0, aO (some o)), (1, aI ((p : Int))), (2, aI ((i : Int) + 1))] := rfl
  rw [hls]
  clear hls
  refine g_bipush rfl ?_
  refine g_iload_n rfl rfl ?_
  refine g_imul rfl (by omega) (by omega) ?_
  refine g_iload_n rfl rfl ?_
  refine g_aload_n rfl rfl ?_
  refine g_getR rfl ms.1 (mr_corners ms) ?_
  refine g_iload_n rfl rfl ?_
  refine g_iald (i := p) rfl (mt_corners ms) (by omega) (by omega) ?_
  refine g_top (v2 := aI ((sGn S p : Int))) (congrArg aI (by exact (mg.2 p hp).1)) ?_
  refine g_iremN (m := (sGn S p)) (n := (i + 1)) rfl (by omega) ?_
  refine g_iadd rfl (by omega) (by omega) ?_
  refine g_iret rfl ?_
  refine ⟨rfl, ?_⟩
  rw [mod1 hi]
  omega
set_option maxRecDepth 100000 in
theorem m_pgAt2 {w : aW} {d : Nat} (hd : 2 ≤ d) {h : aH} {o : Nat} (ms : MS h o) (V : Nat → Nat → Int) {S : aS} (mg : MG V o S) (ok : OkG S) (p : Nat) (hp : p < sG S) (i : Nat) (hi : i < sGn S p) : WP w d 337 [aO (some o), aI ((p : Int)), aI ((i : Int) + 2)] (hw h V) (RI (fun r h1 => h1 = hw h V ∧ r = ((12 * p + gAft S p (gAft S p i) : Nat) : Int))) := by
  obtain ⟨d, rfl⟩ : ∃ d1, d = d1 + 1 := ⟨d - 1, by omega⟩
  refine WP.enter (cd := cd_X12_at) rfl ?_
  have hok := ok.1
  have hok2 := (ok.2 p hp).1
  have hmm : (i + 2) % sGn S p < sGn S p := Nat.mod_lt _ (by omega)
  have hls : largs 0 [aO (some o), aI ((p : Int)), aI ((i : Int) + 2)] = [(0, aO (some o)), (1, aI ((p : Int))), (2, aI ((i : Int) + 2))] := rfl
  rw [hls]
  clear hls
  refine g_bipush rfl ?_
  refine g_iload_n rfl rfl ?_
  refine g_imul rfl (by omega) (by omega) ?_
  refine g_iload_n rfl rfl ?_
  refine g_aload_n rfl rfl ?_
  refine g_getR rfl ms.1 (mr_corners ms) ?_
  refine g_iload_n rfl rfl ?_
  refine g_iald (i := p) rfl (mt_corners ms) (by omega) (by omega) ?_
  refine g_top (v2 := aI ((sGn S p : Int))) (congrArg aI (by exact (mg.2 p hp).1)) ?_
  refine g_iremN (m := (sGn S p)) (n := (i + 2)) rfl (by omega) ?_
  refine g_iadd rfl (by omega) (by omega) ?_
  refine g_iret rfl ?_
  refine ⟨rfl, ?_⟩
  rw [mod2 hi]
  omega
set_option maxRecDepth 100000 in
theorem m_pgOther {w : aW} {d : Nat} (hd : 2 ≤ d) {h : aH} {o : Nat} (ms : MS h o) (V : Nat → Nat → Int) {S : aS} (mg : MG V o S) (ok : OkG S) (p : Nat) (hp : p < sG S) (a : Nat) (ha : a < sGn S p) (b : Nat) (hb : b < sGn S p) : WP w d 340 [aO (some o), aI ((12 * p + a : Int)), aI ((12 * p + b : Int))] (hw h V) (RI (fun r h1 => h1 = hw h V ∧ r = if ¬ gSame S p a b then 1 else 0)) := by
  obtain ⟨d, rfl⟩ : ∃ d1, d = d1 + 1 := ⟨d - 1, by omega⟩
  refine WP.enter (cd := cd_X12_isOther) rfl ?_
  have hok := ok.1
  have hok2 := (ok.2 p hp).1
  have hls : largs 0 [aO (some o), aI ((12 * p + a : Int)), aI ((12 * p + b : Int))] = [(0, aO (some o)), (1, aI ((12 * p + a : Int))), (2, aI ((12 * p + b : Int)))] := rfl
  rw [hls]
  clear hls
  refine g_aload_n rfl rfl ?_
  refine g_getR rfl ms.1 (mr_px ms) ?_
  refine g_iload_n rfl rfl ?_
  refine g_iald (i := 12 * p + a) rfl (mt_px ms) (by omega) (by omega) ?_
  refine g_top (v2 := aI (gx S p a)) (congrArg aI (by exact ((mg.2 p hp).2 a (by omega)).1)) ?_
  refine g_aload_n rfl rfl ?_
  refine g_getR rfl ms.1 (mr_px ms) ?_
  refine g_iload_n rfl rfl ?_
  refine g_iald (i := 12 * p + b) rfl (mt_px ms) (by omega) (by omega) ?_
  refine g_top (v2 := aI (gx S p b)) (congrArg aI (by exact ((mg.2 p hp).2 b (by omega)).1)) ?_
  refine g_icmp_ne rfl (fun cq12 => ?_) (fun cq12 => ?_)
  · skip
    refine g_iconst rfl ?_
    refine g_goto rfl ?_
    refine g_zret rfl (by omega) ?_
    refine ⟨rfl, ?_⟩
    unfold gSame
    first
      | (rw [if_pos (by omega)]; done)
      | (rw [if_neg (by omega)]; done)
  · skip
    refine g_aload_n rfl rfl ?_
    refine g_getR rfl ms.1 (mr_py ms) ?_
    refine g_iload_n rfl rfl ?_
    refine g_iald (i := 12 * p + a) rfl (mt_py ms) (by omega) (by omega) ?_
    refine g_top (v2 := aI (gy S p a)) (congrArg aI (by exact ((mg.2 p hp).2 a (by omega)).2)) ?_
    refine g_aload_n rfl rfl ?_
    refine g_getR rfl ms.1 (mr_py ms) ?_
    refine g_iload_n rfl rfl ?_
    refine g_iald (i := 12 * p + b) rfl (mt_py ms) (by omega) (by omega) ?_
    refine g_top (v2 := aI (gy S p b)) (congrArg aI (by exact ((mg.2 p hp).2 b (by omega)).2)) ?_
    refine g_icmp_eq rfl (fun cq27 => ?_) (fun cq27 => ?_)
    · skip
      refine g_iconst rfl ?_
      refine g_zret rfl (by omega) ?_
      refine ⟨rfl, ?_⟩
      unfold gSame
      first
        | (rw [if_pos (by omega)]; done)
        | (rw [if_neg (by omega)]; done)
    · skip
      refine g_iconst rfl ?_
      refine g_goto rfl ?_
      refine g_zret rfl (by omega) ?_
      refine ⟨rfl, ?_⟩
      unfold gSame
      first
        | (rw [if_pos (by omega)]; done)
        | (rw [if_neg (by omega)]; done)
theorem sgn_bd {v u : Int} : -1 ≤ (if 0 < v then (1 : Int) else if v < 0 then -1 else 0) * (if 0 < u then 1 else if u < 0 then -1 else 0) ∧ (if 0 < v then (1 : Int) else if v < 0 then -1 else 0) * (if 0 < u then 1 else if u < 0 then -1 else 0) ≤ 1 := by
  have h : ∀ w : Int, -1 ≤ (if 0 < w then (1 : Int) else if w < 0 then -1 else 0) ∧ (if 0 < w then (1 : Int) else if w < 0 then -1 else 0) ≤ 1 := by
    intro w
    by_cases a : 0 < w
    · rw [if_pos a]
      omega
    · rw [if_neg a]
      by_cases b : w < 0
      · rw [if_pos b]
        omega
      · rw [if_neg b]
        omega
  exact mulq (a := 1) (b := 1) (h v) (h u)
theorem sgn_opp {v u : Int} : (if 0 < v then (1 : Int) else if v < 0 then -1 else 0) * (if 0 < u then 1 else if u < 0 then -1 else 0) < 0 ↔ opp v u := by
  unfold opp
  have key : ∀ k : Int, (k = 1 ∨ k = 0 ∨ k = -1) → (k * (if 0 < u then 1 else if u < 0 then -1 else 0) < 0 ↔ (k = -1 ∧ 0 < u) ∨ (k = 1 ∧ u < 0)) := by
    intro k hk
    by_cases b : 0 < u
    · rw [if_pos b]
      omega
    · rw [if_neg b]
      by_cases c : u < 0
      · rw [if_pos c]
        omega
      · rw [if_neg c]
        omega
  by_cases a : 0 < v
  · rw [if_pos a, key 1 (Or.inl rfl)]
    omega
  · rw [if_neg a]
    by_cases a2 : v < 0
    · rw [if_pos a2, key (-1) (Or.inr (Or.inr rfl))]
      omega
    · rw [if_neg a2, key 0 (Or.inr (Or.inl rfl))]
      omega
set_option maxRecDepth 100000 in
theorem m_pgMeets {w : aW} {d : Nat} (hd : 4 ≤ d) {h : aH} {o : Nat} (ms : MS h o) (V : Nat → Nat → Int) {S : aS} (mg : MG V o S) (ok : OkG S) (p : Nat) (hp : p < sG S) (a : Nat) (ha : a < sGn S p) (b : Nat) (hb : b < sGn S p) (q : Nat) (hq : q < sGn S p) (t : Nat) (ht : t < sGn S p) : WP w d 336 [aO (some o), aI ((12 * p + a : Int)), aI ((12 * p + b : Int)), aI ((12 * p + q : Int)), aI ((12 * p + t : Int))] (hw h V) (RI (fun r h1 => h1 = hw h V ∧ r = if gMeet S p a b q t then 1 else 0)) := by
  obtain ⟨d, rfl⟩ : ∃ d1, d = d1 + 1 := ⟨d - 1, by omega⟩
  refine WP.enter (cd := cd_X12_meets) rfl ?_
  have hls : largs 0 [aO (some o), aI ((12 * p + a : Int)), aI ((12 * p + b : Int)), aI ((12 * p + q : Int)), aI ((12 * p + t : Int))] = [(0, aO (some o)), (1, aI ((12 * p + a : Int))), (2, aI ((12 * p + b : Int))), (3, aI ((12 * p + q : Int))), (4, aI ((12 * p + t : Int)))] := rfl
  rw [hls]
  clear hls
  refine g_aload_n rfl rfl ?_
  refine g_iload_n rfl rfl ?_
  refine g_iload_n rfl rfl ?_
  refine g_iload_n rfl rfl ?_
  refine g_callVI [aI ((12 * p + a : Int)), aI ((12 * p + b : Int)), aI ((12 * p + q : Int))] [] rfl rfl rfl rfl (Nat.le_of_ble_eq_true rfl) ms.1 (m_pgOn (by omega) ms V mg ok p hp a (by omega) b (by omega) q (by omega)) ?_
  rintro r1 hx1 ⟨ehx1, rfl⟩
  rw [ehx1]
  clear ehx1 hx1
  refine g_b_ne rfl (fun cq7 => ?_) (fun cq7 => ?_)
  · skip
    refine g_iconst rfl ?_
    refine g_zret rfl (by omega) ?_
    refine ⟨rfl, (if_pos (Or.inr ?_)).symm⟩
    first
      | (exact Or.inl cq7)
      | (exact Or.inr (Or.inl cq18))
      | (exact Or.inr (Or.inr (Or.inl cq29)))
      | (exact Or.inr (Or.inr (Or.inr cq40)))
  · skip
    refine g_aload_n rfl rfl ?_
    refine g_iload_n rfl rfl ?_
    refine g_iload_n rfl rfl ?_
    refine g_iload rfl rfl ?_
    refine g_callVI [aI ((12 * p + a : Int)), aI ((12 * p + b : Int)), aI ((12 * p + t : Int))] [] rfl rfl rfl rfl (Nat.le_of_ble_eq_true rfl) ms.1 (m_pgOn (by omega) ms V mg ok p hp a (by omega) b (by omega) t (by omega)) ?_
    rintro r2 hx2 ⟨ehx2, rfl⟩
    rw [ehx2]
    clear ehx2 hx2
    refine g_b_ne rfl (fun cq18 => ?_) (fun cq18 => ?_)
    · skip
      refine g_iconst rfl ?_
      refine g_zret rfl (by omega) ?_
      refine ⟨rfl, (if_pos (Or.inr ?_)).symm⟩
      first
        | (exact Or.inl cq7)
        | (exact Or.inr (Or.inl cq18))
        | (exact Or.inr (Or.inr (Or.inl cq29)))
        | (exact Or.inr (Or.inr (Or.inr cq40)))
    · skip
      refine g_aload_n rfl rfl ?_
      refine g_iload_n rfl rfl ?_
      refine g_iload rfl rfl ?_
      refine g_iload_n rfl rfl ?_
      refine g_callVI [aI ((12 * p + q : Int)), aI ((12 * p + t : Int)), aI ((12 * p + a : Int))] [] rfl rfl rfl rfl (Nat.le_of_ble_eq_true rfl) ms.1 (m_pgOn (by omega) ms V mg ok p hp q (by omega) t (by omega) a (by omega)) ?_
      rintro r3 hx3 ⟨ehx3, rfl⟩
      rw [ehx3]
      clear ehx3 hx3
      refine g_b_ne rfl (fun cq29 => ?_) (fun cq29 => ?_)
      · skip
        refine g_iconst rfl ?_
        refine g_zret rfl (by omega) ?_
        refine ⟨rfl, (if_pos (Or.inr ?_)).symm⟩
        first
          | (exact Or.inl cq7)
          | (exact Or.inr (Or.inl cq18))
          | (exact Or.inr (Or.inr (Or.inl cq29)))
          | (exact Or.inr (Or.inr (Or.inr cq40)))
      · skip
        refine g_aload_n rfl rfl ?_
        refine g_iload_n rfl rfl ?_
        refine g_iload rfl rfl ?_
        refine g_iload_n rfl rfl ?_
        refine g_callVI [aI ((12 * p + q : Int)), aI ((12 * p + t : Int)), aI ((12 * p + b : Int))] [] rfl rfl rfl rfl (Nat.le_of_ble_eq_true rfl) ms.1 (m_pgOn (by omega) ms V mg ok p hp q (by omega) t (by omega) b (by omega)) ?_
        rintro r4 hx4 ⟨ehx4, rfl⟩
        rw [ehx4]
        clear ehx4 hx4
        refine g_b_eq rfl (fun cq40 => ?_) (fun cq40 => ?_)
        · skip
          refine g_aload_n rfl rfl ?_
          refine g_iload_n rfl rfl ?_
          refine g_iload_n rfl rfl ?_
          refine g_iload_n rfl rfl ?_
          refine g_callVJ [aI ((12 * p + a : Int)), aI ((12 * p + b : Int)), aI ((12 * p + q : Int))] [] rfl rfl rfl rfl (Nat.le_of_ble_eq_true rfl) ms.1 (m_pgTurn (by omega) ms V mg ok p hp a (by omega) b (by omega) q (by omega)) ?_
          rintro r5 hx5 ⟨ehx5, rfl⟩
          rw [ehx5]
          clear ehx5 hx5
          refine g_callSI [aJ (gT S p a b q)] [] rfl rfl rfl rfl (Nat.le_of_ble_eq_true rfl) (c_sgn (by omega) (gT S p a b q) _) ?_
          rintro r6 hx6 ⟨ehx6, rfl⟩
          rw [ehx6]
          clear ehx6 hx6
          refine g_aload_n rfl rfl ?_
          refine g_iload_n rfl rfl ?_
          refine g_iload_n rfl rfl ?_
          refine g_iload rfl rfl ?_
          refine g_callVJ [aI ((12 * p + a : Int)), aI ((12 * p + b : Int)), aI ((12 * p + t : Int))] [aI ((if 0 < (gT S p a b q) then 1 else if (gT S p a b q) < 0 then -1 else 0))] rfl rfl rfl rfl (Nat.le_of_ble_eq_true rfl) ms.1 (m_pgTurn (by omega) ms V mg ok p hp a (by omega) b (by omega) t (by omega)) ?_
          rintro r7 hx7 ⟨ehx7, rfl⟩
          rw [ehx7]
          clear ehx7 hx7
          refine g_callSI [aJ (gT S p a b t)] [aI ((if 0 < (gT S p a b q) then 1 else if (gT S p a b q) < 0 then -1 else 0))] rfl rfl rfl rfl (Nat.le_of_ble_eq_true rfl) (c_sgn (by omega) (gT S p a b t) _) ?_
          rintro r8 hx8 ⟨ehx8, rfl⟩
          rw [ehx8]
          clear ehx8 hx8
          have e1 := @sgn_opp (gT S p a b q) (gT S p a b t)
          have b1 := @sgn_bd (gT S p a b q) (gT S p a b t)
          refine g_imul rfl (by omega) (by omega) ?_
          refine g_if_ge rfl (fun cq67 => ?_) (fun cq67 => ?_)
          · skip
            refine g_iconst rfl ?_
            refine g_zret rfl (by omega) ?_
            refine ⟨rfl, ?_⟩
            first
              | (refine (if_pos ?_).symm; refine (Or.inl ⟨e1.mp ?_, e2.mp ?_⟩) <;> omega)
              | (refine (if_neg ?_).symm; intro z; exact z.elim (fun y => by have := e1.mpr y.1; omega) (fun y => y.elim cq7 (fun y => y.elim cq18 (fun y => y.elim cq29 cq40))))
              | (refine (if_neg ?_).symm; intro z; exact z.elim (fun y => by have := e2.mpr y.2; omega) (fun y => y.elim cq7 (fun y => y.elim cq18 (fun y => y.elim cq29 cq40))))
          · skip
            refine g_aload_n rfl rfl ?_
            refine g_iload_n rfl rfl ?_
            refine g_iload rfl rfl ?_
            refine g_iload_n rfl rfl ?_
            refine g_callVJ [aI ((12 * p + q : Int)), aI ((12 * p + t : Int)), aI ((12 * p + a : Int))] [] rfl rfl rfl rfl (Nat.le_of_ble_eq_true rfl) ms.1 (m_pgTurn (by omega) ms V mg ok p hp q (by omega) t (by omega) a (by omega)) ?_
            rintro r9 hx9 ⟨ehx9, rfl⟩
            rw [ehx9]
            clear ehx9 hx9
            refine g_callSI [aJ (gT S p q t a)] [] rfl rfl rfl rfl (Nat.le_of_ble_eq_true rfl) (c_sgn (by omega) (gT S p q t a) _) ?_
            rintro r10 hx10 ⟨ehx10, rfl⟩
            rw [ehx10]
            clear ehx10 hx10
            refine g_aload_n rfl rfl ?_
            refine g_iload_n rfl rfl ?_
            refine g_iload rfl rfl ?_
            refine g_iload_n rfl rfl ?_
            refine g_callVJ [aI ((12 * p + q : Int)), aI ((12 * p + t : Int)), aI ((12 * p + b : Int))] [aI ((if 0 < (gT S p q t a) then 1 else if (gT S p q t a) < 0 then -1 else 0))] rfl rfl rfl rfl (Nat.le_of_ble_eq_true rfl) ms.1 (m_pgTurn (by omega) ms V mg ok p hp q (by omega) t (by omega) b (by omega)) ?_
            rintro r11 hx11 ⟨ehx11, rfl⟩
            rw [ehx11]
            clear ehx11 hx11
            refine g_callSI [aJ (gT S p q t b)] [aI ((if 0 < (gT S p q t a) then 1 else if (gT S p q t a) < 0 then -1 else 0))] rfl rfl rfl rfl (Nat.le_of_ble_eq_true rfl) (c_sgn (by omega) (gT S p q t b) _) ?_
            rintro r12 hx12 ⟨ehx12, rfl⟩
            rw [ehx12]
            clear ehx12 hx12
            have e2 := @sgn_opp (gT S p q t a) (gT S p q t b)
            have b2 := @sgn_bd (gT S p q t a) (gT S p q t b)
            refine g_imul rfl (by omega) (by omega) ?_
            refine g_if_ge rfl (fun cq93 => ?_) (fun cq93 => ?_)
            · skip
              refine g_iconst rfl ?_
              refine g_zret rfl (by omega) ?_
              refine ⟨rfl, ?_⟩
              first
                | (refine (if_pos ?_).symm; refine (Or.inl ⟨e1.mp ?_, e2.mp ?_⟩) <;> omega)
                | (refine (if_neg ?_).symm; intro z; exact z.elim (fun y => by have := e1.mpr y.1; omega) (fun y => y.elim cq7 (fun y => y.elim cq18 (fun y => y.elim cq29 cq40))))
                | (refine (if_neg ?_).symm; intro z; exact z.elim (fun y => by have := e2.mpr y.2; omega) (fun y => y.elim cq7 (fun y => y.elim cq18 (fun y => y.elim cq29 cq40))))
            · skip
              refine g_iconst rfl ?_
              refine g_goto rfl ?_
              refine g_zret rfl (by omega) ?_
              refine ⟨rfl, ?_⟩
              first
                | (refine (if_pos ?_).symm; refine (Or.inl ⟨e1.mp ?_, e2.mp ?_⟩) <;> omega)
                | (refine (if_neg ?_).symm; intro z; exact z.elim (fun y => by have := e1.mpr y.1; omega) (fun y => y.elim cq7 (fun y => y.elim cq18 (fun y => y.elim cq29 cq40))))
                | (refine (if_neg ?_).symm; intro z; exact z.elim (fun y => by have := e2.mpr y.2; omega) (fun y => y.elim cq7 (fun y => y.elim cq18 (fun y => y.elim cq29 cq40))))
        · skip
          refine g_iconst rfl ?_
          refine g_zret rfl (by omega) ?_
          refine ⟨rfl, (if_pos (Or.inr ?_)).symm⟩
          first
            | (exact Or.inl cq7)
            | (exact Or.inr (Or.inl cq18))
            | (exact Or.inr (Or.inr (Or.inl cq29)))
            | (exact Or.inr (Or.inr (Or.inr cq40)))
set_option maxRecDepth 100000 in
theorem m_pgOnly {w : aW} {d : Nat} (hd : 4 ≤ d) {h : aH} {o : Nat} (ms : MS h o) (V : Nat → Nat → Int) {S : aS} (mg : MG V o S) (ok : OkG S) (p : Nat) (hp : p < sG S) (a : Nat) (ha : a < sGn S p) (b : Nat) (hb : b < sGn S p) (q : Nat) (hq : q < sGn S p) : WP w d 339 [aO (some o), aI ((12 * p + a : Int)), aI ((12 * p + b : Int)), aI ((12 * p + q : Int))] (hw h V) (RI (fun r h1 => h1 = hw h V ∧ r = if ¬(¬ gSame S p q b ∧ gOn S p a b q) ∧ ¬(¬ gSame S p a b ∧ gOn S p b q a) then 1 else 0)) := by
  obtain ⟨d, rfl⟩ : ∃ d1, d = d1 + 1 := ⟨d - 1, by omega⟩
  refine WP.enter (cd := cd_X12_isOnlyCorner) rfl ?_
  have hls : largs 0 [aO (some o), aI ((12 * p + a : Int)), aI ((12 * p + b : Int)), aI ((12 * p + q : Int))] = [(0, aO (some o)), (1, aI ((12 * p + a : Int))), (2, aI ((12 * p + b : Int))), (3, aI ((12 * p + q : Int)))] := rfl
  rw [hls]
  clear hls
  refine g_aload_n rfl rfl ?_
  refine g_iload_n rfl rfl ?_
  refine g_iload_n rfl rfl ?_
  refine g_callVI [aI ((12 * p + q : Int)), aI ((12 * p + b : Int))] [] rfl rfl rfl rfl (Nat.le_of_ble_eq_true rfl) ms.1 (m_pgOther (by omega) ms V mg ok p hp q (by omega) b (by omega)) ?_
  rintro r1 hx1 ⟨ehx1, rfl⟩
  rw [ehx1]
  clear ehx1 hx1
  refine g_b_eq rfl (fun cq6 => ?_) (fun cq6 => ?_)
  · skip
    refine g_aload_n rfl rfl ?_
    refine g_iload_n rfl rfl ?_
    refine g_iload_n rfl rfl ?_
    refine g_callVI [aI ((12 * p + a : Int)), aI ((12 * p + b : Int))] [] rfl rfl rfl rfl (Nat.le_of_ble_eq_true rfl) ms.1 (m_pgOther (by omega) ms V mg ok p hp a (by omega) b (by omega)) ?_
    rintro r2 hx2 ⟨ehx2, rfl⟩
    rw [ehx2]
    clear ehx2 hx2
    refine g_b_eq rfl (fun cq25 => ?_) (fun cq25 => ?_)
    · skip
      refine g_iconst rfl ?_
      refine g_goto rfl ?_
      refine g_zret rfl (by omega) ?_
      refine ⟨rfl, ?_⟩
      first
        | (refine (if_neg ?_).symm; intro z; exact z.1 ⟨cq6, cq16⟩)
        | (refine (if_neg ?_).symm; intro z; exact z.2 ⟨cq25, cq35⟩)
        | (refine (if_pos ?_).symm; exact ⟨fun z => cq6 z.1, fun z => cq25 z.1⟩)
        | (refine (if_pos ?_).symm; exact ⟨fun z => cq6 z.1, fun z => cq35 z.2⟩)
        | (refine (if_pos ?_).symm; exact ⟨fun z => cq16 z.2, fun z => cq25 z.1⟩)
        | (refine (if_pos ?_).symm; exact ⟨fun z => cq16 z.2, fun z => cq35 z.2⟩)
    · skip
      refine g_aload_n rfl rfl ?_
      refine g_iload_n rfl rfl ?_
      refine g_iload_n rfl rfl ?_
      refine g_iload_n rfl rfl ?_
      refine g_callVI [aI ((12 * p + b : Int)), aI ((12 * p + q : Int)), aI ((12 * p + a : Int))] [] rfl rfl rfl rfl (Nat.le_of_ble_eq_true rfl) ms.1 (m_pgOn (by omega) ms V mg ok p hp b (by omega) q (by omega) a (by omega)) ?_
      rintro r3 hx3 ⟨ehx3, rfl⟩
      rw [ehx3]
      clear ehx3 hx3
      refine g_b_ne rfl (fun cq35 => ?_) (fun cq35 => ?_)
      · skip
        refine g_iconst rfl ?_
        refine g_zret rfl (by omega) ?_
        refine ⟨rfl, ?_⟩
        first
          | (refine (if_neg ?_).symm; intro z; exact z.1 ⟨cq6, cq16⟩)
          | (refine (if_neg ?_).symm; intro z; exact z.2 ⟨cq25, cq35⟩)
          | (refine (if_pos ?_).symm; exact ⟨fun z => cq6 z.1, fun z => cq25 z.1⟩)
          | (refine (if_pos ?_).symm; exact ⟨fun z => cq6 z.1, fun z => cq35 z.2⟩)
          | (refine (if_pos ?_).symm; exact ⟨fun z => cq16 z.2, fun z => cq25 z.1⟩)
          | (refine (if_pos ?_).symm; exact ⟨fun z => cq16 z.2, fun z => cq35 z.2⟩)
      · skip
        refine g_iconst rfl ?_
        refine g_goto rfl ?_
        refine g_zret rfl (by omega) ?_
        refine ⟨rfl, ?_⟩
        first
          | (refine (if_neg ?_).symm; intro z; exact z.1 ⟨cq6, cq16⟩)
          | (refine (if_neg ?_).symm; intro z; exact z.2 ⟨cq25, cq35⟩)
          | (refine (if_pos ?_).symm; exact ⟨fun z => cq6 z.1, fun z => cq25 z.1⟩)
          | (refine (if_pos ?_).symm; exact ⟨fun z => cq6 z.1, fun z => cq35 z.2⟩)
          | (refine (if_pos ?_).symm; exact ⟨fun z => cq16 z.2, fun z => cq25 z.1⟩)
          | (refine (if_pos ?_).symm; exact ⟨fun z => cq16 z.2, fun z => cq35 z.2⟩)
  · skip
    refine g_aload_n rfl rfl ?_
    refine g_iload_n rfl rfl ?_
    refine g_iload_n rfl rfl ?_
    refine g_iload_n rfl rfl ?_
    refine g_callVI [aI ((12 * p + a : Int)), aI ((12 * p + b : Int)), aI ((12 * p + q : Int))] [] rfl rfl rfl rfl (Nat.le_of_ble_eq_true rfl) ms.1 (m_pgOn (by omega) ms V mg ok p hp a (by omega) b (by omega) q (by omega)) ?_
    rintro r4 hx4 ⟨ehx4, rfl⟩
    rw [ehx4]
    clear ehx4 hx4
    refine g_b_ne rfl (fun cq16 => ?_) (fun cq16 => ?_)
    · skip
      refine g_iconst rfl ?_
      refine g_zret rfl (by omega) ?_
      refine ⟨rfl, ?_⟩
      first
        | (refine (if_neg ?_).symm; intro z; exact z.1 ⟨cq6, cq16⟩)
        | (refine (if_neg ?_).symm; intro z; exact z.2 ⟨cq25, cq35⟩)
        | (refine (if_pos ?_).symm; exact ⟨fun z => cq6 z.1, fun z => cq25 z.1⟩)
        | (refine (if_pos ?_).symm; exact ⟨fun z => cq6 z.1, fun z => cq35 z.2⟩)
        | (refine (if_pos ?_).symm; exact ⟨fun z => cq16 z.2, fun z => cq25 z.1⟩)
        | (refine (if_pos ?_).symm; exact ⟨fun z => cq16 z.2, fun z => cq35 z.2⟩)
    · skip
      refine g_aload_n rfl rfl ?_
      refine g_iload_n rfl rfl ?_
      refine g_iload_n rfl rfl ?_
      refine g_callVI [aI ((12 * p + a : Int)), aI ((12 * p + b : Int))] [] rfl rfl rfl rfl (Nat.le_of_ble_eq_true rfl) ms.1 (m_pgOther (by omega) ms V mg ok p hp a (by omega) b (by omega)) ?_
      rintro r5 hx5 ⟨ehx5, rfl⟩
      rw [ehx5]
      clear ehx5 hx5
      refine g_b_eq rfl (fun cq25 => ?_) (fun cq25 => ?_)
      · skip
        refine g_iconst rfl ?_
        refine g_goto rfl ?_
        refine g_zret rfl (by omega) ?_
        refine ⟨rfl, ?_⟩
        first
          | (refine (if_neg ?_).symm; intro z; exact z.1 ⟨cq6, cq16⟩)
          | (refine (if_neg ?_).symm; intro z; exact z.2 ⟨cq25, cq35⟩)
          | (refine (if_pos ?_).symm; exact ⟨fun z => cq6 z.1, fun z => cq25 z.1⟩)
          | (refine (if_pos ?_).symm; exact ⟨fun z => cq6 z.1, fun z => cq35 z.2⟩)
          | (refine (if_pos ?_).symm; exact ⟨fun z => cq16 z.2, fun z => cq25 z.1⟩)
          | (refine (if_pos ?_).symm; exact ⟨fun z => cq16 z.2, fun z => cq35 z.2⟩)
      · skip
        refine g_aload_n rfl rfl ?_
        refine g_iload_n rfl rfl ?_
        refine g_iload_n rfl rfl ?_
        refine g_iload_n rfl rfl ?_
        refine g_callVI [aI ((12 * p + b : Int)), aI ((12 * p + q : Int)), aI ((12 * p + a : Int))] [] rfl rfl rfl rfl (Nat.le_of_ble_eq_true rfl) ms.1 (m_pgOn (by omega) ms V mg ok p hp b (by omega) q (by omega) a (by omega)) ?_
        rintro r6 hx6 ⟨ehx6, rfl⟩
        rw [ehx6]
        clear ehx6 hx6
        refine g_b_ne rfl (fun cq35 => ?_) (fun cq35 => ?_)
        · skip
          refine g_iconst rfl ?_
          refine g_zret rfl (by omega) ?_
          refine ⟨rfl, ?_⟩
          first
            | (refine (if_neg ?_).symm; intro z; exact z.1 ⟨cq6, cq16⟩)
            | (refine (if_neg ?_).symm; intro z; exact z.2 ⟨cq25, cq35⟩)
            | (refine (if_pos ?_).symm; exact ⟨fun z => cq6 z.1, fun z => cq25 z.1⟩)
            | (refine (if_pos ?_).symm; exact ⟨fun z => cq6 z.1, fun z => cq35 z.2⟩)
            | (refine (if_pos ?_).symm; exact ⟨fun z => cq16 z.2, fun z => cq25 z.1⟩)
            | (refine (if_pos ?_).symm; exact ⟨fun z => cq16 z.2, fun z => cq35 z.2⟩)
        · skip
          refine g_iconst rfl ?_
          refine g_goto rfl ?_
          refine g_zret rfl (by omega) ?_
          refine ⟨rfl, ?_⟩
          first
            | (refine (if_neg ?_).symm; intro z; exact z.1 ⟨cq6, cq16⟩)
            | (refine (if_neg ?_).symm; intro z; exact z.2 ⟨cq25, cq35⟩)
            | (refine (if_pos ?_).symm; exact ⟨fun z => cq6 z.1, fun z => cq25 z.1⟩)
            | (refine (if_pos ?_).symm; exact ⟨fun z => cq6 z.1, fun z => cq35 z.2⟩)
            | (refine (if_pos ?_).symm; exact ⟨fun z => cq16 z.2, fun z => cq25 z.1⟩)
            | (refine (if_pos ?_).symm; exact ⟨fun z => cq16 z.2, fun z => cq35 z.2⟩)
set_option maxRecDepth 100000 in
theorem m_pgArea {w : aW} {d : Nat} (hd : 3 ≤ d) {h : aH} {o : Nat} (ms : MS h o) (V : Nat → Nat → Int) {S : aS} (mg : MG V o S) (ok : OkG S) (p : Nat) (hp : p < sG S) : WP w d 341 [aO (some o), aI ((p : Int))] (hw h V) (RJ (fun r h1 => h1 = hw h V ∧ r = gAr S p (sGn S p))) := by
  obtain ⟨d, rfl⟩ : ∃ d1, d = d1 + 1 := ⟨d - 1, by omega⟩
  refine WP.enter (cd := cd_X12_area) rfl ?_
  have hok := ok.1
  have hok2 := (ok.2 p hp).1
  have hls : largs 0 [aO (some o), aI ((p : Int))] = [(0, aO (some o)), (1, aI ((p : Int)))] := rfl
  rw [hls]
  clear hls
  have l5 : ∀ (fuel : Nat) (i : Nat), (i ≤ sGn S p) → sGn S p - i < fuel → Wk w d cd_X12_area 5 [(4, aI ((i : Int))), (2, aJ (gAr S p i)), (0, aO (some o)), (1, aI ((p : Int)))] [] (hw h V) (RJ (fun r h1 => h1 = hw h V ∧ r = gAr S p (sGn S p))) := by
    intro fuel
    induction fuel with
    | zero => intros; omega
    | succ fuel ih5 =>
      intro i hi hfuel
      have hok := ok.1
      have hok2 := (ok.2 p hp).1
      have hb := gAr_b ok hp i hi
      refine g_iload rfl rfl ?_
      refine g_aload_n rfl rfl ?_
      refine g_getR rfl ms.1 (mr_corners ms) ?_
      refine g_iload_n rfl rfl ?_
      refine g_iald (i := p) rfl (mt_corners ms) (by omega) (by omega) ?_
      refine g_top (v2 := aI ((sGn S p : Int))) (congrArg aI (by exact (mg.2 p hp).1)) ?_
      refine g_icmp_ge rfl (fun cq13 => ?_) (fun cq13 => ?_)
      · skip
        refine g_lload_n rfl rfl ?_
        refine g_lret rfl ?_
        refine ⟨rfl, ?_⟩
        rw [show sGn S p = i by omega]
      · skip
        have li := gAft_lt (S := S) (p := p) (i := i) (by omega)
        have bx := ok.x hp (i := i) (by omega)
        have by_ := ok.y hp (i := i) (by omega)
        have cx := ok.x hp li
        have cy := ok.y hp li
        refine g_aload_n rfl rfl ?_
        refine g_iload_n rfl rfl ?_
        refine g_iload rfl rfl ?_
        refine g_callVI [aI ((p : Int)), aI ((i : Int))] [] rfl rfl rfl rfl (Nat.le_of_ble_eq_true rfl) ms.1 (m_pgAt0 (by omega) ms V mg ok p hp i (by omega)) ?_
        rintro r1 hx1 ⟨ehx1, rfl⟩
        rw [ehx1]
        clear ehx1 hx1
        refine g_istore (l1 := [(5, aI ((12 * p + i : Int))), (4, aI ((i : Int))), (2, aJ (gAr S p i)), (0, aO (some o)), (1, aI ((p : Int)))]) rfl rfl ?_
        refine g_aload_n rfl rfl ?_
        refine g_iload_n rfl rfl ?_
        refine g_iload rfl rfl ?_
        refine g_iconst rfl ?_
        refine g_iadd rfl (by omega) (by omega) ?_
        refine g_callVI [aI ((p : Int)), aI (((i : Int)) + 1)] [] rfl rfl rfl rfl (Nat.le_of_ble_eq_true rfl) ms.1 (m_pgAt1 (by omega) ms V mg ok p hp i (by omega)) ?_
        rintro r2 hx2 ⟨ehx2, rfl⟩
        rw [ehx2]
        clear ehx2 hx2
        refine g_istore (l1 := [(6, aI (((12 * p + (gAft S p i) : Nat) : Int))), (5, aI ((12 * p + i : Int))), (4, aI ((i : Int))), (2, aJ (gAr S p i)), (0, aO (some o)), (1, aI ((p : Int)))]) rfl rfl ?_
        refine g_lload_n rfl rfl ?_
        refine g_aload_n rfl rfl ?_
        refine g_getR rfl ms.1 (mr_px ms) ?_
        refine g_iload rfl rfl ?_
        refine g_iald (i := 12 * p + i) rfl (mt_px ms) (by omega) (by omega) ?_
        refine g_top (v2 := aI (gx S p i)) (congrArg aI (by exact ((mg.2 p hp).2 i (by omega)).1)) ?_
        refine g_i2l rfl ?_
        refine g_aload_n rfl rfl ?_
        refine g_getR rfl ms.1 (mr_py ms) ?_
        refine g_iload rfl rfl ?_
        refine g_iald (i := 12 * p + (gAft S p i)) rfl (mt_py ms) (by omega) (by omega) ?_
        refine g_top (v2 := aI (gy S p (gAft S p i))) (congrArg aI (by exact ((mg.2 p hp).2 (gAft S p i) (by omega)).2)) ?_
        refine g_i2l rfl ?_
        have m53 := mul1k (x := gx S p i) (y := gy S p (gAft S p i)) (by omega) (by omega)
        refine g_lmul rfl (by omega) (by omega) ?_
        refine g_aload_n rfl rfl ?_
        refine g_getR rfl ms.1 (mr_px ms) ?_
        refine g_iload rfl rfl ?_
        refine g_iald (i := 12 * p + (gAft S p i)) rfl (mt_px ms) (by omega) (by omega) ?_
        refine g_top (v2 := aI (gx S p (gAft S p i))) (congrArg aI (by exact ((mg.2 p hp).2 (gAft S p i) (by omega)).1)) ?_
        refine g_i2l rfl ?_
        refine g_aload_n rfl rfl ?_
        refine g_getR rfl ms.1 (mr_py ms) ?_
        refine g_iload rfl rfl ?_
        refine g_iald (i := 12 * p + i) rfl (mt_py ms) (by omega) (by omega) ?_
        refine g_top (v2 := aI (gy S p i)) (congrArg aI (by exact ((mg.2 p hp).2 i (by omega)).2)) ?_
        refine g_i2l rfl ?_
        have m70 := mul1k (x := gx S p (gAft S p i)) (y := gy S p i) (by omega) (by omega)
        refine g_lmul rfl (by omega) (by omega) ?_
        refine g_lsub rfl (by omega) (by omega) ?_
        refine g_ladd rfl (by omega) (by omega) ?_
        refine g_top (v2 := aJ (gAr S p (i + 1))) (congrArg aJ (by rfl)) ?_
        refine g_lstore_n (l1 := [(2, aJ (gAr S p (i + 1))), (6, aI (((12 * p + (gAft S p i) : Nat) : Int))), (5, aI ((12 * p + i : Int))), (4, aI ((i : Int))), (0, aO (some o)), (1, aI ((p : Int)))]) rfl rfl ?_
        refine g_iinc (l1 := [(4, aI ((i : Int) + 1)), (2, aJ (gAr S p (i + 1))), (6, aI (((12 * p + (gAft S p i) : Nat) : Int))), (5, aI ((12 * p + i : Int))), (0, aO (some o)), (1, aI ((p : Int)))]) rfl rfl (by omega) (by omega) rfl ?_
        refine g_goto rfl ?_
        refine g_ls [0, 1, 4, 5] rfl rfl ?_
        exact ih5 (i + 1) (by omega) (by omega)
  refine g_lconst0 rfl ?_
  refine g_top (v2 := aJ (gAr S p 0)) (congrArg aJ (by exact (show (0 : Int) = gAr S p 0 from rfl))) ?_
  refine g_lstore_n (l1 := [(2, aJ (gAr S p 0)), (0, aO (some o)), (1, aI ((p : Int)))]) rfl rfl ?_
  refine g_iconst rfl ?_
  refine g_istore (l1 := [(4, aI 0), (2, aJ (gAr S p 0)), (0, aO (some o)), (1, aI ((p : Int)))]) rfl rfl ?_
  exact l5 _ 0 (by omega) (Nat.lt_succ_self _)
set_option maxRecDepth 100000 in
theorem m_pgOns {w : aW} {d : Nat} (hd : 3 ≤ d) {h : aH} {o : Nat} (ms : MS h o) (V : Nat → Nat → Int) {S : aS} (mg : MG V o S) (ok : OkG S) (p : Nat) (hp : p < sG S) : WP w d 342 [aO (some o), aI ((p : Int))] (hw h V) (RJ (fun r h1 => h1 = hw h V ∧ r = gOs S p (sGn S p))) := by
  obtain ⟨d, rfl⟩ : ∃ d1, d = d1 + 1 := ⟨d - 1, by omega⟩
  refine WP.enter (cd := cd_X12_onSides) rfl ?_
  have hok := ok.1
  have hok2 := (ok.2 p hp).1
  have hls : largs 0 [aO (some o), aI ((p : Int))] = [(0, aO (some o)), (1, aI ((p : Int)))] := rfl
  rw [hls]
  clear hls
  have l5 : ∀ (fuel : Nat) (i : Nat), (i ≤ sGn S p) → sGn S p - i < fuel → Wk w d cd_X12_onSides 5 [(4, aI ((i : Int))), (2, aJ (gOs S p i)), (0, aO (some o)), (1, aI ((p : Int)))] [] (hw h V) (RJ (fun r h1 => h1 = hw h V ∧ r = gOs S p (sGn S p))) := by
    intro fuel
    induction fuel with
    | zero => intros; omega
    | succ fuel ih5 =>
      intro i hi hfuel
      have hok := ok.1
      have hok2 := (ok.2 p hp).1
      have hb := gOs_b ok hp i hi
      refine g_iload rfl rfl ?_
      refine g_aload_n rfl rfl ?_
      refine g_getR rfl ms.1 (mr_corners ms) ?_
      refine g_iload_n rfl rfl ?_
      refine g_iald (i := p) rfl (mt_corners ms) (by omega) (by omega) ?_
      refine g_top (v2 := aI ((sGn S p : Int))) (congrArg aI (by exact (mg.2 p hp).1)) ?_
      refine g_icmp_ge rfl (fun cq13 => ?_) (fun cq13 => ?_)
      · skip
        refine g_lload_n rfl rfl ?_
        refine g_lret rfl ?_
        refine ⟨rfl, ?_⟩
        rw [show sGn S p = i by omega]
      · skip
        have li := gAft_lt (S := S) (p := p) (i := i) (by omega)
        have bx := ok.x hp (i := i) (by omega)
        have by_ := ok.y hp (i := i) (by omega)
        have cx := ok.x hp li
        have cy := ok.y hp li
        have eg : (Int.gcd (gx S p i - gx S p (gAft S p i)) (gy S p i - gy S p (gAft S p i)) : Int) = (Int.gcd (gx S p (gAft S p i) - gx S p i) (gy S p (gAft S p i) - gy S p i) : Int) := by rw [show gx S p i - gx S p (gAft S p i) = -(gx S p (gAft S p i) - gx S p i) by omega, show gy S p i - gy S p (gAft S p i) = -(gy S p (gAft S p i) - gy S p i) by omega, Int.neg_gcd, Int.gcd_neg]
        refine g_aload_n rfl rfl ?_
        refine g_iload_n rfl rfl ?_
        refine g_iload rfl rfl ?_
        refine g_callVI [aI ((p : Int)), aI ((i : Int))] [] rfl rfl rfl rfl (Nat.le_of_ble_eq_true rfl) ms.1 (m_pgAt0 (by omega) ms V mg ok p hp i (by omega)) ?_
        rintro r1 hx1 ⟨ehx1, rfl⟩
        rw [ehx1]
        clear ehx1 hx1
        refine g_istore (l1 := [(5, aI ((12 * p + i : Int))), (4, aI ((i : Int))), (2, aJ (gOs S p i)), (0, aO (some o)), (1, aI ((p : Int)))]) rfl rfl ?_
        refine g_aload_n rfl rfl ?_
        refine g_iload_n rfl rfl ?_
        refine g_iload rfl rfl ?_
        refine g_iconst rfl ?_
        refine g_iadd rfl (by omega) (by omega) ?_
        refine g_callVI [aI ((p : Int)), aI (((i : Int)) + 1)] [] rfl rfl rfl rfl (Nat.le_of_ble_eq_true rfl) ms.1 (m_pgAt1 (by omega) ms V mg ok p hp i (by omega)) ?_
        rintro r2 hx2 ⟨ehx2, rfl⟩
        rw [ehx2]
        clear ehx2 hx2
        refine g_istore (l1 := [(6, aI (((12 * p + (gAft S p i) : Nat) : Int))), (5, aI ((12 * p + i : Int))), (4, aI ((i : Int))), (2, aJ (gOs S p i)), (0, aO (some o)), (1, aI ((p : Int)))]) rfl rfl ?_
        refine g_lload_n rfl rfl ?_
        refine g_aload_n rfl rfl ?_
        refine g_getR rfl ms.1 (mr_px ms) ?_
        refine g_iload rfl rfl ?_
        refine g_iald (i := 12 * p + i) rfl (mt_px ms) (by omega) (by omega) ?_
        refine g_top (v2 := aI (gx S p i)) (congrArg aI (by exact ((mg.2 p hp).2 i (by omega)).1)) ?_
        refine g_aload_n rfl rfl ?_
        refine g_getR rfl ms.1 (mr_px ms) ?_
        refine g_iload rfl rfl ?_
        refine g_iald (i := 12 * p + (gAft S p i)) rfl (mt_px ms) (by omega) (by omega) ?_
        refine g_top (v2 := aI (gx S p (gAft S p i))) (congrArg aI (by exact ((mg.2 p hp).2 (gAft S p i) (by omega)).1)) ?_
        refine g_isub rfl (by omega) (by omega) ?_
        refine g_i2l rfl ?_
        refine g_aload_n rfl rfl ?_
        refine g_getR rfl ms.1 (mr_py ms) ?_
        refine g_iload rfl rfl ?_
        refine g_iald (i := 12 * p + i) rfl (mt_py ms) (by omega) (by omega) ?_
        refine g_top (v2 := aI (gy S p i)) (congrArg aI (by exact ((mg.2 p hp).2 i (by omega)).2)) ?_
        refine g_aload_n rfl rfl ?_
        refine g_getR rfl ms.1 (mr_py ms) ?_
        refine g_iload rfl rfl ?_
        refine g_iald (i := 12 * p + (gAft S p i)) rfl (mt_py ms) (by omega) (by omega) ?_
        refine g_top (v2 := aI (gy S p (gAft S p i))) (congrArg aI (by exact ((mg.2 p hp).2 (gAft S p i) (by omega)).2)) ?_
        refine g_isub rfl (by omega) (by omega) ?_
        refine g_i2l rfl ?_
        refine g_callSJ [aJ ((gx S p i) - (gx S p (gAft S p i))), aJ ((gy S p i) - (gy S p (gAft S p i)))] [aJ (gOs S p i)] rfl rfl rfl rfl (Nat.le_of_ble_eq_true rfl) (c_divisor (by omega) ((gx S p i) - (gx S p (gAft S p i))) ((gy S p i) - (gy S p (gAft S p i))) (by omega) (by omega) _) ?_
        rintro rg_ hxg_ ⟨ehxg_, rfl⟩
        rw [ehxg_]
        clear ehxg_ hxg_
        have hg := gcd_le (gx S p i - gx S p (gAft S p i)) (gy S p i - gy S p (gAft S p i))
        refine g_ladd rfl (by omega) (by omega) ?_
        refine g_top (v2 := aJ (gOs S p (i + 1))) (congrArg aJ (by rw [eg]; rfl)) ?_
        refine g_lstore_n (l1 := [(2, aJ (gOs S p (i + 1))), (6, aI (((12 * p + (gAft S p i) : Nat) : Int))), (5, aI ((12 * p + i : Int))), (4, aI ((i : Int))), (0, aO (some o)), (1, aI ((p : Int)))]) rfl rfl ?_
        refine g_iinc (l1 := [(4, aI ((i : Int) + 1)), (2, aJ (gOs S p (i + 1))), (6, aI (((12 * p + (gAft S p i) : Nat) : Int))), (5, aI ((12 * p + i : Int))), (0, aO (some o)), (1, aI ((p : Int)))]) rfl rfl (by omega) (by omega) rfl ?_
        refine g_goto rfl ?_
        refine g_ls [0, 1, 4, 5] rfl rfl ?_
        exact ih5 (i + 1) (by omega) (by omega)
  refine g_lconst0 rfl ?_
  refine g_top (v2 := aJ (gOs S p 0)) (congrArg aJ (by exact (show (0 : Int) = gOs S p 0 from rfl))) ?_
  refine g_lstore_n (l1 := [(2, aJ (gOs S p 0)), (0, aO (some o)), (1, aI ((p : Int)))]) rfl rfl ?_
  refine g_iconst rfl ?_
  refine g_istore (l1 := [(4, aI 0), (2, aJ (gOs S p 0)), (0, aO (some o)), (1, aI ((p : Int)))]) rfl rfl ?_
  exact l5 _ 0 (by omega) (Nat.lt_succ_self _)
set_option maxRecDepth 100000 in
theorem m_pgConv {w : aW} {d : Nat} (hd : 3 ≤ d) {h : aH} {o : Nat} (ms : MS h o) (V : Nat → Nat → Int) {S : aS} (mg : MG V o S) (ok : OkG S) (p : Nat) (hp : p < sG S) : WP w d 344 [aO (some o), aI ((p : Int))] (hw h V) (RI (fun r h1 => h1 = hw h V ∧ r = if ¬(gL S p (sGn S p) = true ∧ gR S p (sGn S p) = true) then 1 else 0)) := by
  obtain ⟨d, rfl⟩ : ∃ d1, d = d1 + 1 := ⟨d - 1, by omega⟩
  refine WP.enter (cd := cd_X12_isConvex) rfl ?_
  have hok := ok.1
  have hok2 := (ok.2 p hp).1
  have hls : largs 0 [aO (some o), aI ((p : Int))] = [(0, aO (some o)), (1, aI ((p : Int)))] := rfl
  rw [hls]
  clear hls
  have l7 : ∀ (fuel : Nat) (i : Nat) (l r : Int), (i ≤ sGn S p) → (l = if gL S p i = true then 1 else 0) → (r = if gR S p i = true then 1 else 0) → sGn S p - i < fuel → Wk w d cd_X12_isConvex 7 [(4, aI ((i : Int))), (3, aI r), (2, aI l), (0, aO (some o)), (1, aI ((p : Int)))] [] (hw h V) (RI (fun r h1 => h1 = hw h V ∧ r = if ¬(gL S p (sGn S p) = true ∧ gR S p (sGn S p) = true) then 1 else 0)) := by
    intro fuel
    induction fuel with
    | zero => intros; omega
    | succ fuel ih7 =>
      intro i l r hi hl hr hfuel
      have hok := ok.1
      have hok2 := (ok.2 p hp).1
      refine g_iload rfl rfl ?_
      refine g_aload_n rfl rfl ?_
      refine g_getR rfl ms.1 (mr_corners ms) ?_
      refine g_iload_n rfl rfl ?_
      refine g_iald (i := p) rfl (mt_corners ms) (by omega) (by omega) ?_
      refine g_top (v2 := aI ((sGn S p : Int))) (congrArg aI (by exact (mg.2 p hp).1)) ?_
      refine g_icmp_ge rfl (fun cq15 => ?_) (fun cq15 => ?_)
      · skip
        refine g_iload_n rfl rfl ?_
        refine g_if_eq rfl (fun cq90 => ?_) (fun cq90 => ?_)
        · skip
          refine g_iconst rfl ?_
          refine g_goto rfl ?_
          refine g_zret rfl (by omega) ?_
          refine ⟨rfl, ?_⟩
          rw [show sGn S p = i by omega]
          cases hL : gL S p i <;> cases hR : gR S p i <;> rw [hL] at hl <;> rw [hR] at hr <;> simp at hl hr ⊢ <;> omega
        · skip
          refine g_iload_n rfl rfl ?_
          refine g_if_ne rfl (fun cq94 => ?_) (fun cq94 => ?_)
          · skip
            refine g_iconst rfl ?_
            refine g_zret rfl (by omega) ?_
            refine ⟨rfl, ?_⟩
            rw [show sGn S p = i by omega]
            cases hL : gL S p i <;> cases hR : gR S p i <;> rw [hL] at hl <;> rw [hR] at hr <;> simp at hl hr ⊢ <;> omega
          · skip
            refine g_iconst rfl ?_
            refine g_goto rfl ?_
            refine g_zret rfl (by omega) ?_
            refine ⟨rfl, ?_⟩
            rw [show sGn S p = i by omega]
            cases hL : gL S p i <;> cases hR : gR S p i <;> rw [hL] at hl <;> rw [hR] at hr <;> simp at hl hr ⊢ <;> omega
      · skip
        have li := gAft_lt (S := S) (p := p) (i := i) (by omega)
        have lj := gAft_lt li
        refine g_aload_n rfl rfl ?_
        refine g_aload_n rfl rfl ?_
        refine g_iload_n rfl rfl ?_
        refine g_iload rfl rfl ?_
        refine g_callVI [aI ((p : Int)), aI ((i : Int))] [aO (some o)] rfl rfl rfl rfl (Nat.le_of_ble_eq_true rfl) ms.1 (m_pgAt0 (by omega) ms V mg ok p hp i (by omega)) ?_
        rintro r1 hx1 ⟨ehx1, rfl⟩
        rw [ehx1]
        clear ehx1 hx1
        refine g_aload_n rfl rfl ?_
        refine g_iload_n rfl rfl ?_
        refine g_iload rfl rfl ?_
        refine g_iconst rfl ?_
        refine g_iadd rfl (by omega) (by omega) ?_
        refine g_callVI [aI ((p : Int)), aI (((i : Int)) + 1)] [aI ((12 * p + i : Int)), aO (some o)] rfl rfl rfl rfl (Nat.le_of_ble_eq_true rfl) ms.1 (m_pgAt1 (by omega) ms V mg ok p hp i (by omega)) ?_
        rintro r2 hx2 ⟨ehx2, rfl⟩
        rw [ehx2]
        clear ehx2 hx2
        refine g_aload_n rfl rfl ?_
        refine g_iload_n rfl rfl ?_
        refine g_iload rfl rfl ?_
        refine g_iconst rfl ?_
        refine g_iadd rfl (by omega) (by omega) ?_
        refine g_callVI [aI ((p : Int)), aI (((i : Int)) + 2)] [aI (((12 * p + (gAft S p i) : Nat) : Int)), aI ((12 * p + i : Int)), aO (some o)] rfl rfl rfl rfl (Nat.le_of_ble_eq_true rfl) ms.1 (m_pgAt2 (by omega) ms V mg ok p hp i (by omega)) ?_
        rintro r3 hx3 ⟨ehx3, rfl⟩
        rw [ehx3]
        clear ehx3 hx3
        refine g_callVJ [aI ((12 * p + i : Int)), aI (((12 * p + (gAft S p i) : Nat) : Int)), aI (((12 * p + (gAft S p (gAft S p i)) : Nat) : Int))] [] rfl rfl rfl rfl (Nat.le_of_ble_eq_true rfl) ms.1 (m_pgTurn (by omega) ms V mg ok p hp i (by omega) (gAft S p i) (by omega) (gAft S p (gAft S p i)) (by omega)) ?_
        rintro r4 hx4 ⟨ehx4, rfl⟩
        rw [ehx4]
        clear ehx4 hx4
        refine g_lstore (l1 := [(5, aJ (gT S p i (gAft S p i) (gAft S p (gAft S p i)))), (4, aI ((i : Int))), (3, aI r), (2, aI l), (0, aO (some o)), (1, aI ((p : Int)))]) rfl rfl ?_
        refine g_iload_n rfl rfl ?_
        refine g_if_ne rfl (fun cq50 => ?_) (fun cq50 => ?_)
        · skip
          refine g_iconst rfl ?_
          refine g_goto rfl ?_
          refine g_istore_n (l1 := [(2, aI 1), (5, aJ (gT S p i (gAft S p i) (gAft S p (gAft S p i)))), (4, aI ((i : Int))), (3, aI r), (0, aO (some o)), (1, aI ((p : Int)))]) rfl rfl ?_
          refine g_iload_n rfl rfl ?_
          refine g_if_ne rfl (fun cq67 => ?_) (fun cq67 => ?_)
          · skip
            refine g_iconst rfl ?_
            refine g_goto rfl ?_
            refine g_istore_n (l1 := [(3, aI 1), (2, aI 1), (5, aJ (gT S p i (gAft S p i) (gAft S p (gAft S p i)))), (4, aI ((i : Int))), (0, aO (some o)), (1, aI ((p : Int)))]) rfl rfl ?_
            refine g_iinc (l1 := [(4, aI ((i : Int) + 1)), (3, aI 1), (2, aI 1), (5, aJ (gT S p i (gAft S p i) (gAft S p (gAft S p i)))), (0, aO (some o)), (1, aI ((p : Int)))]) rfl rfl (by omega) (by omega) rfl ?_
            refine g_goto rfl ?_
            refine g_ls [0, 1, 2, 4, 5] rfl rfl ?_
            exact ih7 (i + 1) _ _ (by omega) (by exact any_step hl (fun z => by omega) (fun z => by omega)) (by exact any_step hr (fun z => by omega) (fun z => by omega)) (by omega)
          · skip
            refine g_lload rfl rfl ?_
            refine g_lconst0 rfl ?_
            refine g_lc_ge rfl rfl (fun cq73 => ?_) (fun cq73 => ?_)
            · skip
              refine g_iconst rfl ?_
              refine g_istore_n (l1 := [(3, aI 0), (2, aI 1), (5, aJ (gT S p i (gAft S p i) (gAft S p (gAft S p i)))), (4, aI ((i : Int))), (0, aO (some o)), (1, aI ((p : Int)))]) rfl rfl ?_
              refine g_iinc (l1 := [(4, aI ((i : Int) + 1)), (3, aI 0), (2, aI 1), (5, aJ (gT S p i (gAft S p i) (gAft S p (gAft S p i)))), (0, aO (some o)), (1, aI ((p : Int)))]) rfl rfl (by omega) (by omega) rfl ?_
              refine g_goto rfl ?_
              refine g_ls [0, 1, 2, 4, 5] rfl rfl ?_
              exact ih7 (i + 1) _ _ (by omega) (by exact any_step hl (fun z => by omega) (fun z => by omega)) (by exact any_step hr (fun z => by omega) (fun z => by omega)) (by omega)
            · skip
              refine g_iconst rfl ?_
              refine g_goto rfl ?_
              refine g_istore_n (l1 := [(3, aI 1), (2, aI 1), (5, aJ (gT S p i (gAft S p i) (gAft S p (gAft S p i)))), (4, aI ((i : Int))), (0, aO (some o)), (1, aI ((p : Int)))]) rfl rfl ?_
              refine g_iinc (l1 := [(4, aI ((i : Int) + 1)), (3, aI 1), (2, aI 1), (5, aJ (gT S p i (gAft S p i) (gAft S p (gAft S p i)))), (0, aO (some o)), (1, aI ((p : Int)))]) rfl rfl (by omega) (by omega) rfl ?_
              refine g_goto rfl ?_
              refine g_ls [0, 1, 2, 4, 5] rfl rfl ?_
              exact ih7 (i + 1) _ _ (by omega) (by exact any_step hl (fun z => by omega) (fun z => by omega)) (by exact any_step hr (fun z => by omega) (fun z => by omega)) (by omega)
        · skip
          refine g_lload rfl rfl ?_
          refine g_lconst0 rfl ?_
          refine g_lc_le rfl rfl (fun cq56 => ?_) (fun cq56 => ?_)
          · skip
            refine g_iconst rfl ?_
            refine g_istore_n (l1 := [(2, aI 0), (5, aJ (gT S p i (gAft S p i) (gAft S p (gAft S p i)))), (4, aI ((i : Int))), (3, aI r), (0, aO (some o)), (1, aI ((p : Int)))]) rfl rfl ?_
            refine g_iload_n rfl rfl ?_
            refine g_if_ne rfl (fun cq67 => ?_) (fun cq67 => ?_)
            · skip
              refine g_iconst rfl ?_
              refine g_goto rfl ?_
              refine g_istore_n (l1 := [(3, aI 1), (2, aI 0), (5, aJ (gT S p i (gAft S p i) (gAft S p (gAft S p i)))), (4, aI ((i : Int))), (0, aO (some o)), (1, aI ((p : Int)))]) rfl rfl ?_
              refine g_iinc (l1 := [(4, aI ((i : Int) + 1)), (3, aI 1), (2, aI 0), (5, aJ (gT S p i (gAft S p i) (gAft S p (gAft S p i)))), (0, aO (some o)), (1, aI ((p : Int)))]) rfl rfl (by omega) (by omega) rfl ?_
              refine g_goto rfl ?_
              refine g_ls [0, 1, 2, 4, 5] rfl rfl ?_
              exact ih7 (i + 1) _ _ (by omega) (by exact any_step hl (fun z => by omega) (fun z => by omega)) (by exact any_step hr (fun z => by omega) (fun z => by omega)) (by omega)
            · skip
              refine g_lload rfl rfl ?_
              refine g_lconst0 rfl ?_
              refine g_lc_ge rfl rfl (fun cq73 => ?_) (fun cq73 => ?_)
              · skip
                refine g_iconst rfl ?_
                refine g_istore_n (l1 := [(3, aI 0), (2, aI 0), (5, aJ (gT S p i (gAft S p i) (gAft S p (gAft S p i)))), (4, aI ((i : Int))), (0, aO (some o)), (1, aI ((p : Int)))]) rfl rfl ?_
                refine g_iinc (l1 := [(4, aI ((i : Int) + 1)), (3, aI 0), (2, aI 0), (5, aJ (gT S p i (gAft S p i) (gAft S p (gAft S p i)))), (0, aO (some o)), (1, aI ((p : Int)))]) rfl rfl (by omega) (by omega) rfl ?_
                refine g_goto rfl ?_
                refine g_ls [0, 1, 2, 4, 5] rfl rfl ?_
                exact ih7 (i + 1) _ _ (by omega) (by exact any_step hl (fun z => by omega) (fun z => by omega)) (by exact any_step hr (fun z => by omega) (fun z => by omega)) (by omega)
              · skip
                refine g_iconst rfl ?_
                refine g_goto rfl ?_
                refine g_istore_n (l1 := [(3, aI 1), (2, aI 0), (5, aJ (gT S p i (gAft S p i) (gAft S p (gAft S p i)))), (4, aI ((i : Int))), (0, aO (some o)), (1, aI ((p : Int)))]) rfl rfl ?_
                refine g_iinc (l1 := [(4, aI ((i : Int) + 1)), (3, aI 1), (2, aI 0), (5, aJ (gT S p i (gAft S p i) (gAft S p (gAft S p i)))), (0, aO (some o)), (1, aI ((p : Int)))]) rfl rfl (by omega) (by omega) rfl ?_
                refine g_goto rfl ?_
                refine g_ls [0, 1, 2, 4, 5] rfl rfl ?_
                exact ih7 (i + 1) _ _ (by omega) (by exact any_step hl (fun z => by omega) (fun z => by omega)) (by exact any_step hr (fun z => by omega) (fun z => by omega)) (by omega)
          · skip
            refine g_iconst rfl ?_
            refine g_goto rfl ?_
            refine g_istore_n (l1 := [(2, aI 1), (5, aJ (gT S p i (gAft S p i) (gAft S p (gAft S p i)))), (4, aI ((i : Int))), (3, aI r), (0, aO (some o)), (1, aI ((p : Int)))]) rfl rfl ?_
            refine g_iload_n rfl rfl ?_
            refine g_if_ne rfl (fun cq67 => ?_) (fun cq67 => ?_)
            · skip
              refine g_iconst rfl ?_
              refine g_goto rfl ?_
              refine g_istore_n (l1 := [(3, aI 1), (2, aI 1), (5, aJ (gT S p i (gAft S p i) (gAft S p (gAft S p i)))), (4, aI ((i : Int))), (0, aO (some o)), (1, aI ((p : Int)))]) rfl rfl ?_
              refine g_iinc (l1 := [(4, aI ((i : Int) + 1)), (3, aI 1), (2, aI 1), (5, aJ (gT S p i (gAft S p i) (gAft S p (gAft S p i)))), (0, aO (some o)), (1, aI ((p : Int)))]) rfl rfl (by omega) (by omega) rfl ?_
              refine g_goto rfl ?_
              refine g_ls [0, 1, 2, 4, 5] rfl rfl ?_
              exact ih7 (i + 1) _ _ (by omega) (by exact any_step hl (fun z => by omega) (fun z => by omega)) (by exact any_step hr (fun z => by omega) (fun z => by omega)) (by omega)
            · skip
              refine g_lload rfl rfl ?_
              refine g_lconst0 rfl ?_
              refine g_lc_ge rfl rfl (fun cq73 => ?_) (fun cq73 => ?_)
              · skip
                refine g_iconst rfl ?_
                refine g_istore_n (l1 := [(3, aI 0), (2, aI 1), (5, aJ (gT S p i (gAft S p i) (gAft S p (gAft S p i)))), (4, aI ((i : Int))), (0, aO (some o)), (1, aI ((p : Int)))]) rfl rfl ?_
                refine g_iinc (l1 := [(4, aI ((i : Int) + 1)), (3, aI 0), (2, aI 1), (5, aJ (gT S p i (gAft S p i) (gAft S p (gAft S p i)))), (0, aO (some o)), (1, aI ((p : Int)))]) rfl rfl (by omega) (by omega) rfl ?_
                refine g_goto rfl ?_
                refine g_ls [0, 1, 2, 4, 5] rfl rfl ?_
                exact ih7 (i + 1) _ _ (by omega) (by exact any_step hl (fun z => by omega) (fun z => by omega)) (by exact any_step hr (fun z => by omega) (fun z => by omega)) (by omega)
              · skip
                refine g_iconst rfl ?_
                refine g_goto rfl ?_
                refine g_istore_n (l1 := [(3, aI 1), (2, aI 1), (5, aJ (gT S p i (gAft S p i) (gAft S p (gAft S p i)))), (4, aI ((i : Int))), (0, aO (some o)), (1, aI ((p : Int)))]) rfl rfl ?_
                refine g_iinc (l1 := [(4, aI ((i : Int) + 1)), (3, aI 1), (2, aI 1), (5, aJ (gT S p i (gAft S p i) (gAft S p (gAft S p i)))), (0, aO (some o)), (1, aI ((p : Int)))]) rfl rfl (by omega) (by omega) rfl ?_
                refine g_goto rfl ?_
                refine g_ls [0, 1, 2, 4, 5] rfl rfl ?_
                exact ih7 (i + 1) _ _ (by omega) (by exact any_step hl (fun z => by omega) (fun z => by omega)) (by exact any_step hr (fun z => by omega) (fun z => by omega)) (by omega)
  refine g_iconst rfl ?_
  refine g_istore_n (l1 := [(2, aI 0), (0, aO (some o)), (1, aI ((p : Int)))]) rfl rfl ?_
  refine g_iconst rfl ?_
  refine g_istore_n (l1 := [(3, aI 0), (2, aI 0), (0, aO (some o)), (1, aI ((p : Int)))]) rfl rfl ?_
  refine g_iconst rfl ?_
  refine g_istore (l1 := [(4, aI 0), (3, aI 0), (2, aI 0), (0, aO (some o)), (1, aI ((p : Int)))]) rfl rfl ?_
  exact l7 _ 0 _ _ (by omega) (by rfl) (by rfl) (Nat.lt_succ_self _)
