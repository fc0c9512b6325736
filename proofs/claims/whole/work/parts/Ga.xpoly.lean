/-! the class's polygons: places, turns, ways: printed by wip/whole/ga.py -/
def gx (S : aS) (p i : Nat) : Int := (sGc S p i).1
def gy (S : aS) (p i : Nat) : Int := (sGc S p i).2
def XG (V : Nat → Nat → Int) (c : Nat) (S : aS) : Prop := V (c + 11) 5 = sG S ∧ ∀ p < sG S, V (c + 14) p = sGn S p ∧ ∀ i < sGn S p, V (c + 12) (12 * p + i) = gx S p i ∧ V (c + 13) (12 * p + i) = gy S p i
def OkG (S : aS) : Prop := sG S ≤ 12 ∧ ∀ p < sG S, sGn S p ≤ 12 ∧ ∀ i < sGn S p, (-1000 ≤ gx S p i ∧ gx S p i ≤ 1000) ∧ (-1000 ≤ gy S p i ∧ gy S p i ≤ 1000)
theorem OkG.x {S : aS} (ok : OkG S) {p : Nat} (hp : p < sG S) {i : Nat} (hi : i < sGn S p) : -1000 ≤ gx S p i ∧ gx S p i ≤ 1000 := ((ok.2 p hp).2 i hi).1
theorem OkG.y {S : aS} (ok : OkG S) {p : Nat} (hp : p < sG S) {i : Nat} (hi : i < sGn S p) : -1000 ≤ gy S p i ∧ gy S p i ≤ 1000 := ((ok.2 p hp).2 i hi).2
theorem XG.fr {V V1 : Nat → Nat → Int} {c : Nat} {S : aS} (x : XG V c S) (h : ∀ a, c + 11 ≤ a → a ≤ c + 14 → V1 a = V a) : XG V1 c S := by
  unfold XG
  rw [h (c + 11) (by omega) (by omega), h (c + 12) (by omega) (by omega), h (c + 13) (by omega) (by omega), h (c + 14) (by omega) (by omega)]
  exact x
theorem mulq {x y : Int} {a b : Nat} (hx : -a ≤ x ∧ x ≤ a) (hy : -b ≤ y ∧ y ≤ b) : -((a * b : Nat) : Int) ≤ x * y ∧ x * y ≤ ((a * b : Nat) : Int) := by
  have h := Int.natAbs_mul x y
  have h2 : x.natAbs * y.natAbs ≤ a * b := Nat.mul_le_mul (by omega) (by omega)
  omega
theorem mul2k {x y : Int} (hx : -2000 ≤ x ∧ x ≤ 2000) (hy : -2000 ≤ y ∧ y ≤ 2000) : -4000000 ≤ x * y ∧ x * y ≤ 4000000 := mulq (a := 2000) (b := 2000) hx hy
def gT (S : aS) (p a b c : Nat) : Int := (gx S p b - gx S p a) * (gy S p c - gy S p a) - (gy S p b - gy S p a) * (gx S p c - gx S p a)
def gQ (S : aS) (p a b : Nat) : Int := (gx S p b - gx S p a) * (gx S p b - gx S p a) + (gy S p b - gy S p a) * (gy S p b - gy S p a)
abbrev gSame (S : aS) (p a b : Nat) : Prop := gx S p a = gx S p b ∧ gy S p a = gy S p b
abbrev btw (l v u : Int) : Prop := (l ≤ v ∨ u ≤ v) ∧ (v ≤ l ∨ v ≤ u)
abbrev gOn (S : aS) (p a b c : Nat) : Prop := gT S p a b c = 0 ∧ btw (gx S p a) (gx S p c) (gx S p b) ∧ btw (gy S p a) (gy S p c) (gy S p b)
abbrev opp (v u : Int) : Prop := (v < 0 ∧ 0 < u) ∨ (0 < v ∧ u < 0)
abbrev gMeet (S : aS) (p a b c d : Nat) : Prop := (opp (gT S p a b c) (gT S p a b d) ∧ opp (gT S p c d a) (gT S p c d b)) ∨ gOn S p a b c ∨ gOn S p a b d ∨ gOn S p c d a ∨ gOn S p c d b
def gAft (S : aS) (p i : Nat) : Nat := if i + 1 < sGn S p then i + 1 else 0
theorem gAft_lt {S : aS} {p i : Nat} (hi : i < sGn S p) : gAft S p i < sGn S p := by
  unfold gAft
  split <;> omega
abbrev gBack (S : aS) (p a b c : Nat) : Prop := gT S p a b c = 0 ∧ 0 < (gx S p a - gx S p b) * (gx S p c - gx S p b) + (gy S p a - gy S p b) * (gy S p c - gy S p b)
abbrev gOdd (S : aS) (p i j : Nat) : Prop := (gAft S p i = j ∧ gBack S p i j (gAft S p j)) ∨ (¬ gAft S p i = j ∧ gAft S p j = i ∧ gBack S p j i (gAft S p i)) ∨ (¬ gAft S p i = j ∧ ¬ gAft S p j = i ∧ gMeet S p i (gAft S p i) j (gAft S p j))
theorem gT_b {S : aS} (ok : OkG S) {p : Nat} (hp : p < sG S) {a b c : Nat} (ha : a < sGn S p) (hb : b < sGn S p) (hc : c < sGn S p) : -8000000 ≤ gT S p a b c ∧ gT S p a b c ≤ 8000000 := by
  have xa := ok.x hp ha
  have xb := ok.x hp hb
  have xc := ok.x hp hc
  have ya := ok.y hp ha
  have yb := ok.y hp hb
  have yc := ok.y hp hc
  have m1 := mul2k (x := gx S p b - gx S p a) (y := gy S p c - gy S p a) (by omega) (by omega)
  have m2 := mul2k (x := gy S p b - gy S p a) (y := gx S p c - gx S p a) (by omega) (by omega)
  unfold gT
  omega
theorem gQ_b {S : aS} (ok : OkG S) {p : Nat} (hp : p < sG S) {a b : Nat} (ha : a < sGn S p) (hb : b < sGn S p) : 0 ≤ gQ S p a b ∧ gQ S p a b ≤ 8000000 := by
  have xa := ok.x hp ha
  have xb := ok.x hp hb
  have ya := ok.y hp ha
  have yb := ok.y hp hb
  have m1 := mul2k (x := gx S p b - gx S p a) (y := gx S p b - gx S p a) (by omega) (by omega)
  have m2 := mul2k (x := gy S p b - gy S p a) (y := gy S p b - gy S p a) (by omega) (by omega)
  have h1 : ∀ u : Int, 0 ≤ u * u := fun u => by
    rcases Int.le_total 0 u with q | q
    · exact Int.mul_nonneg q q
    · exact Int.mul_nonneg_of_nonpos_of_nonpos q q
  have n1 := h1 (gx S p b - gx S p a)
  have n2 := h1 (gy S p b - gy S p a)
  unfold gQ
  omega
set_option maxRecDepth 100000 in
theorem x_pgHas {w : aW} {d : Nat} (hd : 2 ≤ d) {h : aH} {c : Nat} (cs : CS h c) (V : Nat → Nat → Int) {S : aS} (xg : XG V c S) (ok : OkG S) (p : Int) : WP w d 88 [aO (some (c + 11)), aI p] (hw h V) (RI (fun r h1 => h1 = hw h V ∧ r = if 0 ≤ p ∧ p < sG S then 1 else 0)) := by
  obtain ⟨d, rfl⟩ : ∃ d1, d = d1 + 1 := ⟨d - 1, by omega⟩
  refine WP.enter (cd := cd_X3_has) rfl ?_
  have hok := ok.1
  have hls : largs 0 [aO (some (c + 11)), aI p] = [(0, aO (some (c + 11))), (1, aI p)] := rfl
  rw [hls]
  clear hls
  refine g_iload_n rfl rfl ?_
  refine g_if_lt rfl (fun cq1 => ?_) (fun cq1 => ?_)
  · skip
    refine g_iconst rfl ?_
    refine g_zret rfl (by omega) ?_
    refine ⟨rfl, ?_⟩
    first
      | (rw [if_pos (by omega)]; done)
      | (rw [if_neg (by omega)]; done)
  · skip
    refine g_iload_n rfl rfl ?_
    refine g_aload_n rfl rfl ?_
    refine g_getI rfl (cs.kd 11 (by omega) rfl) ?_
    refine g_top (v2 := aI ((sG S : Int))) (congrArg aI (by exact xg.1)) ?_
    refine g_icmp_ge rfl (fun cq9 => ?_) (fun cq9 => ?_)
    · skip
      refine g_iconst rfl ?_
      refine g_zret rfl (by omega) ?_
      refine ⟨rfl, ?_⟩
      first
        | (rw [if_pos (by omega)]; done)
        | (rw [if_neg (by omega)]; done)
    · skip
      refine g_iload_n rfl rfl ?_
      refine g_bipush rfl ?_
      refine g_icmp_ge rfl (fun cq15 => ?_) (fun cq15 => ?_)
      · skip
        refine g_iconst rfl ?_
        refine g_zret rfl (by omega) ?_
        refine ⟨rfl, ?_⟩
        first
          | (rw [if_pos (by omega)]; done)
          | (rw [if_neg (by omega)]; done)
      · skip
        refine g_iconst rfl ?_
        refine g_goto rfl ?_
        refine g_zret rfl (by omega) ?_
        refine ⟨rfl, ?_⟩
        first
          | (rw [if_pos (by omega)]; done)
          | (rw [if_neg (by omega)]; done)
set_option maxRecDepth 100000 in
theorem x_pgSize {w : aW} {d : Nat} (hd : 3 ≤ d) {h : aH} {c : Nat} (cs : CS h c) (V : Nat → Nat → Int) {S : aS} (xg : XG V c S) (ok : OkG S) (p : Nat) (hp : p < sG S) : WP w d 89 [aO (some (c + 11)), aI ((p : Int))] (hw h V) (RI (fun r h1 => h1 = hw h V ∧ r = sGn S p)) := by
  obtain ⟨d, rfl⟩ : ∃ d1, d = d1 + 1 := ⟨d - 1, by omega⟩
  refine WP.enter (cd := cd_X3_sizeOf) rfl ?_
  have hls : largs 0 [aO (some (c + 11)), aI ((p : Int))] = [(0, aO (some (c + 11))), (1, aI ((p : Int)))] := rfl
  rw [hls]
  clear hls
  refine g_aload_n rfl rfl ?_
  refine g_iload_n rfl rfl ?_
  refine g_callVI [aI ((p : Int))] [] rfl rfl rfl rfl (Nat.le_of_ble_eq_true rfl) (cs.kd 11 (by omega) rfl) (x_pgHas (by omega) cs V xg ok (p : Int)) ?_
  rintro r hx ⟨ehx, rfl⟩
  rw [ehx]
  clear ehx hx
  refine g_if_eq_f rfl (by rw [if_pos (by omega)]; decide) ?_
  refine g_aload_n rfl rfl ?_
  refine g_getR rfl (cs.kd 11 (by omega) rfl) (cs.rf 18 (by omega) rfl) ?_
  refine g_iload_n rfl rfl ?_
  refine g_iald (i := p) rfl (cs.ar 14 (by omega) rfl) (by omega) (by have := ok.1; omega) ?_
  refine g_top (v2 := aI ((sGn S p : Int))) (congrArg aI (by exact (xg.2 p hp).1)) ?_
  refine g_goto rfl ?_
  refine g_iret rfl ?_
  exact ⟨rfl, rfl⟩
set_option maxRecDepth 100000 in
theorem x_pgX {w : aW} {d : Nat} (hd : 2 ≤ d) {h : aH} {c : Nat} (cs : CS h c) (V : Nat → Nat → Int) {S : aS} (xg : XG V c S) (ok : OkG S) (p : Nat) (hp : p < sG S) (i : Nat) (hi : i < sGn S p) : WP w d 90 [aO (some (c + 11)), aI ((p : Int)), aI ((i : Int))] (hw h V) (RI (fun r h1 => h1 = hw h V ∧ r = gx S p i)) := by
  obtain ⟨d, rfl⟩ : ∃ d1, d = d1 + 1 := ⟨d - 1, by omega⟩
  refine WP.enter (cd := cd_X3_xOf) rfl ?_
  have hok := ok.1
  have hok2 := (ok.2 p hp).1
  have hls : largs 0 [aO (some (c + 11)), aI ((p : Int)), aI ((i : Int))] = [(0, aO (some (c + 11))), (1, aI ((p : Int))), (2, aI ((i : Int)))] := rfl
  rw [hls]
  clear hls
  refine g_iload_n rfl rfl ?_
  refine g_bipush rfl ?_
  refine g_imul rfl (by omega) (by omega) ?_
  refine g_iload_n rfl rfl ?_
  refine g_iadd rfl (by omega) (by omega) ?_
  refine g_istore_n (l1 := [(3, aI ((((p : Int)) * 12) + ((i : Int)))), (0, aO (some (c + 11))), (1, aI ((p : Int))), (2, aI ((i : Int)))]) rfl rfl ?_
  refine g_iload_n rfl rfl ?_
  refine g_if_lt_f rfl (by omega) ?_
  refine g_iload_n rfl rfl ?_
  refine g_bipush rfl ?_
  refine g_icmp_ge_f rfl (by omega) ?_
  refine g_iload_n rfl rfl ?_
  refine g_if_lt_f rfl (by omega) ?_
  refine g_iload_n rfl rfl ?_
  refine g_aload_n rfl rfl ?_
  refine g_getR rfl (cs.kd 11 (by omega) rfl) (cs.rf 16 (by omega) rfl) ?_
  refine g_alen rfl (cs.ar 12 (by omega) rfl) (by decide) ?_
  refine g_icmp_lt_t rfl (by omega) ?_
  refine g_aload_n rfl rfl ?_
  refine g_getR rfl (cs.kd 11 (by omega) rfl) (cs.rf 16 (by omega) rfl) ?_
  refine g_iload_n rfl rfl ?_
  refine g_iald (i := 12 * p + i) rfl (cs.ar 12 (by omega) rfl) (by omega) (by omega) ?_
  refine g_top (v2 := aI (gx S p i)) (congrArg aI (by exact ((xg.2 p hp).2 i (by omega)).1)) ?_
  refine g_iret rfl ?_
  exact ⟨rfl, rfl⟩
set_option maxRecDepth 100000 in
theorem x_pgY {w : aW} {d : Nat} (hd : 2 ≤ d) {h : aH} {c : Nat} (cs : CS h c) (V : Nat → Nat → Int) {S : aS} (xg : XG V c S) (ok : OkG S) (p : Nat) (hp : p < sG S) (i : Nat) (hi : i < sGn S p) : WP w d 91 [aO (some (c + 11)), aI ((p : Int)), aI ((i : Int))] (hw h V) (RI (fun r h1 => h1 = hw h V ∧ r = gy S p i)) := by
  obtain ⟨d, rfl⟩ : ∃ d1, d = d1 + 1 := ⟨d - 1, by omega⟩
  refine WP.enter (cd := cd_X3_yOf) rfl ?_
  have hok := ok.1
  have hok2 := (ok.2 p hp).1
  have hls : largs 0 [aO (some (c + 11)), aI ((p : Int)), aI ((i : Int))] = [(0, aO (some (c + 11))), (1, aI ((p : Int))), (2, aI ((i : Int)))] := rfl
  rw [hls]
  clear hls
  refine g_iload_n rfl rfl ?_
  refine g_bipush rfl ?_
  refine g_imul rfl (by omega) (by omega) ?_
  refine g_iload_n rfl rfl ?_
  refine g_iadd rfl (by omega) (by omega) ?_
  refine g_istore_n (l1 := [(3, aI ((((p : Int)) * 12) + ((i : Int)))), (0, aO (some (c + 11))), (1, aI ((p : Int))), (2, aI ((i : Int)))]) rfl rfl ?_
  refine g_iload_n rfl rfl ?_
  refine g_if_lt_f rfl (by omega) ?_
  refine g_iload_n rfl rfl ?_
  refine g_bipush rfl ?_
  refine g_icmp_ge_f rfl (by omega) ?_
  refine g_iload_n rfl rfl ?_
  refine g_if_lt_f rfl (by omega) ?_
  refine g_iload_n rfl rfl ?_
  refine g_aload_n rfl rfl ?_
  refine g_getR rfl (cs.kd 11 (by omega) rfl) (cs.rf 17 (by omega) rfl) ?_
  refine g_alen rfl (cs.ar 13 (by omega) rfl) (by decide) ?_
  refine g_icmp_lt_t rfl (by omega) ?_
  refine g_aload_n rfl rfl ?_
  refine g_getR rfl (cs.kd 11 (by omega) rfl) (cs.rf 17 (by omega) rfl) ?_
  refine g_iload_n rfl rfl ?_
  refine g_iald (i := 12 * p + i) rfl (cs.ar 13 (by omega) rfl) (by omega) (by omega) ?_
  refine g_top (v2 := aI (gy S p i)) (congrArg aI (by exact ((xg.2 p hp).2 i (by omega)).2)) ?_
  refine g_iret rfl ?_
  exact ⟨rfl, rfl⟩
set_option maxRecDepth 100000 in
theorem x_pgAft {w : aW} {d : Nat} (hd : 4 ≤ d) {h : aH} {c : Nat} (cs : CS h c) (V : Nat → Nat → Int) {S : aS} (xg : XG V c S) (ok : OkG S) (p : Nat) (hp : p < sG S) (i : Nat) (hi : i < sGn S p) : WP w d 95 [aO (some (c + 11)), aI ((p : Int)), aI ((i : Int))] (hw h V) (RI (fun r h1 => h1 = hw h V ∧ r = (gAft S p i : Int))) := by
  obtain ⟨d, rfl⟩ : ∃ d1, d = d1 + 1 := ⟨d - 1, by omega⟩
  refine WP.enter (cd := cd_X3_after) rfl ?_
  have hok2 := (ok.2 p hp).1
  have hls : largs 0 [aO (some (c + 11)), aI ((p : Int)), aI ((i : Int))] = [(0, aO (some (c + 11))), (1, aI ((p : Int))), (2, aI ((i : Int)))] := rfl
  rw [hls]
  clear hls
  refine g_iload_n rfl rfl ?_
  refine g_iconst rfl ?_
  refine g_iadd rfl (by omega) (by omega) ?_
  refine g_aload_n rfl rfl ?_
  refine g_iload_n rfl rfl ?_
  refine g_callVI [aI ((p : Int))] [aI (((i : Int)) + 1)] rfl rfl rfl rfl (Nat.le_of_ble_eq_true rfl) (cs.kd 11 (by omega) rfl) (x_pgSize (by omega) cs V xg ok p (by omega)) ?_
  rintro r1 hx1 ⟨ehx1, rfl⟩
  rw [ehx1]
  clear ehx1 hx1
  refine g_icmp_ge rfl (fun cq8 => ?_) (fun cq8 => ?_)
  · skip
    refine g_iconst rfl ?_
    refine g_iret rfl ?_
    refine ⟨rfl, ?_⟩
    unfold gAft
    first
      | (rw [if_pos (by omega)]; rfl)
      | (rw [if_neg (by omega)]; rfl)
  · skip
    refine g_iload_n rfl rfl ?_
    refine g_iconst rfl ?_
    refine g_iadd rfl (by omega) (by omega) ?_
    refine g_goto rfl ?_
    refine g_iret rfl ?_
    refine ⟨rfl, ?_⟩
    unfold gAft
    first
      | (rw [if_pos (by omega)]; rfl)
      | (rw [if_neg (by omega)]; rfl)
set_option maxRecDepth 100000 in
theorem x_pgSame {w : aW} {d : Nat} (hd : 3 ≤ d) {h : aH} {c : Nat} (cs : CS h c) (V : Nat → Nat → Int) {S : aS} (xg : XG V c S) (ok : OkG S) (p : Nat) (hp : p < sG S) (a : Nat) (ha : a < sGn S p) (b : Nat) (hb : b < sGn S p) : WP w d 96 [aO (some (c + 11)), aI ((p : Int)), aI ((a : Int)), aI ((b : Int))] (hw h V) (RI (fun r h1 => h1 = hw h V ∧ r = if gSame S p a b then 1 else 0)) := by
  obtain ⟨d, rfl⟩ : ∃ d1, d = d1 + 1 := ⟨d - 1, by omega⟩
  refine WP.enter (cd := cd_X3_isSamePlace) rfl ?_
  have hls : largs 0 [aO (some (c + 11)), aI ((p : Int)), aI ((a : Int)), aI ((b : Int))] = [(0, aO (some (c + 11))), (1, aI ((p : Int))), (2, aI ((a : Int))), (3, aI ((b : Int)))] := rfl
  rw [hls]
  clear hls
  refine g_aload_n rfl rfl ?_
  refine g_iload_n rfl rfl ?_
  refine g_iload_n rfl rfl ?_
  refine g_callVI [aI ((p : Int)), aI ((a : Int))] [] rfl rfl rfl rfl (Nat.le_of_ble_eq_true rfl) (cs.kd 11 (by omega) rfl) (x_pgX (by omega) cs V xg ok p (by omega) a (by omega)) ?_
  rintro r1 hx1 ⟨ehx1, rfl⟩
  rw [ehx1]
  clear ehx1 hx1
  refine g_aload_n rfl rfl ?_
  refine g_iload_n rfl rfl ?_
  refine g_iload_n rfl rfl ?_
  refine g_callVI [aI ((p : Int)), aI ((b : Int))] [aI (gx S p a)] rfl rfl rfl rfl (Nat.le_of_ble_eq_true rfl) (cs.kd 11 (by omega) rfl) (x_pgX (by omega) cs V xg ok p (by omega) b (by omega)) ?_
  rintro r2 hx2 ⟨ehx2, rfl⟩
  rw [ehx2]
  clear ehx2 hx2
  refine g_icmp_ne rfl (fun cq12 => ?_) (fun cq12 => ?_)
  · skip
    refine g_iconst rfl ?_
    refine g_zret rfl (by omega) ?_
    refine ⟨rfl, ?_⟩
    first
      | (rw [if_pos (by omega)]; done)
      | (rw [if_neg (by omega)]; done)
  · skip
    refine g_aload_n rfl rfl ?_
    refine g_iload_n rfl rfl ?_
    refine g_iload_n rfl rfl ?_
    refine g_callVI [aI ((p : Int)), aI ((a : Int))] [] rfl rfl rfl rfl (Nat.le_of_ble_eq_true rfl) (cs.kd 11 (by omega) rfl) (x_pgY (by omega) cs V xg ok p (by omega) a (by omega)) ?_
    rintro r3 hx3 ⟨ehx3, rfl⟩
    rw [ehx3]
    clear ehx3 hx3
    refine g_aload_n rfl rfl ?_
    refine g_iload_n rfl rfl ?_
    refine g_iload_n rfl rfl ?_
    refine g_callVI [aI ((p : Int)), aI ((b : Int))] [aI (gy S p a)] rfl rfl rfl rfl (Nat.le_of_ble_eq_true rfl) (cs.kd 11 (by omega) rfl) (x_pgY (by omega) cs V xg ok p (by omega) b (by omega)) ?_
    rintro r4 hx4 ⟨ehx4, rfl⟩
    rw [ehx4]
    clear ehx4 hx4
    refine g_icmp_ne rfl (fun cq27 => ?_) (fun cq27 => ?_)
    · skip
      refine g_iconst rfl ?_
      refine g_zret rfl (by omega) ?_
      refine ⟨rfl, ?_⟩
      first
        | (rw [if_pos (by omega)]; done)
        | (rw [if_neg (by omega)]; done)
    · skip
      refine g_iconst rfl ?_
      refine g_goto rfl ?_
      refine g_zret rfl (by omega) ?_
      refine ⟨rfl, ?_⟩
      first
        | (rw [if_pos (by omega)]; done)
        | (rw [if_neg (by omega)]; done)
set_option maxRecDepth 100000 in
theorem x_pgTurn {w : aW} {d : Nat} (hd : 3 ≤ d) {h : aH} {c : Nat} (cs : CS h c) (V : Nat → Nat → Int) {S : aS} (xg : XG V c S) (ok : OkG S) (p : Nat) (hp : p < sG S) (a : Nat) (ha : a < sGn S p) (b : Nat) (hb : b < sGn S p) (q : Nat) (hq : q < sGn S p) : WP w d 97 [aO (some (c + 11)), aI ((p : Int)), aI ((a : Int)), aI ((b : Int)), aI ((q : Int))] (hw h V) (RI (fun r h1 => h1 = hw h V ∧ r = gT S p a b q)) := by
  obtain ⟨d, rfl⟩ : ∃ d1, d = d1 + 1 := ⟨d - 1, by omega⟩
  refine WP.enter (cd := cd_X3_turn) rfl ?_
  have bxa := ok.x hp (i := a) (by omega)
  have bya := ok.y hp (i := a) (by omega)
  have bxb := ok.x hp (i := b) (by omega)
  have byb := ok.y hp (i := b) (by omega)
  have bxq := ok.x hp (i := q) (by omega)
  have byq := ok.y hp (i := q) (by omega)
  have hls : largs 0 [aO (some (c + 11)), aI ((p : Int)), aI ((a : Int)), aI ((b : Int)), aI ((q : Int))] = [(0, aO (some (c + 11))), (1, aI ((p : Int))), (2, aI ((a : Int))), (3, aI ((b : Int))), (4, aI ((q : Int)))] := rfl
  rw [hls]
  clear hls
  refine g_aload_n rfl rfl ?_
  refine g_iload_n rfl rfl ?_
  refine g_iload_n rfl rfl ?_
  refine g_callVI [aI ((p : Int)), aI ((b : Int))] [] rfl rfl rfl rfl (Nat.le_of_ble_eq_true rfl) (cs.kd 11 (by omega) rfl) (x_pgX (by omega) cs V xg ok p (by omega) b (by omega)) ?_
  rintro r1 hx1 ⟨ehx1, rfl⟩
  rw [ehx1]
  clear ehx1 hx1
  refine g_aload_n rfl rfl ?_
  refine g_iload_n rfl rfl ?_
  refine g_iload_n rfl rfl ?_
  refine g_callVI [aI ((p : Int)), aI ((a : Int))] [aI (gx S p b)] rfl rfl rfl rfl (Nat.le_of_ble_eq_true rfl) (cs.kd 11 (by omega) rfl) (x_pgX (by omega) cs V xg ok p (by omega) a (by omega)) ?_
  rintro r2 hx2 ⟨ehx2, rfl⟩
  rw [ehx2]
  clear ehx2 hx2
  refine g_isub rfl (by omega) (by omega) ?_
  refine g_aload_n rfl rfl ?_
  refine g_iload_n rfl rfl ?_
  refine g_iload rfl rfl ?_
  refine g_callVI [aI ((p : Int)), aI ((q : Int))] [aI ((gx S p b) - (gx S p a))] rfl rfl rfl rfl (Nat.le_of_ble_eq_true rfl) (cs.kd 11 (by omega) rfl) (x_pgY (by omega) cs V xg ok p (by omega) q (by omega)) ?_
  rintro r3 hx3 ⟨ehx3, rfl⟩
  rw [ehx3]
  clear ehx3 hx3
  refine g_aload_n rfl rfl ?_
  refine g_iload_n rfl rfl ?_
  refine g_iload_n rfl rfl ?_
  refine g_callVI [aI ((p : Int)), aI ((a : Int))] [aI (gy S p q), aI ((gx S p b) - (gx S p a))] rfl rfl rfl rfl (Nat.le_of_ble_eq_true rfl) (cs.kd 11 (by omega) rfl) (x_pgY (by omega) cs V xg ok p (by omega) a (by omega)) ?_
  rintro r4 hx4 ⟨ehx4, rfl⟩
  rw [ehx4]
  clear ehx4 hx4
  refine g_isub rfl (by omega) (by omega) ?_
  have m27 := mul2k (x := gx S p b - gx S p a) (y := gy S p q - gy S p a) (by omega) (by omega)
  refine g_imul rfl (by omega) (by omega) ?_
  refine g_aload_n rfl rfl ?_
  refine g_iload_n rfl rfl ?_
  refine g_iload_n rfl rfl ?_
  refine g_callVI [aI ((p : Int)), aI ((b : Int))] [aI (((gx S p b) - (gx S p a)) * ((gy S p q) - (gy S p a)))] rfl rfl rfl rfl (Nat.le_of_ble_eq_true rfl) (cs.kd 11 (by omega) rfl) (x_pgY (by omega) cs V xg ok p (by omega) b (by omega)) ?_
  rintro r5 hx5 ⟨ehx5, rfl⟩
  rw [ehx5]
  clear ehx5 hx5
  refine g_aload_n rfl rfl ?_
  refine g_iload_n rfl rfl ?_
  refine g_iload_n rfl rfl ?_
  refine g_callVI [aI ((p : Int)), aI ((a : Int))] [aI (gy S p b), aI (((gx S p b) - (gx S p a)) * ((gy S p q) - (gy S p a)))] rfl rfl rfl rfl (Nat.le_of_ble_eq_true rfl) (cs.kd 11 (by omega) rfl) (x_pgY (by omega) cs V xg ok p (by omega) a (by omega)) ?_
  rintro r6 hx6 ⟨ehx6, rfl⟩
  rw [ehx6]
  clear ehx6 hx6
  refine g_isub rfl (by omega) (by omega) ?_
  refine g_aload_n rfl rfl ?_
  refine g_iload_n rfl rfl ?_
  refine g_iload rfl rfl ?_
  refine g_callVI [aI ((p : Int)), aI ((q : Int))] [aI ((gy S p b) - (gy S p a)), aI (((gx S p b) - (gx S p a)) * ((gy S p q) - (gy S p a)))] rfl rfl rfl rfl (Nat.le_of_ble_eq_true rfl) (cs.kd 11 (by omega) rfl) (x_pgX (by omega) cs V xg ok p (by omega) q (by omega)) ?_
  rintro r7 hx7 ⟨ehx7, rfl⟩
  rw [ehx7]
  clear ehx7 hx7
  refine g_aload_n rfl rfl ?_
  refine g_iload_n rfl rfl ?_
  refine g_iload_n rfl rfl ?_
  refine g_callVI [aI ((p : Int)), aI ((a : Int))] [aI (gx S p q), aI ((gy S p b) - (gy S p a)), aI (((gx S p b) - (gx S p a)) * ((gy S p q) - (gy S p a)))] rfl rfl rfl rfl (Nat.le_of_ble_eq_true rfl) (cs.kd 11 (by omega) rfl) (x_pgX (by omega) cs V xg ok p (by omega) a (by omega)) ?_
  rintro r8 hx8 ⟨ehx8, rfl⟩
  rw [ehx8]
  clear ehx8 hx8
  refine g_isub rfl (by omega) (by omega) ?_
  have m55 := mul2k (x := gy S p b - gy S p a) (y := gx S p q - gx S p a) (by omega) (by omega)
  refine g_imul rfl (by omega) (by omega) ?_
  refine g_isub rfl (by omega) (by omega) ?_
  refine g_iret rfl ?_
  exact ⟨rfl, rfl⟩
set_option maxRecDepth 100000 in
theorem x_pgSq {w : aW} {d : Nat} (hd : 3 ≤ d) {h : aH} {c : Nat} (cs : CS h c) (V : Nat → Nat → Int) {S : aS} (xg : XG V c S) (ok : OkG S) (p : Nat) (hp : p < sG S) (a : Nat) (ha : a < sGn S p) (b : Nat) (hb : b < sGn S p) : WP w d 98 [aO (some (c + 11)), aI ((p : Int)), aI ((a : Int)), aI ((b : Int))] (hw h V) (RI (fun r h1 => h1 = hw h V ∧ r = gQ S p a b)) := by
  obtain ⟨d, rfl⟩ : ∃ d1, d = d1 + 1 := ⟨d - 1, by omega⟩
  refine WP.enter (cd := cd_X3_squareOfWay) rfl ?_
  have bxa := ok.x hp (i := a) (by omega)
  have bya := ok.y hp (i := a) (by omega)
  have bxb := ok.x hp (i := b) (by omega)
  have byb := ok.y hp (i := b) (by omega)
  have hls : largs 0 [aO (some (c + 11)), aI ((p : Int)), aI ((a : Int)), aI ((b : Int))] = [(0, aO (some (c + 11))), (1, aI ((p : Int))), (2, aI ((a : Int))), (3, aI ((b : Int)))] := rfl
  rw [hls]
  clear hls
  refine g_aload_n rfl rfl ?_
  refine g_iload_n rfl rfl ?_
  refine g_iload_n rfl rfl ?_
  refine g_callVI [aI ((p : Int)), aI ((b : Int))] [] rfl rfl rfl rfl (Nat.le_of_ble_eq_true rfl) (cs.kd 11 (by omega) rfl) (x_pgX (by omega) cs V xg ok p (by omega) b (by omega)) ?_
  rintro r1 hx1 ⟨ehx1, rfl⟩
  rw [ehx1]
  clear ehx1 hx1
  refine g_aload_n rfl rfl ?_
  refine g_iload_n rfl rfl ?_
  refine g_iload_n rfl rfl ?_
  refine g_callVI [aI ((p : Int)), aI ((a : Int))] [aI (gx S p b)] rfl rfl rfl rfl (Nat.le_of_ble_eq_true rfl) (cs.kd 11 (by omega) rfl) (x_pgX (by omega) cs V xg ok p (by omega) a (by omega)) ?_
  rintro r2 hx2 ⟨ehx2, rfl⟩
  rw [ehx2]
  clear ehx2 hx2
  refine g_isub rfl (by omega) (by omega) ?_
  refine g_istore (l1 := [(4, aI ((gx S p b) - (gx S p a))), (0, aO (some (c + 11))), (1, aI ((p : Int))), (2, aI ((a : Int))), (3, aI ((b : Int)))]) rfl rfl ?_
  refine g_aload_n rfl rfl ?_
  refine g_iload_n rfl rfl ?_
  refine g_iload_n rfl rfl ?_
  refine g_callVI [aI ((p : Int)), aI ((b : Int))] [] rfl rfl rfl rfl (Nat.le_of_ble_eq_true rfl) (cs.kd 11 (by omega) rfl) (x_pgY (by omega) cs V xg ok p (by omega) b (by omega)) ?_
  rintro r3 hx3 ⟨ehx3, rfl⟩
  rw [ehx3]
  clear ehx3 hx3
  refine g_aload_n rfl rfl ?_
  refine g_iload_n rfl rfl ?_
  refine g_iload_n rfl rfl ?_
  refine g_callVI [aI ((p : Int)), aI ((a : Int))] [aI (gy S p b)] rfl rfl rfl rfl (Nat.le_of_ble_eq_true rfl) (cs.kd 11 (by omega) rfl) (x_pgY (by omega) cs V xg ok p (by omega) a (by omega)) ?_
  rintro r4 hx4 ⟨ehx4, rfl⟩
  rw [ehx4]
  clear ehx4 hx4
  refine g_isub rfl (by omega) (by omega) ?_
  refine g_istore (l1 := [(5, aI ((gy S p b) - (gy S p a))), (4, aI ((gx S p b) - (gx S p a))), (0, aO (some (c + 11))), (1, aI ((p : Int))), (2, aI ((a : Int))), (3, aI ((b : Int)))]) rfl rfl ?_
  refine g_iload rfl rfl ?_
  refine g_iload rfl rfl ?_
  have m34 := mul2k (x := gx S p b - gx S p a) (y := gx S p b - gx S p a) (by omega) (by omega)
  refine g_imul rfl (by omega) (by omega) ?_
  refine g_iload rfl rfl ?_
  refine g_iload rfl rfl ?_
  have m39 := mul2k (x := gy S p b - gy S p a) (y := gy S p b - gy S p a) (by omega) (by omega)
  refine g_imul rfl (by omega) (by omega) ?_
  refine g_iadd rfl (by omega) (by omega) ?_
  refine g_iret rfl ?_
  exact ⟨rfl, rfl⟩
set_option maxRecDepth 100000 in
theorem c_imax {w : aW} {d : Nat} (hd : 1 ≤ d) (x y : Int) (h : aH) : WP w d 386 [aI x, aI y] h (RI (fun v h1 => h1 = h ∧ v = max x y)) := by
  obtain ⟨d, rfl⟩ : ∃ d1, d = d1 + 1 := ⟨d - 1, by omega⟩
  refine WP.enter (cd := cd_J9_max_7cf53) rfl ?_
  have hls : largs 0 [aI x, aI y] = [(0, aI x), (1, aI y)] := rfl
  rw [hls]
  clear hls
  refine g_iload_n rfl rfl ?_
  refine g_iload_n rfl rfl ?_
  refine g_icmp_lt rfl (fun cq2 => ?_) (fun cq2 => ?_)
  · skip
    refine g_iload_n rfl rfl ?_
    refine g_iret rfl ?_
    refine ⟨rfl, ?_⟩
    omega
  · skip
    refine g_iload_n rfl rfl ?_
    refine g_goto rfl ?_
    refine g_iret rfl ?_
    refine ⟨rfl, ?_⟩
    omega
set_option maxRecDepth 100000 in
theorem c_lmax {w : aW} {d : Nat} (hd : 1 ≤ d) (x y : Int) (h : aH) : WP w d 387 [aJ x, aJ y] h (RJ (fun v h1 => h1 = h ∧ v = max x y)) := by
  obtain ⟨d, rfl⟩ : ∃ d1, d = d1 + 1 := ⟨d - 1, by omega⟩
  refine WP.enter (cd := cd_J9_max_f86c9) rfl ?_
  have hls : largs 0 [aJ x, aJ y] = [(0, aJ x), (2, aJ y)] := rfl
  rw [hls]
  clear hls
  refine g_lload_n rfl rfl ?_
  refine g_lload_n rfl rfl ?_
  refine g_lc_lt rfl rfl (fun cq2 => ?_) (fun cq2 => ?_)
  · skip
    refine g_lload_n rfl rfl ?_
    refine g_lret rfl ?_
    refine ⟨rfl, ?_⟩
    omega
  · skip
    refine g_lload_n rfl rfl ?_
    refine g_goto rfl ?_
    refine g_lret rfl ?_
    refine ⟨rfl, ?_⟩
    omega
set_option maxRecDepth 100000 in
theorem x_pgBtw {w : aW} {d : Nat} (hd : 3 ≤ d) (l v u : Int) (h : aH) : WP w d 99 [aI l, aI v, aI u] h (RI (fun r h1 => h1 = h ∧ r = if btw l v u then 1 else 0)) := by
  obtain ⟨d, rfl⟩ : ∃ d1, d = d1 + 1 := ⟨d - 1, by omega⟩
  refine WP.enter (cd := cd_X3_isBetween) rfl ?_
  have hls : largs 0 [aI l, aI v, aI u] = [(0, aI l), (1, aI v), (2, aI u)] := rfl
  rw [hls]
  clear hls
  refine g_iload_n rfl rfl ?_
  refine g_iload_n rfl rfl ?_
  refine g_callSI [aI l, aI u] [] rfl rfl rfl rfl (Nat.le_of_ble_eq_true rfl) (c_imin (by omega) l u _) ?_
  rintro r1 hx1 ⟨ehx1, rfl⟩
  rw [ehx1]
  clear ehx1 hx1
  refine g_iload_n rfl rfl ?_
  refine g_icmp_gt rfl (fun cq6 => ?_) (fun cq6 => ?_)
  · skip
    refine g_iconst rfl ?_
    refine g_zret rfl (by omega) ?_
    refine ⟨rfl, ?_⟩
    unfold btw
    first
      | (rw [if_pos (by omega)]; done)
      | (rw [if_neg (by omega)]; done)
  · skip
    refine g_iload_n rfl rfl ?_
    refine g_iload_n rfl rfl ?_
    refine g_iload_n rfl rfl ?_
    refine g_callSI [aI l, aI u] [aI v] rfl rfl rfl rfl (Nat.le_of_ble_eq_true rfl) (c_imax (by omega) l u _) ?_
    rintro r2 hx2 ⟨ehx2, rfl⟩
    rw [ehx2]
    clear ehx2 hx2
    refine g_icmp_gt rfl (fun cq15 => ?_) (fun cq15 => ?_)
    · skip
      refine g_iconst rfl ?_
      refine g_zret rfl (by omega) ?_
      refine ⟨rfl, ?_⟩
      unfold btw
      first
        | (rw [if_pos (by omega)]; done)
        | (rw [if_neg (by omega)]; done)
    · skip
      refine g_iconst rfl ?_
      refine g_goto rfl ?_
      refine g_zret rfl (by omega) ?_
      refine ⟨rfl, ?_⟩
      unfold btw
      first
        | (rw [if_pos (by omega)]; done)
        | (rw [if_neg (by omega)]; done)
set_option maxRecDepth 100000 in
theorem x_pgOpp {w : aW} {d : Nat} (hd : 2 ≤ d) (v u : Int) (h : aH) : WP w d 101 [aI v, aI u] h (RI (fun r h1 => h1 = h ∧ r = if opp v u then 1 else 0)) := by
  obtain ⟨d, rfl⟩ : ∃ d1, d = d1 + 1 := ⟨d - 1, by omega⟩
  refine WP.enter (cd := cd_X3_areOpposite) rfl ?_
  have hls : largs 0 [aI v, aI u] = [(0, aI v), (1, aI u)] := rfl
  rw [hls]
  clear hls
  refine g_iload_n rfl rfl ?_
  refine g_if_ge rfl (fun cq1 => ?_) (fun cq1 => ?_)
  · skip
    refine g_iload_n rfl rfl ?_
    refine g_if_le rfl (fun cq9 => ?_) (fun cq9 => ?_)
    · skip
      refine g_iconst rfl ?_
      refine g_zret rfl (by omega) ?_
      refine ⟨rfl, ?_⟩
      unfold opp
      first
        | (rw [if_pos (by omega)]; done)
        | (rw [if_neg (by omega)]; done)
    · skip
      refine g_iload_n rfl rfl ?_
      refine g_if_ge rfl (fun cq13 => ?_) (fun cq13 => ?_)
      · skip
        refine g_iconst rfl ?_
        refine g_zret rfl (by omega) ?_
        refine ⟨rfl, ?_⟩
        unfold opp
        first
          | (rw [if_pos (by omega)]; done)
          | (rw [if_neg (by omega)]; done)
      · skip
        refine g_iconst rfl ?_
        refine g_goto rfl ?_
        refine g_zret rfl (by omega) ?_
        refine ⟨rfl, ?_⟩
        unfold opp
        first
          | (rw [if_pos (by omega)]; done)
          | (rw [if_neg (by omega)]; done)
  · skip
    refine g_iload_n rfl rfl ?_
    refine g_if_gt rfl (fun cq5 => ?_) (fun cq5 => ?_)
    · skip
      refine g_iconst rfl ?_
      refine g_goto rfl ?_
      refine g_zret rfl (by omega) ?_
      refine ⟨rfl, ?_⟩
      unfold opp
      first
        | (rw [if_pos (by omega)]; done)
        | (rw [if_neg (by omega)]; done)
    · skip
      refine g_iload_n rfl rfl ?_
      refine g_if_le rfl (fun cq9 => ?_) (fun cq9 => ?_)
      · skip
        refine g_iconst rfl ?_
        refine g_zret rfl (by omega) ?_
        refine ⟨rfl, ?_⟩
        unfold opp
        first
          | (rw [if_pos (by omega)]; done)
          | (rw [if_neg (by omega)]; done)
      · skip
        refine g_iload_n rfl rfl ?_
        refine g_if_ge rfl (fun cq13 => ?_) (fun cq13 => ?_)
        · skip
          refine g_iconst rfl ?_
          refine g_zret rfl (by omega) ?_
          refine ⟨rfl, ?_⟩
          unfold opp
          first
            | (rw [if_pos (by omega)]; done)
            | (rw [if_neg (by omega)]; done)
        · skip
          refine g_iconst rfl ?_
          refine g_goto rfl ?_
          refine g_zret rfl (by omega) ?_
          refine ⟨rfl, ?_⟩
          unfold opp
          first
            | (rw [if_pos (by omega)]; done)
            | (rw [if_neg (by omega)]; done)
set_option maxRecDepth 100000 in
theorem x_pgOn {w : aW} {d : Nat} (hd : 4 ≤ d) {h : aH} {c : Nat} (cs : CS h c) (V : Nat → Nat → Int) {S : aS} (xg : XG V c S) (ok : OkG S) (p : Nat) (hp : p < sG S) (a : Nat) (ha : a < sGn S p) (b : Nat) (hb : b < sGn S p) (q : Nat) (hq : q < sGn S p) : WP w d 100 [aO (some (c + 11)), aI ((p : Int)), aI ((a : Int)), aI ((b : Int)), aI ((q : Int))] (hw h V) (RI (fun r h1 => h1 = hw h V ∧ r = if gOn S p a b q then 1 else 0)) := by
  obtain ⟨d, rfl⟩ : ∃ d1, d = d1 + 1 := ⟨d - 1, by omega⟩
  refine WP.enter (cd := cd_X3_isOnWay) rfl ?_
  have hls : largs 0 [aO (some (c + 11)), aI ((p : Int)), aI ((a : Int)), aI ((b : Int)), aI ((q : Int))] = [(0, aO (some (c + 11))), (1, aI ((p : Int))), (2, aI ((a : Int))), (3, aI ((b : Int))), (4, aI ((q : Int)))] := rfl
  rw [hls]
  clear hls
  refine g_aload_n rfl rfl ?_
  refine g_iload_n rfl rfl ?_
  refine g_iload_n rfl rfl ?_
  refine g_iload_n rfl rfl ?_
  refine g_iload rfl rfl ?_
  refine g_callVI [aI ((p : Int)), aI ((a : Int)), aI ((b : Int)), aI ((q : Int))] [] rfl rfl rfl rfl (Nat.le_of_ble_eq_true rfl) (cs.kd 11 (by omega) rfl) (x_pgTurn (by omega) cs V xg ok p (by omega) a (by omega) b (by omega) q (by omega)) ?_
  rintro r1 hx1 ⟨ehx1, rfl⟩
  rw [ehx1]
  clear ehx1 hx1
  refine g_if_ne rfl (fun cq9 => ?_) (fun cq9 => ?_)
  · skip
    refine g_iconst rfl ?_
    refine g_zret rfl (by omega) ?_
    refine ⟨rfl, ?_⟩
    first
      | (refine (if_pos ?_).symm; refine ⟨?_, cq34, cq59⟩ <;> omega)
      | (refine (if_neg ?_).symm; intro z; have := z.1; omega)
      | (refine (if_neg ?_).symm; intro z; exact cq34 z.2.1)
      | (refine (if_neg ?_).symm; intro z; exact cq59 z.2.2)
  · skip
    refine g_aload_n rfl rfl ?_
    refine g_iload_n rfl rfl ?_
    refine g_iload_n rfl rfl ?_
    refine g_callVI [aI ((p : Int)), aI ((a : Int))] [] rfl rfl rfl rfl (Nat.le_of_ble_eq_true rfl) (cs.kd 11 (by omega) rfl) (x_pgX (by omega) cs V xg ok p (by omega) a (by omega)) ?_
    rintro r2 hx2 ⟨ehx2, rfl⟩
    rw [ehx2]
    clear ehx2 hx2
    refine g_aload_n rfl rfl ?_
    refine g_iload_n rfl rfl ?_
    refine g_iload rfl rfl ?_
    refine g_callVI [aI ((p : Int)), aI ((q : Int))] [aI (gx S p a)] rfl rfl rfl rfl (Nat.le_of_ble_eq_true rfl) (cs.kd 11 (by omega) rfl) (x_pgX (by omega) cs V xg ok p (by omega) q (by omega)) ?_
    rintro r3 hx3 ⟨ehx3, rfl⟩
    rw [ehx3]
    clear ehx3 hx3
    refine g_aload_n rfl rfl ?_
    refine g_iload_n rfl rfl ?_
    refine g_iload_n rfl rfl ?_
    refine g_callVI [aI ((p : Int)), aI ((b : Int))] [aI (gx S p q), aI (gx S p a)] rfl rfl rfl rfl (Nat.le_of_ble_eq_true rfl) (cs.kd 11 (by omega) rfl) (x_pgX (by omega) cs V xg ok p (by omega) b (by omega)) ?_
    rintro r4 hx4 ⟨ehx4, rfl⟩
    rw [ehx4]
    clear ehx4 hx4
    refine g_callSI [aI (gx S p a), aI (gx S p q), aI (gx S p b)] [] rfl rfl rfl rfl (Nat.le_of_ble_eq_true rfl) (x_pgBtw (by omega) (gx S p a) (gx S p q) (gx S p b) _) ?_
    rintro r5 hx5 ⟨ehx5, rfl⟩
    rw [ehx5]
    clear ehx5 hx5
    refine g_b_eq rfl (fun cq34 => ?_) (fun cq34 => ?_)
    · skip
      refine g_iconst rfl ?_
      refine g_zret rfl (by omega) ?_
      refine ⟨rfl, ?_⟩
      first
        | (refine (if_pos ?_).symm; refine ⟨?_, cq34, cq59⟩ <;> omega)
        | (refine (if_neg ?_).symm; intro z; have := z.1; omega)
        | (refine (if_neg ?_).symm; intro z; exact cq34 z.2.1)
        | (refine (if_neg ?_).symm; intro z; exact cq59 z.2.2)
    · skip
      refine g_aload_n rfl rfl ?_
      refine g_iload_n rfl rfl ?_
      refine g_iload_n rfl rfl ?_
      refine g_callVI [aI ((p : Int)), aI ((a : Int))] [] rfl rfl rfl rfl (Nat.le_of_ble_eq_true rfl) (cs.kd 11 (by omega) rfl) (x_pgY (by omega) cs V xg ok p (by omega) a (by omega)) ?_
      rintro r6 hx6 ⟨ehx6, rfl⟩
      rw [ehx6]
      clear ehx6 hx6
      refine g_aload_n rfl rfl ?_
      refine g_iload_n rfl rfl ?_
      refine g_iload rfl rfl ?_
      refine g_callVI [aI ((p : Int)), aI ((q : Int))] [aI (gy S p a)] rfl rfl rfl rfl (Nat.le_of_ble_eq_true rfl) (cs.kd 11 (by omega) rfl) (x_pgY (by omega) cs V xg ok p (by omega) q (by omega)) ?_
      rintro r7 hx7 ⟨ehx7, rfl⟩
      rw [ehx7]
      clear ehx7 hx7
      refine g_aload_n rfl rfl ?_
      refine g_iload_n rfl rfl ?_
      refine g_iload_n rfl rfl ?_
      refine g_callVI [aI ((p : Int)), aI ((b : Int))] [aI (gy S p q), aI (gy S p a)] rfl rfl rfl rfl (Nat.le_of_ble_eq_true rfl) (cs.kd 11 (by omega) rfl) (x_pgY (by omega) cs V xg ok p (by omega) b (by omega)) ?_
      rintro r8 hx8 ⟨ehx8, rfl⟩
      rw [ehx8]
      clear ehx8 hx8
      refine g_callSI [aI (gy S p a), aI (gy S p q), aI (gy S p b)] [] rfl rfl rfl rfl (Nat.le_of_ble_eq_true rfl) (x_pgBtw (by omega) (gy S p a) (gy S p q) (gy S p b) _) ?_
      rintro r9 hx9 ⟨ehx9, rfl⟩
      rw [ehx9]
      clear ehx9 hx9
      refine g_b_eq rfl (fun cq59 => ?_) (fun cq59 => ?_)
      · skip
        refine g_iconst rfl ?_
        refine g_zret rfl (by omega) ?_
        refine ⟨rfl, ?_⟩
        first
          | (refine (if_pos ?_).symm; refine ⟨?_, cq34, cq59⟩ <;> omega)
          | (refine (if_neg ?_).symm; intro z; have := z.1; omega)
          | (refine (if_neg ?_).symm; intro z; exact cq34 z.2.1)
          | (refine (if_neg ?_).symm; intro z; exact cq59 z.2.2)
      · skip
        refine g_iconst rfl ?_
        refine g_goto rfl ?_
        refine g_zret rfl (by omega) ?_
        refine ⟨rfl, ?_⟩
        first
          | (refine (if_pos ?_).symm; refine ⟨?_, cq34, cq59⟩ <;> omega)
          | (refine (if_neg ?_).symm; intro z; have := z.1; omega)
          | (refine (if_neg ?_).symm; intro z; exact cq34 z.2.1)
          | (refine (if_neg ?_).symm; intro z; exact cq59 z.2.2)
set_option maxRecDepth 100000 in
theorem x_pgMeet {w : aW} {d : Nat} (hd : 5 ≤ d) {h : aH} {c : Nat} (cs : CS h c) (V : Nat → Nat → Int) {S : aS} (xg : XG V c S) (ok : OkG S) (p : Nat) (hp : p < sG S) (a : Nat) (ha : a < sGn S p) (b : Nat) (hb : b < sGn S p) (q : Nat) (hq : q < sGn S p) (t : Nat) (ht : t < sGn S p) : WP w d 102 [aO (some (c + 11)), aI ((p : Int)), aI ((a : Int)), aI ((b : Int)), aI ((q : Int)), aI ((t : Int))] (hw h V) (RI (fun r h1 => h1 = hw h V ∧ r = if gMeet S p a b q t then 1 else 0)) := by
  obtain ⟨d, rfl⟩ : ∃ d1, d = d1 + 1 := ⟨d - 1, by omega⟩
  refine WP.enter (cd := cd_X3_meet) rfl ?_
  have hls : largs 0 [aO (some (c + 11)), aI ((p : Int)), aI ((a : Int)), aI ((b : Int)), aI ((q : Int)), aI ((t : Int))] = [(0, aO (some (c + 11))), (1, aI ((p : Int))), (2, aI ((a : Int))), (3, aI ((b : Int))), (4, aI ((q : Int))), (5, aI ((t : Int)))] := rfl
  rw [hls]
  clear hls
  refine g_aload_n rfl rfl ?_
  refine g_iload_n rfl rfl ?_
  refine g_iload_n rfl rfl ?_
  refine g_iload_n rfl rfl ?_
  refine g_iload rfl rfl ?_
  refine g_callVI [aI ((p : Int)), aI ((a : Int)), aI ((b : Int)), aI ((q : Int))] [] rfl rfl rfl rfl (Nat.le_of_ble_eq_true rfl) (cs.kd 11 (by omega) rfl) (x_pgTurn (by omega) cs V xg ok p (by omega) a (by omega) b (by omega) q (by omega)) ?_
  rintro r1 hx1 ⟨ehx1, rfl⟩
  rw [ehx1]
  clear ehx1 hx1
  refine g_aload_n rfl rfl ?_
  refine g_iload_n rfl rfl ?_
  refine g_iload_n rfl rfl ?_
  refine g_iload_n rfl rfl ?_
  refine g_iload rfl rfl ?_
  refine g_callVI [aI ((p : Int)), aI ((a : Int)), aI ((b : Int)), aI ((t : Int))] [aI (gT S p a b q)] rfl rfl rfl rfl (Nat.le_of_ble_eq_true rfl) (cs.kd 11 (by omega) rfl) (x_pgTurn (by omega) cs V xg ok p (by omega) a (by omega) b (by omega) t (by omega)) ?_
  rintro r2 hx2 ⟨ehx2, rfl⟩
  rw [ehx2]
  clear ehx2 hx2
  refine g_callSI [aI (gT S p a b q), aI (gT S p a b t)] [] rfl rfl rfl rfl (Nat.le_of_ble_eq_true rfl) (x_pgOpp (by omega) (gT S p a b q) (gT S p a b t) _) ?_
  rintro r3 hx3 ⟨ehx3, rfl⟩
  rw [ehx3]
  clear ehx3 hx3
  refine g_b_eq rfl (fun cq21 => ?_) (fun cq21 => ?_)
  · skip
    refine g_aload_n rfl rfl ?_
    refine g_iload_n rfl rfl ?_
    refine g_iload_n rfl rfl ?_
    refine g_iload_n rfl rfl ?_
    refine g_iload rfl rfl ?_
    refine g_callVI [aI ((p : Int)), aI ((a : Int)), aI ((b : Int)), aI ((q : Int))] [] rfl rfl rfl rfl (Nat.le_of_ble_eq_true rfl) (cs.kd 11 (by omega) rfl) (x_pgOn (by omega) cs V xg ok p (by omega) a (by omega) b (by omega) q (by omega)) ?_
    rintro r4 hx4 ⟨ehx4, rfl⟩
    rw [ehx4]
    clear ehx4 hx4
    refine g_b_ne rfl (fun cq61 => ?_) (fun cq61 => ?_)
    · skip
      refine g_iconst rfl ?_
      refine g_goto rfl ?_
      refine g_zret rfl (by omega) ?_
      refine ⟨rfl, ?_⟩
      first
        | (refine (if_pos ?_).symm; exact (Or.inr (Or.inl cq61)))
        | (refine (if_pos ?_).symm; exact (Or.inr (Or.inr (Or.inl cq73))))
        | (refine (if_pos ?_).symm; exact (Or.inr (Or.inr (Or.inr (Or.inl cq86)))))
        | (refine (if_pos ?_).symm; exact (Or.inr (Or.inr (Or.inr (Or.inr cq99)))))
        | (refine (if_neg ?_).symm; intro z; exact z.elim (fun z => cq21 z.1) (fun z => z.elim cq61 (fun z => z.elim cq73 (fun z => z.elim cq86 cq99))))
        | (refine (if_neg ?_).symm; intro z; exact z.elim (fun z => cq47 z.2) (fun z => z.elim cq61 (fun z => z.elim cq73 (fun z => z.elim cq86 cq99))))
    · skip
      refine g_aload_n rfl rfl ?_
      refine g_iload_n rfl rfl ?_
      refine g_iload_n rfl rfl ?_
      refine g_iload_n rfl rfl ?_
      refine g_iload rfl rfl ?_
      refine g_callVI [aI ((p : Int)), aI ((a : Int)), aI ((b : Int)), aI ((t : Int))] [] rfl rfl rfl rfl (Nat.le_of_ble_eq_true rfl) (cs.kd 11 (by omega) rfl) (x_pgOn (by omega) cs V xg ok p (by omega) a (by omega) b (by omega) t (by omega)) ?_
      rintro r5 hx5 ⟨ehx5, rfl⟩
      rw [ehx5]
      clear ehx5 hx5
      refine g_b_ne rfl (fun cq73 => ?_) (fun cq73 => ?_)
      · skip
        refine g_iconst rfl ?_
        refine g_goto rfl ?_
        refine g_zret rfl (by omega) ?_
        refine ⟨rfl, ?_⟩
        first
          | (refine (if_pos ?_).symm; exact (Or.inr (Or.inl cq61)))
          | (refine (if_pos ?_).symm; exact (Or.inr (Or.inr (Or.inl cq73))))
          | (refine (if_pos ?_).symm; exact (Or.inr (Or.inr (Or.inr (Or.inl cq86)))))
          | (refine (if_pos ?_).symm; exact (Or.inr (Or.inr (Or.inr (Or.inr cq99)))))
          | (refine (if_neg ?_).symm; intro z; exact z.elim (fun z => cq21 z.1) (fun z => z.elim cq61 (fun z => z.elim cq73 (fun z => z.elim cq86 cq99))))
          | (refine (if_neg ?_).symm; intro z; exact z.elim (fun z => cq47 z.2) (fun z => z.elim cq61 (fun z => z.elim cq73 (fun z => z.elim cq86 cq99))))
      · skip
        refine g_aload_n rfl rfl ?_
        refine g_iload_n rfl rfl ?_
        refine g_iload rfl rfl ?_
        refine g_iload rfl rfl ?_
        refine g_iload_n rfl rfl ?_
        refine g_callVI [aI ((p : Int)), aI ((q : Int)), aI ((t : Int)), aI ((a : Int))] [] rfl rfl rfl rfl (Nat.le_of_ble_eq_true rfl) (cs.kd 11 (by omega) rfl) (x_pgOn (by omega) cs V xg ok p (by omega) q (by omega) t (by omega) a (by omega)) ?_
        rintro r6 hx6 ⟨ehx6, rfl⟩
        rw [ehx6]
        clear ehx6 hx6
        refine g_b_ne rfl (fun cq86 => ?_) (fun cq86 => ?_)
        · skip
          refine g_iconst rfl ?_
          refine g_goto rfl ?_
          refine g_zret rfl (by omega) ?_
          refine ⟨rfl, ?_⟩
          first
            | (refine (if_pos ?_).symm; exact (Or.inr (Or.inl cq61)))
            | (refine (if_pos ?_).symm; exact (Or.inr (Or.inr (Or.inl cq73))))
            | (refine (if_pos ?_).symm; exact (Or.inr (Or.inr (Or.inr (Or.inl cq86)))))
            | (refine (if_pos ?_).symm; exact (Or.inr (Or.inr (Or.inr (Or.inr cq99)))))
            | (refine (if_neg ?_).symm; intro z; exact z.elim (fun z => cq21 z.1) (fun z => z.elim cq61 (fun z => z.elim cq73 (fun z => z.elim cq86 cq99))))
            | (refine (if_neg ?_).symm; intro z; exact z.elim (fun z => cq47 z.2) (fun z => z.elim cq61 (fun z => z.elim cq73 (fun z => z.elim cq86 cq99))))
        · skip
          refine g_aload_n rfl rfl ?_
          refine g_iload_n rfl rfl ?_
          refine g_iload rfl rfl ?_
          refine g_iload rfl rfl ?_
          refine g_iload_n rfl rfl ?_
          refine g_callVI [aI ((p : Int)), aI ((q : Int)), aI ((t : Int)), aI ((b : Int))] [] rfl rfl rfl rfl (Nat.le_of_ble_eq_true rfl) (cs.kd 11 (by omega) rfl) (x_pgOn (by omega) cs V xg ok p (by omega) q (by omega) t (by omega) b (by omega)) ?_
          rintro r7 hx7 ⟨ehx7, rfl⟩
          rw [ehx7]
          clear ehx7 hx7
          refine g_b_eq rfl (fun cq99 => ?_) (fun cq99 => ?_)
          · skip
            refine g_iconst rfl ?_
            refine g_zret rfl (by omega) ?_
            refine ⟨rfl, ?_⟩
            first
              | (refine (if_pos ?_).symm; exact (Or.inr (Or.inl cq61)))
              | (refine (if_pos ?_).symm; exact (Or.inr (Or.inr (Or.inl cq73))))
              | (refine (if_pos ?_).symm; exact (Or.inr (Or.inr (Or.inr (Or.inl cq86)))))
              | (refine (if_pos ?_).symm; exact (Or.inr (Or.inr (Or.inr (Or.inr cq99)))))
              | (refine (if_neg ?_).symm; intro z; exact z.elim (fun z => cq21 z.1) (fun z => z.elim cq61 (fun z => z.elim cq73 (fun z => z.elim cq86 cq99))))
              | (refine (if_neg ?_).symm; intro z; exact z.elim (fun z => cq47 z.2) (fun z => z.elim cq61 (fun z => z.elim cq73 (fun z => z.elim cq86 cq99))))
          · skip
            refine g_iconst rfl ?_
            refine g_goto rfl ?_
            refine g_zret rfl (by omega) ?_
            refine ⟨rfl, ?_⟩
            first
              | (refine (if_pos ?_).symm; exact (Or.inr (Or.inl cq61)))
              | (refine (if_pos ?_).symm; exact (Or.inr (Or.inr (Or.inl cq73))))
              | (refine (if_pos ?_).symm; exact (Or.inr (Or.inr (Or.inr (Or.inl cq86)))))
              | (refine (if_pos ?_).symm; exact (Or.inr (Or.inr (Or.inr (Or.inr cq99)))))
              | (refine (if_neg ?_).symm; intro z; exact z.elim (fun z => cq21 z.1) (fun z => z.elim cq61 (fun z => z.elim cq73 (fun z => z.elim cq86 cq99))))
              | (refine (if_neg ?_).symm; intro z; exact z.elim (fun z => cq47 z.2) (fun z => z.elim cq61 (fun z => z.elim cq73 (fun z => z.elim cq86 cq99))))
  · skip
    refine g_aload_n rfl rfl ?_
    refine g_iload_n rfl rfl ?_
    refine g_iload rfl rfl ?_
    refine g_iload rfl rfl ?_
    refine g_iload_n rfl rfl ?_
    refine g_callVI [aI ((p : Int)), aI ((q : Int)), aI ((t : Int)), aI ((a : Int))] [] rfl rfl rfl rfl (Nat.le_of_ble_eq_true rfl) (cs.kd 11 (by omega) rfl) (x_pgTurn (by omega) cs V xg ok p (by omega) q (by omega) t (by omega) a (by omega)) ?_
    rintro r8 hx8 ⟨ehx8, rfl⟩
    rw [ehx8]
    clear ehx8 hx8
    refine g_aload_n rfl rfl ?_
    refine g_iload_n rfl rfl ?_
    refine g_iload rfl rfl ?_
    refine g_iload rfl rfl ?_
    refine g_iload_n rfl rfl ?_
    refine g_callVI [aI ((p : Int)), aI ((q : Int)), aI ((t : Int)), aI ((b : Int))] [aI (gT S p q t a)] rfl rfl rfl rfl (Nat.le_of_ble_eq_true rfl) (cs.kd 11 (by omega) rfl) (x_pgTurn (by omega) cs V xg ok p (by omega) q (by omega) t (by omega) b (by omega)) ?_
    rintro r9 hx9 ⟨ehx9, rfl⟩
    rw [ehx9]
    clear ehx9 hx9
    refine g_callSI [aI (gT S p q t a), aI (gT S p q t b)] [] rfl rfl rfl rfl (Nat.le_of_ble_eq_true rfl) (x_pgOpp (by omega) (gT S p q t a) (gT S p q t b) _) ?_
    rintro r10 hx10 ⟨ehx10, rfl⟩
    rw [ehx10]
    clear ehx10 hx10
    refine g_b_eq rfl (fun cq47 => ?_) (fun cq47 => ?_)
    · skip
      refine g_aload_n rfl rfl ?_
      refine g_iload_n rfl rfl ?_
      refine g_iload_n rfl rfl ?_
      refine g_iload_n rfl rfl ?_
      refine g_iload rfl rfl ?_
      refine g_callVI [aI ((p : Int)), aI ((a : Int)), aI ((b : Int)), aI ((q : Int))] [] rfl rfl rfl rfl (Nat.le_of_ble_eq_true rfl) (cs.kd 11 (by omega) rfl) (x_pgOn (by omega) cs V xg ok p (by omega) a (by omega) b (by omega) q (by omega)) ?_
      rintro r11 hx11 ⟨ehx11, rfl⟩
      rw [ehx11]
      clear ehx11 hx11
      refine g_b_ne rfl (fun cq61 => ?_) (fun cq61 => ?_)
      · skip
        refine g_iconst rfl ?_
        refine g_goto rfl ?_
        refine g_zret rfl (by omega) ?_
        refine ⟨rfl, ?_⟩
        first
          | (refine (if_pos ?_).symm; exact (Or.inr (Or.inl cq61)))
          | (refine (if_pos ?_).symm; exact (Or.inr (Or.inr (Or.inl cq73))))
          | (refine (if_pos ?_).symm; exact (Or.inr (Or.inr (Or.inr (Or.inl cq86)))))
          | (refine (if_pos ?_).symm; exact (Or.inr (Or.inr (Or.inr (Or.inr cq99)))))
          | (refine (if_neg ?_).symm; intro z; exact z.elim (fun z => cq21 z.1) (fun z => z.elim cq61 (fun z => z.elim cq73 (fun z => z.elim cq86 cq99))))
          | (refine (if_neg ?_).symm; intro z; exact z.elim (fun z => cq47 z.2) (fun z => z.elim cq61 (fun z => z.elim cq73 (fun z => z.elim cq86 cq99))))
      · skip
        refine g_aload_n rfl rfl ?_
        refine g_iload_n rfl rfl ?_
        refine g_iload_n rfl rfl ?_
        refine g_iload_n rfl rfl ?_
        refine g_iload rfl rfl ?_
        refine g_callVI [aI ((p : Int)), aI ((a : Int)), aI ((b : Int)), aI ((t : Int))] [] rfl rfl rfl rfl (Nat.le_of_ble_eq_true rfl) (cs.kd 11 (by omega) rfl) (x_pgOn (by omega) cs V xg ok p (by omega) a (by omega) b (by omega) t (by omega)) ?_
        rintro r12 hx12 ⟨ehx12, rfl⟩
        rw [ehx12]
        clear ehx12 hx12
        refine g_b_ne rfl (fun cq73 => ?_) (fun cq73 => ?_)
        · skip
          refine g_iconst rfl ?_
          refine g_goto rfl ?_
          refine g_zret rfl (by omega) ?_
          refine ⟨rfl, ?_⟩
          first
            | (refine (if_pos ?_).symm; exact (Or.inr (Or.inl cq61)))
            | (refine (if_pos ?_).symm; exact (Or.inr (Or.inr (Or.inl cq73))))
            | (refine (if_pos ?_).symm; exact (Or.inr (Or.inr (Or.inr (Or.inl cq86)))))
            | (refine (if_pos ?_).symm; exact (Or.inr (Or.inr (Or.inr (Or.inr cq99)))))
            | (refine (if_neg ?_).symm; intro z; exact z.elim (fun z => cq21 z.1) (fun z => z.elim cq61 (fun z => z.elim cq73 (fun z => z.elim cq86 cq99))))
            | (refine (if_neg ?_).symm; intro z; exact z.elim (fun z => cq47 z.2) (fun z => z.elim cq61 (fun z => z.elim cq73 (fun z => z.elim cq86 cq99))))
        · skip
          refine g_aload_n rfl rfl ?_
          refine g_iload_n rfl rfl ?_
          refine g_iload rfl rfl ?_
          refine g_iload rfl rfl ?_
          refine g_iload_n rfl rfl ?_
          refine g_callVI [aI ((p : Int)), aI ((q : Int)), aI ((t : Int)), aI ((a : Int))] [] rfl rfl rfl rfl (Nat.le_of_ble_eq_true rfl) (cs.kd 11 (by omega) rfl) (x_pgOn (by omega) cs V xg ok p (by omega) q (by omega) t (by omega) a (by omega)) ?_
          rintro r13 hx13 ⟨ehx13, rfl⟩
          rw [ehx13]
          clear ehx13 hx13
          refine g_b_ne rfl (fun cq86 => ?_) (fun cq86 => ?_)
          · skip
            refine g_iconst rfl ?_
            refine g_goto rfl ?_
            refine g_zret rfl (by omega) ?_
            refine ⟨rfl, ?_⟩
            first
              | (refine (if_pos ?_).symm; exact (Or.inr (Or.inl cq61)))
              | (refine (if_pos ?_).symm; exact (Or.inr (Or.inr (Or.inl cq73))))
              | (refine (if_pos ?_).symm; exact (Or.inr (Or.inr (Or.inr (Or.inl cq86)))))
              | (refine (if_pos ?_).symm; exact (Or.inr (Or.inr (Or.inr (Or.inr cq99)))))
              | (refine (if_neg ?_).symm; intro z; exact z.elim (fun z => cq21 z.1) (fun z => z.elim cq61 (fun z => z.elim cq73 (fun z => z.elim cq86 cq99))))
              | (refine (if_neg ?_).symm; intro z; exact z.elim (fun z => cq47 z.2) (fun z => z.elim cq61 (fun z => z.elim cq73 (fun z => z.elim cq86 cq99))))
          · skip
            refine g_aload_n rfl rfl ?_
            refine g_iload_n rfl rfl ?_
            refine g_iload rfl rfl ?_
            refine g_iload rfl rfl ?_
            refine g_iload_n rfl rfl ?_
            refine g_callVI [aI ((p : Int)), aI ((q : Int)), aI ((t : Int)), aI ((b : Int))] [] rfl rfl rfl rfl (Nat.le_of_ble_eq_true rfl) (cs.kd 11 (by omega) rfl) (x_pgOn (by omega) cs V xg ok p (by omega) q (by omega) t (by omega) b (by omega)) ?_
            rintro r14 hx14 ⟨ehx14, rfl⟩
            rw [ehx14]
            clear ehx14 hx14
            refine g_b_eq rfl (fun cq99 => ?_) (fun cq99 => ?_)
            · skip
              refine g_iconst rfl ?_
              refine g_zret rfl (by omega) ?_
              refine ⟨rfl, ?_⟩
              first
                | (refine (if_pos ?_).symm; exact (Or.inr (Or.inl cq61)))
                | (refine (if_pos ?_).symm; exact (Or.inr (Or.inr (Or.inl cq73))))
                | (refine (if_pos ?_).symm; exact (Or.inr (Or.inr (Or.inr (Or.inl cq86)))))
                | (refine (if_pos ?_).symm; exact (Or.inr (Or.inr (Or.inr (Or.inr cq99)))))
                | (refine (if_neg ?_).symm; intro z; exact z.elim (fun z => cq21 z.1) (fun z => z.elim cq61 (fun z => z.elim cq73 (fun z => z.elim cq86 cq99))))
                | (refine (if_neg ?_).symm; intro z; exact z.elim (fun z => cq47 z.2) (fun z => z.elim cq61 (fun z => z.elim cq73 (fun z => z.elim cq86 cq99))))
            · skip
              refine g_iconst rfl ?_
              refine g_goto rfl ?_
              refine g_zret rfl (by omega) ?_
              refine ⟨rfl, ?_⟩
              first
                | (refine (if_pos ?_).symm; exact (Or.inr (Or.inl cq61)))
                | (refine (if_pos ?_).symm; exact (Or.inr (Or.inr (Or.inl cq73))))
                | (refine (if_pos ?_).symm; exact (Or.inr (Or.inr (Or.inr (Or.inl cq86)))))
                | (refine (if_pos ?_).symm; exact (Or.inr (Or.inr (Or.inr (Or.inr cq99)))))
                | (refine (if_neg ?_).symm; intro z; exact z.elim (fun z => cq21 z.1) (fun z => z.elim cq61 (fun z => z.elim cq73 (fun z => z.elim cq86 cq99))))
                | (refine (if_neg ?_).symm; intro z; exact z.elim (fun z => cq47 z.2) (fun z => z.elim cq61 (fun z => z.elim cq73 (fun z => z.elim cq86 cq99))))
    · skip
      refine g_iconst rfl ?_
      refine g_zret rfl (by omega) ?_
      exact ⟨rfl, (if_pos (Or.inl ⟨cq21, cq47⟩)).symm⟩
set_option maxRecDepth 100000 in
theorem x_pgBack {w : aW} {d : Nat} (hd : 4 ≤ d) {h : aH} {c : Nat} (cs : CS h c) (V : Nat → Nat → Int) {S : aS} (xg : XG V c S) (ok : OkG S) (p : Nat) (hp : p < sG S) (a : Nat) (ha : a < sGn S p) (b : Nat) (hb : b < sGn S p) (q : Nat) (hq : q < sGn S p) : WP w d 105 [aO (some (c + 11)), aI ((p : Int)), aI ((a : Int)), aI ((b : Int)), aI ((q : Int))] (hw h V) (RI (fun r h1 => h1 = hw h V ∧ r = if gBack S p a b q then 1 else 0)) := by
  obtain ⟨d, rfl⟩ : ∃ d1, d = d1 + 1 := ⟨d - 1, by omega⟩
  refine WP.enter (cd := cd_X3_goesBack) rfl ?_
  have bxa := ok.x hp (i := a) (by omega)
  have bya := ok.y hp (i := a) (by omega)
  have bxb := ok.x hp (i := b) (by omega)
  have byb := ok.y hp (i := b) (by omega)
  have bxq := ok.x hp (i := q) (by omega)
  have byq := ok.y hp (i := q) (by omega)
  have hls : largs 0 [aO (some (c + 11)), aI ((p : Int)), aI ((a : Int)), aI ((b : Int)), aI ((q : Int))] = [(0, aO (some (c + 11))), (1, aI ((p : Int))), (2, aI ((a : Int))), (3, aI ((b : Int))), (4, aI ((q : Int)))] := rfl
  rw [hls]
  clear hls
  refine g_aload_n rfl rfl ?_
  refine g_iload_n rfl rfl ?_
  refine g_iload_n rfl rfl ?_
  refine g_callVI [aI ((p : Int)), aI ((a : Int))] [] rfl rfl rfl rfl (Nat.le_of_ble_eq_true rfl) (cs.kd 11 (by omega) rfl) (x_pgX (by omega) cs V xg ok p (by omega) a (by omega)) ?_
  rintro r1 hx1 ⟨ehx1, rfl⟩
  rw [ehx1]
  clear ehx1 hx1
  refine g_aload_n rfl rfl ?_
  refine g_iload_n rfl rfl ?_
  refine g_iload_n rfl rfl ?_
  refine g_callVI [aI ((p : Int)), aI ((b : Int))] [aI (gx S p a)] rfl rfl rfl rfl (Nat.le_of_ble_eq_true rfl) (cs.kd 11 (by omega) rfl) (x_pgX (by omega) cs V xg ok p (by omega) b (by omega)) ?_
  rintro r2 hx2 ⟨ehx2, rfl⟩
  rw [ehx2]
  clear ehx2 hx2
  refine g_isub rfl (by omega) (by omega) ?_
  refine g_aload_n rfl rfl ?_
  refine g_iload_n rfl rfl ?_
  refine g_iload rfl rfl ?_
  refine g_callVI [aI ((p : Int)), aI ((q : Int))] [aI ((gx S p a) - (gx S p b))] rfl rfl rfl rfl (Nat.le_of_ble_eq_true rfl) (cs.kd 11 (by omega) rfl) (x_pgX (by omega) cs V xg ok p (by omega) q (by omega)) ?_
  rintro r3 hx3 ⟨ehx3, rfl⟩
  rw [ehx3]
  clear ehx3 hx3
  refine g_aload_n rfl rfl ?_
  refine g_iload_n rfl rfl ?_
  refine g_iload_n rfl rfl ?_
  refine g_callVI [aI ((p : Int)), aI ((b : Int))] [aI (gx S p q), aI ((gx S p a) - (gx S p b))] rfl rfl rfl rfl (Nat.le_of_ble_eq_true rfl) (cs.kd 11 (by omega) rfl) (x_pgX (by omega) cs V xg ok p (by omega) b (by omega)) ?_
  rintro r4 hx4 ⟨ehx4, rfl⟩
  rw [ehx4]
  clear ehx4 hx4
  refine g_isub rfl (by omega) (by omega) ?_
  have m27 := mul2k (x := gx S p a - gx S p b) (y := gx S p q - gx S p b) (by omega) (by omega)
  refine g_imul rfl (by omega) (by omega) ?_
  refine g_aload_n rfl rfl ?_
  refine g_iload_n rfl rfl ?_
  refine g_iload_n rfl rfl ?_
  refine g_callVI [aI ((p : Int)), aI ((a : Int))] [aI (((gx S p a) - (gx S p b)) * ((gx S p q) - (gx S p b)))] rfl rfl rfl rfl (Nat.le_of_ble_eq_true rfl) (cs.kd 11 (by omega) rfl) (x_pgY (by omega) cs V xg ok p (by omega) a (by omega)) ?_
  rintro r5 hx5 ⟨ehx5, rfl⟩
  rw [ehx5]
  clear ehx5 hx5
  refine g_aload_n rfl rfl ?_
  refine g_iload_n rfl rfl ?_
  refine g_iload_n rfl rfl ?_
  refine g_callVI [aI ((p : Int)), aI ((b : Int))] [aI (gy S p a), aI (((gx S p a) - (gx S p b)) * ((gx S p q) - (gx S p b)))] rfl rfl rfl rfl (Nat.le_of_ble_eq_true rfl) (cs.kd 11 (by omega) rfl) (x_pgY (by omega) cs V xg ok p (by omega) b (by omega)) ?_
  rintro r6 hx6 ⟨ehx6, rfl⟩
  rw [ehx6]
  clear ehx6 hx6
  refine g_isub rfl (by omega) (by omega) ?_
  refine g_aload_n rfl rfl ?_
  refine g_iload_n rfl rfl ?_
  refine g_iload rfl rfl ?_
  refine g_callVI [aI ((p : Int)), aI ((q : Int))] [aI ((gy S p a) - (gy S p b)), aI (((gx S p a) - (gx S p b)) * ((gx S p q) - (gx S p b)))] rfl rfl rfl rfl (Nat.le_of_ble_eq_true rfl) (cs.kd 11 (by omega) rfl) (x_pgY (by omega) cs V xg ok p (by omega) q (by omega)) ?_
  rintro r7 hx7 ⟨ehx7, rfl⟩
  rw [ehx7]
  clear ehx7 hx7
  refine g_aload_n rfl rfl ?_
  refine g_iload_n rfl rfl ?_
  refine g_iload_n rfl rfl ?_
  refine g_callVI [aI ((p : Int)), aI ((b : Int))] [aI (gy S p q), aI ((gy S p a) - (gy S p b)), aI (((gx S p a) - (gx S p b)) * ((gx S p q) - (gx S p b)))] rfl rfl rfl rfl (Nat.le_of_ble_eq_true rfl) (cs.kd 11 (by omega) rfl) (x_pgY (by omega) cs V xg ok p (by omega) b (by omega)) ?_
  rintro r8 hx8 ⟨ehx8, rfl⟩
  rw [ehx8]
  clear ehx8 hx8
  refine g_isub rfl (by omega) (by omega) ?_
  have m55 := mul2k (x := gy S p a - gy S p b) (y := gy S p q - gy S p b) (by omega) (by omega)
  refine g_imul rfl (by omega) (by omega) ?_
  refine g_iadd rfl (by omega) (by omega) ?_
  refine g_istore (l1 := [(5, aI ((((gx S p a) - (gx S p b)) * ((gx S p q) - (gx S p b))) + (((gy S p a) - (gy S p b)) * ((gy S p q) - (gy S p b))))), (0, aO (some (c + 11))), (1, aI ((p : Int))), (2, aI ((a : Int))), (3, aI ((b : Int))), (4, aI ((q : Int)))]) rfl rfl ?_
  refine g_aload_n rfl rfl ?_
  refine g_iload_n rfl rfl ?_
  refine g_iload_n rfl rfl ?_
  refine g_iload_n rfl rfl ?_
  refine g_iload rfl rfl ?_
  refine g_callVI [aI ((p : Int)), aI ((a : Int)), aI ((b : Int)), aI ((q : Int))] [] rfl rfl rfl rfl (Nat.le_of_ble_eq_true rfl) (cs.kd 11 (by omega) rfl) (x_pgTurn (by omega) cs V xg ok p (by omega) a (by omega) b (by omega) q (by omega)) ?_
  rintro r9 hx9 ⟨ehx9, rfl⟩
  rw [ehx9]
  clear ehx9 hx9
  refine g_if_ne rfl (fun cq68 => ?_) (fun cq68 => ?_)
  · skip
    refine g_iconst rfl ?_
    refine g_zret rfl (by omega) ?_
    refine ⟨rfl, ?_⟩
    first
      | (refine (if_pos ?_).symm; refine ⟨?_, ?_⟩ <;> omega)
      | (refine (if_neg ?_).symm; intro z; have := z.1; omega)
      | (refine (if_neg ?_).symm; intro z; have := z.2; omega)
  · skip
    refine g_iload rfl rfl ?_
    refine g_if_le rfl (fun cq73 => ?_) (fun cq73 => ?_)
    · skip
      refine g_iconst rfl ?_
      refine g_zret rfl (by omega) ?_
      refine ⟨rfl, ?_⟩
      first
        | (refine (if_pos ?_).symm; refine ⟨?_, ?_⟩ <;> omega)
        | (refine (if_neg ?_).symm; intro z; have := z.1; omega)
        | (refine (if_neg ?_).symm; intro z; have := z.2; omega)
    · skip
      refine g_iconst rfl ?_
      refine g_goto rfl ?_
      refine g_zret rfl (by omega) ?_
      refine ⟨rfl, ?_⟩
      first
        | (refine (if_pos ?_).symm; refine ⟨?_, ?_⟩ <;> omega)
        | (refine (if_neg ?_).symm; intro z; have := z.1; omega)
        | (refine (if_neg ?_).symm; intro z; have := z.2; omega)
set_option maxRecDepth 100000 in
theorem x_pgOdd {w : aW} {d : Nat} (hd : 6 ≤ d) {h : aH} {c : Nat} (cs : CS h c) (V : Nat → Nat → Int) {S : aS} (xg : XG V c S) (ok : OkG S) (p : Nat) (hp : p < sG S) (i : Nat) (hi : i < sGn S p) (j : Nat) (hj : j < sGn S p) : WP w d 104 [aO (some (c + 11)), aI ((p : Int)), aI ((i : Int)), aI ((j : Int))] (hw h V) (RI (fun r h1 => h1 = hw h V ∧ r = if gOdd S p i j then 1 else 0)) := by
  obtain ⟨d, rfl⟩ : ∃ d1, d = d1 + 1 := ⟨d - 1, by omega⟩
  refine WP.enter (cd := cd_X3_areSidesAtOdds) rfl ?_
  have li := gAft_lt hi
  have lj := gAft_lt hj
  have hls : largs 0 [aO (some (c + 11)), aI ((p : Int)), aI ((i : Int)), aI ((j : Int))] = [(0, aO (some (c + 11))), (1, aI ((p : Int))), (2, aI ((i : Int))), (3, aI ((j : Int)))] := rfl
  rw [hls]
  clear hls
  refine g_aload_n rfl rfl ?_
  refine g_iload_n rfl rfl ?_
  refine g_iload_n rfl rfl ?_
  refine g_callVI [aI ((p : Int)), aI ((i : Int))] [] rfl rfl rfl rfl (Nat.le_of_ble_eq_true rfl) (cs.kd 11 (by omega) rfl) (x_pgAft (by omega) cs V xg ok p (by omega) i (by omega)) ?_
  rintro r1 hx1 ⟨ehx1, rfl⟩
  rw [ehx1]
  clear ehx1 hx1
  refine g_iload_n rfl rfl ?_
  refine g_icmp_ne rfl (fun cq7 => ?_) (fun cq7 => ?_)
  · skip
    refine g_aload_n rfl rfl ?_
    refine g_iload_n rfl rfl ?_
    refine g_iload_n rfl rfl ?_
    refine g_callVI [aI ((p : Int)), aI ((j : Int))] [] rfl rfl rfl rfl (Nat.le_of_ble_eq_true rfl) (cs.kd 11 (by omega) rfl) (x_pgAft (by omega) cs V xg ok p (by omega) j (by omega)) ?_
    rintro r2 hx2 ⟨ehx2, rfl⟩
    rw [ehx2]
    clear ehx2 hx2
    refine g_iload_n rfl rfl ?_
    refine g_icmp_ne rfl (fun cq31 => ?_) (fun cq31 => ?_)
    · skip
      refine g_aload_n rfl rfl ?_
      refine g_iload_n rfl rfl ?_
      refine g_iload_n rfl rfl ?_
      refine g_aload_n rfl rfl ?_
      refine g_iload_n rfl rfl ?_
      refine g_iload_n rfl rfl ?_
      refine g_callVI [aI ((p : Int)), aI ((i : Int))] [aI ((i : Int)), aI ((p : Int)), aO (some (c + 11))] rfl rfl rfl rfl (Nat.le_of_ble_eq_true rfl) (cs.kd 11 (by omega) rfl) (x_pgAft (by omega) cs V xg ok p (by omega) i (by omega)) ?_
      rintro r3 hx3 ⟨ehx3, rfl⟩
      rw [ehx3]
      clear ehx3 hx3
      refine g_iload_n rfl rfl ?_
      refine g_aload_n rfl rfl ?_
      refine g_iload_n rfl rfl ?_
      refine g_iload_n rfl rfl ?_
      refine g_callVI [aI ((p : Int)), aI ((j : Int))] [aI ((j : Int)), aI ((gAft S p i : Int)), aI ((i : Int)), aI ((p : Int)), aO (some (c + 11))] rfl rfl rfl rfl (Nat.le_of_ble_eq_true rfl) (cs.kd 11 (by omega) rfl) (x_pgAft (by omega) cs V xg ok p (by omega) j (by omega)) ?_
      rintro r4 hx4 ⟨ehx4, rfl⟩
      rw [ehx4]
      clear ehx4 hx4
      refine g_callVI [aI ((p : Int)), aI ((i : Int)), aI ((gAft S p i : Int)), aI ((j : Int)), aI ((gAft S p j : Int))] [] rfl rfl rfl rfl (Nat.le_of_ble_eq_true rfl) (cs.kd 11 (by omega) rfl) (x_pgMeet (by omega) cs V xg ok p (by omega) i (by omega) (gAft S p i) (by omega) j (by omega) (gAft S p j) (by omega)) ?_
      rintro r5 hx5 ⟨ehx5, rfl⟩
      rw [ehx5]
      clear ehx5 hx5
      refine g_zret rfl (by split <;> omega) ?_
      refine ⟨rfl, ?_⟩
      split
      · next z =>
        refine (if_pos ?_).symm
        first
          | (refine Or.inl ⟨?_, z⟩ <;> omega)
          | (refine Or.inr (Or.inl ⟨?_, ?_, z⟩) <;> omega)
          | (refine Or.inr (Or.inr ⟨?_, ?_, z⟩) <;> omega)
      · next z =>
        refine (if_neg (fun y => ?_)).symm
        rcases y with ⟨y1, y2⟩ | ⟨y1, y2, y3⟩ | ⟨y1, y2, y3⟩
        · first
            | (exact z y2)
            | omega
        · first
            | (exact z y3)
            | omega
        · first
            | (exact z y3)
            | omega
    · skip
      refine g_aload_n rfl rfl ?_
      refine g_iload_n rfl rfl ?_
      refine g_iload_n rfl rfl ?_
      refine g_iload_n rfl rfl ?_
      refine g_aload_n rfl rfl ?_
      refine g_iload_n rfl rfl ?_
      refine g_iload_n rfl rfl ?_
      refine g_callVI [aI ((p : Int)), aI ((i : Int))] [aI ((i : Int)), aI ((j : Int)), aI ((p : Int)), aO (some (c + 11))] rfl rfl rfl rfl (Nat.le_of_ble_eq_true rfl) (cs.kd 11 (by omega) rfl) (x_pgAft (by omega) cs V xg ok p (by omega) i (by omega)) ?_
      rintro r6 hx6 ⟨ehx6, rfl⟩
      rw [ehx6]
      clear ehx6 hx6
      refine g_callVI [aI ((p : Int)), aI ((j : Int)), aI ((i : Int)), aI ((gAft S p i : Int))] [] rfl rfl rfl rfl (Nat.le_of_ble_eq_true rfl) (cs.kd 11 (by omega) rfl) (x_pgBack (by omega) cs V xg ok p (by omega) j (by omega) i (by omega) (gAft S p i) (by omega)) ?_
      rintro r7 hx7 ⟨ehx7, rfl⟩
      rw [ehx7]
      clear ehx7 hx7
      refine g_zret rfl (by split <;> omega) ?_
      refine ⟨rfl, ?_⟩
      split
      · next z =>
        refine (if_pos ?_).symm
        first
          | (refine Or.inl ⟨?_, z⟩ <;> omega)
          | (refine Or.inr (Or.inl ⟨?_, ?_, z⟩) <;> omega)
          | (refine Or.inr (Or.inr ⟨?_, ?_, z⟩) <;> omega)
      · next z =>
        refine (if_neg (fun y => ?_)).symm
        rcases y with ⟨y1, y2⟩ | ⟨y1, y2, y3⟩ | ⟨y1, y2, y3⟩
        · first
            | (exact z y2)
            | omega
        · first
            | (exact z y3)
            | omega
        · first
            | (exact z y3)
            | omega
  · skip
    refine g_aload_n rfl rfl ?_
    refine g_iload_n rfl rfl ?_
    refine g_iload_n rfl rfl ?_
    refine g_iload_n rfl rfl ?_
    refine g_aload_n rfl rfl ?_
    refine g_iload_n rfl rfl ?_
    refine g_iload_n rfl rfl ?_
    refine g_callVI [aI ((p : Int)), aI ((j : Int))] [aI ((j : Int)), aI ((i : Int)), aI ((p : Int)), aO (some (c + 11))] rfl rfl rfl rfl (Nat.le_of_ble_eq_true rfl) (cs.kd 11 (by omega) rfl) (x_pgAft (by omega) cs V xg ok p (by omega) j (by omega)) ?_
    rintro r8 hx8 ⟨ehx8, rfl⟩
    rw [ehx8]
    clear ehx8 hx8
    refine g_callVI [aI ((p : Int)), aI ((i : Int)), aI ((j : Int)), aI ((gAft S p j : Int))] [] rfl rfl rfl rfl (Nat.le_of_ble_eq_true rfl) (cs.kd 11 (by omega) rfl) (x_pgBack (by omega) cs V xg ok p (by omega) i (by omega) j (by omega) (gAft S p j) (by omega)) ?_
    rintro r9 hx9 ⟨ehx9, rfl⟩
    rw [ehx9]
    clear ehx9 hx9
    refine g_zret rfl (by split <;> omega) ?_
    refine ⟨rfl, ?_⟩
    split
    · next z =>
      refine (if_pos ?_).symm
      first
        | (refine Or.inl ⟨?_, z⟩ <;> omega)
        | (refine Or.inr (Or.inl ⟨?_, ?_, z⟩) <;> omega)
        | (refine Or.inr (Or.inr ⟨?_, ?_, z⟩) <;> omega)
    · next z =>
      refine (if_neg (fun y => ?_)).symm
      rcases y with ⟨y1, y2⟩ | ⟨y1, y2, y3⟩ | ⟨y1, y2, y3⟩
      · first
          | (exact z y2)
          | omega
      · first
          | (exact z y3)
          | omega
      · first
          | (exact z y3)
          | omega
set_option maxRecDepth 100000 in
theorem x_pgOne {w : aW} {d : Nat} (hd : 2 ≤ d) (v u : Int) (h : aH) : WP w d 112 [aJ v, aJ u] h (RI (fun r h1 => h1 = h ∧ r = if (v < 0 ∧ u < 0) ∨ (0 < v ∧ 0 < u) then 1 else 0)) := by
  obtain ⟨d, rfl⟩ : ∃ d1, d = d1 + 1 := ⟨d - 1, by omega⟩
  refine WP.enter (cd := cd_X3_areOneSign) rfl ?_
  have hls : largs 0 [aJ v, aJ u] = [(0, aJ v), (2, aJ u)] := rfl
  rw [hls]
  clear hls
  refine g_lload_n rfl rfl ?_
  refine g_lconst0 rfl ?_
  refine g_lc_ge rfl rfl (fun cq2 => ?_) (fun cq2 => ?_)
  · skip
    refine g_lload_n rfl rfl ?_
    refine g_lconst0 rfl ?_
    refine g_lc_le rfl rfl (fun cq14 => ?_) (fun cq14 => ?_)
    · skip
      refine g_iconst rfl ?_
      refine g_zret rfl (by omega) ?_
      refine ⟨rfl, ?_⟩
      first
        | (rw [if_pos (by omega)]; done)
        | (rw [if_neg (by omega)]; done)
    · skip
      refine g_lload_n rfl rfl ?_
      refine g_lconst0 rfl ?_
      refine g_lc_le rfl rfl (fun cq20 => ?_) (fun cq20 => ?_)
      · skip
        refine g_iconst rfl ?_
        refine g_zret rfl (by omega) ?_
        refine ⟨rfl, ?_⟩
        first
          | (rw [if_pos (by omega)]; done)
          | (rw [if_neg (by omega)]; done)
      · skip
        refine g_iconst rfl ?_
        refine g_goto rfl ?_
        refine g_zret rfl (by omega) ?_
        refine ⟨rfl, ?_⟩
        first
          | (rw [if_pos (by omega)]; done)
          | (rw [if_neg (by omega)]; done)
  · skip
    refine g_lload_n rfl rfl ?_
    refine g_lconst0 rfl ?_
    refine g_lc_lt rfl rfl (fun cq8 => ?_) (fun cq8 => ?_)
    · skip
      refine g_iconst rfl ?_
      refine g_goto rfl ?_
      refine g_zret rfl (by omega) ?_
      refine ⟨rfl, ?_⟩
      first
        | (rw [if_pos (by omega)]; done)
        | (rw [if_neg (by omega)]; done)
    · skip
      refine g_lload_n rfl rfl ?_
      refine g_lconst0 rfl ?_
      refine g_lc_le rfl rfl (fun cq14 => ?_) (fun cq14 => ?_)
      · skip
        refine g_iconst rfl ?_
        refine g_zret rfl (by omega) ?_
        refine ⟨rfl, ?_⟩
        first
          | (rw [if_pos (by omega)]; done)
          | (rw [if_neg (by omega)]; done)
      · skip
        refine g_lload_n rfl rfl ?_
        refine g_lconst0 rfl ?_
        refine g_lc_le rfl rfl (fun cq20 => ?_) (fun cq20 => ?_)
        · skip
          refine g_iconst rfl ?_
          refine g_zret rfl (by omega) ?_
          refine ⟨rfl, ?_⟩
          first
            | (rw [if_pos (by omega)]; done)
            | (rw [if_neg (by omega)]; done)
        · skip
          refine g_iconst rfl ?_
          refine g_goto rfl ?_
          refine g_zret rfl (by omega) ?_
          refine ⟨rfl, ?_⟩
          first
            | (rw [if_pos (by omega)]; done)
            | (rw [if_neg (by omega)]; done)
set_option maxRecDepth 100000 in
theorem x_pgBetter {w : aW} {d : Nat} (hd : 4 ≤ d) {h : aH} {c : Nat} (cs : CS h c) (V : Nat → Nat → Int) {S : aS} (xg : XG V c S) (ok : OkG S) (p : Nat) (hp : p < sG S) (a : Nat) (ha : a < sGn S p) (b : Nat) (hb : b < sGn S p) (q : Nat) (hq : q < sGn S p) : WP w d 116 [aO (some (c + 11)), aI ((p : Int)), aI ((a : Int)), aI ((b : Int)), aI ((q : Int))] (hw h V) (RI (fun r h1 => h1 = hw h V ∧ r = if gT S p a b q < 0 ∨ (gT S p a b q = 0 ∧ gQ S p a b < gQ S p a q) then 1 else 0)) := by
  obtain ⟨d, rfl⟩ : ∃ d1, d = d1 + 1 := ⟨d - 1, by omega⟩
  refine WP.enter (cd := cd_X3_isBetterOnWrap) rfl ?_
  have hls : largs 0 [aO (some (c + 11)), aI ((p : Int)), aI ((a : Int)), aI ((b : Int)), aI ((q : Int))] = [(0, aO (some (c + 11))), (1, aI ((p : Int))), (2, aI ((a : Int))), (3, aI ((b : Int))), (4, aI ((q : Int)))] := rfl
  rw [hls]
  clear hls
  refine g_aload_n rfl rfl ?_
  refine g_iload_n rfl rfl ?_
  refine g_iload_n rfl rfl ?_
  refine g_iload_n rfl rfl ?_
  refine g_iload rfl rfl ?_
  refine g_callVI [aI ((p : Int)), aI ((a : Int)), aI ((b : Int)), aI ((q : Int))] [] rfl rfl rfl rfl (Nat.le_of_ble_eq_true rfl) (cs.kd 11 (by omega) rfl) (x_pgTurn (by omega) cs V xg ok p (by omega) a (by omega) b (by omega) q (by omega)) ?_
  rintro r1 hx1 ⟨ehx1, rfl⟩
  rw [ehx1]
  clear ehx1 hx1
  refine g_istore (l1 := [(5, aI (gT S p a b q)), (0, aO (some (c + 11))), (1, aI ((p : Int))), (2, aI ((a : Int))), (3, aI ((b : Int))), (4, aI ((q : Int)))]) rfl rfl ?_
  refine g_iload rfl rfl ?_
  refine g_if_lt rfl (fun cq13 => ?_) (fun cq13 => ?_)
  · skip
    refine g_iconst rfl ?_
    refine g_goto rfl ?_
    refine g_zret rfl (by omega) ?_
    refine ⟨rfl, ?_⟩
    first
      | (rw [if_pos (by omega)]; done)
      | (rw [if_neg (by omega)]; done)
  · skip
    refine g_iload rfl rfl ?_
    refine g_if_ne rfl (fun cq18 => ?_) (fun cq18 => ?_)
    · skip
      refine g_iconst rfl ?_
      refine g_zret rfl (by omega) ?_
      refine ⟨rfl, ?_⟩
      first
        | (rw [if_pos (by omega)]; done)
        | (rw [if_neg (by omega)]; done)
    · skip
      refine g_aload_n rfl rfl ?_
      refine g_iload_n rfl rfl ?_
      refine g_iload_n rfl rfl ?_
      refine g_iload rfl rfl ?_
      refine g_callVI [aI ((p : Int)), aI ((a : Int)), aI ((q : Int))] [] rfl rfl rfl rfl (Nat.le_of_ble_eq_true rfl) (cs.kd 11 (by omega) rfl) (x_pgSq (by omega) cs V xg ok p (by omega) a (by omega) q (by omega)) ?_
      rintro r2 hx2 ⟨ehx2, rfl⟩
      rw [ehx2]
      clear ehx2 hx2
      refine g_aload_n rfl rfl ?_
      refine g_iload_n rfl rfl ?_
      refine g_iload_n rfl rfl ?_
      refine g_iload_n rfl rfl ?_
      refine g_callVI [aI ((p : Int)), aI ((a : Int)), aI ((b : Int))] [aI (gQ S p a q)] rfl rfl rfl rfl (Nat.le_of_ble_eq_true rfl) (cs.kd 11 (by omega) rfl) (x_pgSq (by omega) cs V xg ok p (by omega) a (by omega) b (by omega)) ?_
      rintro r3 hx3 ⟨ehx3, rfl⟩
      rw [ehx3]
      clear ehx3 hx3
      refine g_icmp_le rfl (fun cq36 => ?_) (fun cq36 => ?_)
      · skip
        refine g_iconst rfl ?_
        refine g_zret rfl (by omega) ?_
        refine ⟨rfl, ?_⟩
        first
          | (rw [if_pos (by omega)]; done)
          | (rw [if_neg (by omega)]; done)
      · skip
        refine g_iconst rfl ?_
        refine g_goto rfl ?_
        refine g_zret rfl (by omega) ?_
        refine ⟨rfl, ?_⟩
        first
          | (rw [if_pos (by omega)]; done)
          | (rw [if_neg (by omega)]; done)
