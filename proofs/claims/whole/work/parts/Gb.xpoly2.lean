/-! the class's polygons, loops: printed by wip/whole/gb.py -/
theorem mul1k {x y : Int} (hx : -1000 ≤ x ∧ x ≤ 1000) (hy : -1000 ≤ y ∧ y ≤ 1000) : -1000000 ≤ x * y ∧ x * y ≤ 1000000 := mulq (a := 1000) (b := 1000) hx hy
def gAr (S : aS) (p : Nat) : Nat → Int
  | 0 => 0
  | k + 1 => gAr S p k + (gx S p k * gy S p (gAft S p k) - gx S p (gAft S p k) * gy S p k)
theorem gAr_b {S : aS} (ok : OkG S) {p : Nat} (hp : p < sG S) : ∀ i, i ≤ sGn S p → -(2000000 * (i : Int)) ≤ gAr S p i ∧ gAr S p i ≤ 2000000 * (i : Int)
  | 0, _ => by unfold gAr; omega
  | i + 1, h => by
    have ih := gAr_b ok hp i (by omega)
    have l := gAft_lt (S := S) (p := p) (i := i) (by omega)
    have m1 := mul1k (ok.x hp (i := i) (by omega)) (ok.y hp l)
    have m2 := mul1k (ok.x hp l) (ok.y hp (i := i) (by omega))
    unfold gAr
    omega
def gL (S : aS) (p : Nat) : Nat → Bool
  | 0 => false
  | k + 1 => gL S p k || decide (0 < gT S p k (gAft S p k) (gAft S p (gAft S p k)))
def gR (S : aS) (p : Nat) : Nat → Bool
  | 0 => false
  | k + 1 => gR S p k || decide (gT S p k (gAft S p k) (gAft S p (gAft S p k)) < 0)
theorem any_step {b : Bool} {P : Prop} [Decidable P] {l m : Int} (hl : l = if b = true then 1 else 0) (h1 : (l ≠ 0 ∨ P) → m = 1) (h2 : ¬(l ≠ 0 ∨ P) → m = 0) : m = if (b || decide P) = true then 1 else 0 := by
  cases b
  · rw [if_neg (by decide)] at hl
    by_cases q : P
    · rw [h1 (Or.inr q), if_pos (by simp [q])]
    · rw [h2 (fun z => z.elim (fun z => z hl) q), if_neg (by simp [q])]
  · rw [if_pos rfl] at hl
    rw [h1 (Or.inl (by omega)), if_pos (by simp)]
theorem xor_step {b : Bool} {P : Prop} [Decidable P] {l m : Int} (hl : l = if b = true then 1 else 0) (h1 : P → (l = 0 → m = 1) ∧ (l ≠ 0 → m = 0)) (h2 : ¬ P → m = l) : m = if (b != decide P) = true then 1 else 0 := by
  by_cases q : P
  · have := h1 q
    cases b
    · rw [if_neg (by decide)] at hl
      rw [this.1 hl, if_pos (by simp [q])]
    · rw [if_pos rfl] at hl
      rw [this.2 (by omega), if_neg (by simp [q])]
  · rw [h2 q, hl]
    cases b <;> simp [q]
def gMx (S : aS) (p n i j : Nat) (g : Int) : Prop := (∀ a b, a < b → b < n → (a < i ∨ (a = i ∧ b < j)) → gQ S p a b ≤ g) ∧ (g = 0 ∨ ∃ a b, a < b ∧ b < n ∧ g = gQ S p a b) ∧ 0 ≤ g
theorem gMx_step {S : aS} {p n i j : Nat} {g q : Int} (h : gMx S p n i j g) (hj : i < j ∧ j < n) (hq : q = gQ S p i j) (h0 : 0 ≤ q) : gMx S p n i (j + 1) (max g q) := by
  obtain ⟨h1, h2, h3⟩ := h
  refine ⟨fun a b x y z => ?_, ?_, by omega⟩
  · by_cases e : a = i ∧ b = j
    · rw [e.1, e.2, ← hq]
      omega
    · have := h1 a b x y (by omega)
      omega
  · by_cases e : g ≤ q
    · rw [Int.max_eq_right e]
      exact Or.inr ⟨i, j, hj.1, hj.2, hq⟩
    · rw [Int.max_eq_left (by omega)]
      exact h2
theorem gMx_row {S : aS} {p n i j : Nat} {g : Int} (h : gMx S p n i j g) (hj : n ≤ j) (k : Nat) (hk : k = i + 1) (m : Nat) (hm : m ≤ k + 1) : gMx S p n k m g := by
  refine ⟨fun a b x y z => h.1 a b x y (by omega), h.2⟩
theorem gMx_eq {S : aS} {p n j k : Nat} {g u : Int} (h : gMx S p n n j g) (h2 : gMx S p n n k u) : g = u := by
  obtain ⟨a1, a2, a3⟩ := h
  obtain ⟨b1, b2, b3⟩ := h2
  have l1 : g ≤ u := by
    rcases a2 with e | ⟨a, b, x, y, e⟩
    · omega
    · have := b1 a b x y (by omega)
      omega
  have l2 : u ≤ g := by
    rcases b2 with e | ⟨a, b, x, y, e⟩
    · omega
    · have := a1 a b x y (by omega)
      omega
  omega
def gOs (S : aS) (p : Nat) : Nat → Int
  | 0 => 0
  | k + 1 => gOs S p k + (Int.gcd (gx S p (gAft S p k) - gx S p k) (gy S p (gAft S p k) - gy S p k) : Int)
theorem gcd_le (x y : Int) : (Int.gcd x y : Int) ≤ (x.natAbs : Int) + (y.natAbs : Int) := by
  by_cases h : x = 0
  · rw [h, Int.gcd_zero_left]
    omega
  · have := Nat.le_of_dvd (by omega) (Int.gcd_dvd_natAbs_left x y)
    omega
theorem gOs_b {S : aS} (ok : OkG S) {p : Nat} (hp : p < sG S) : ∀ i, i ≤ sGn S p → 0 ≤ gOs S p i ∧ gOs S p i ≤ 4000 * (i : Int)
  | 0, _ => by unfold gOs; omega
  | i + 1, h => by
    have ih := gOs_b ok hp i (by omega)
    have l := gAft_lt (S := S) (p := p) (i := i) (by omega)
    have x1 := ok.x hp (i := i) (by omega)
    have y1 := ok.y hp (i := i) (by omega)
    have x2 := ok.x hp l
    have y2 := ok.y hp l
    have g := gcd_le (gx S p (gAft S p i) - gx S p i) (gy S p (gAft S p i) - gy S p i)
    unfold gOs
    omega
/-- where a place is -/
def gWs (S : aS) (p : Nat) (x y w : Int) (i : Nat) : Int := (gx S p (gAft S p i) - gx S p i) * (y - gy S p i * w) - (gy S p (gAft S p i) - gy S p i) * (x - gx S p i * w)
abbrev oneS (v u : Int) : Prop := (v < 0 ∧ u < 0) ∨ (0 < v ∧ 0 < u)
abbrev gWon (S : aS) (p : Nat) (x y w : Int) (i : Nat) : Prop := gWs S p x y w i = 0 ∧ ¬ oneS (x - gx S p i * w) (x - gx S p (gAft S p i) * w) ∧ ¬ oneS (y - gy S p i * w) (y - gy S p (gAft S p i) * w)
abbrev gWt (S : aS) (p : Nat) (x y w : Int) (i : Nat) : Prop := ¬((y - gy S p i * w < 0) ↔ (y - gy S p (gAft S p i) * w < 0)) ∧ ((0 < gWs S p x y w i) ↔ (y - gy S p (gAft S p i) * w < 0))
def gWo (S : aS) (p : Nat) (x y w : Int) : Nat → Bool
  | 0 => false
  | k + 1 => gWo S p x y w k || decide (gWon S p x y w k)
def gWi (S : aS) (p : Nat) (x y w : Int) : Nat → Bool
  | 0 => false
  | k + 1 => gWi S p x y w k != decide (gWt S p x y w k)
theorem gWo_iff {S : aS} {p : Nat} {x y w : Int} : ∀ n, gWo S p x y w n = true ↔ ∃ k < n, gWon S p x y w k
  | 0 => by unfold gWo; simp
  | n + 1 => by
    unfold gWo
    rw [Bool.or_eq_true, decide_eq_true_eq, gWo_iff n]
    constructor
    · rintro (⟨k, hk, q⟩ | q)
      · exact ⟨k, by omega, q⟩
      · exact ⟨n, by omega, q⟩
    · rintro ⟨k, hk, q⟩
      by_cases e : k = n
      · exact Or.inr (e ▸ q)
      · exact Or.inl ⟨k, by omega, q⟩
def gWh (S : aS) (p : Nat) (x y w : Int) : Int := if gWo S p x y w (sGn S p) = true then 1 else if gWi S p x y w (sGn S p) = true then 2 else 0
theorem gWo_no {S : aS} {p : Nat} {x y w : Int} {n i : Nat} (hn : gWo S p x y w i = false) (h : ¬ gWon S p x y w i) (e : n = i + 1) : gWo S p x y w n = false := by
  rw [e]
  unfold gWo
  rw [hn, decide_eq_false h]
  rfl
/-- the true answer of a question -/
noncomputable def bt (P : Prop) : Bool := @decide P (Classical.propDecidable P)
theorem bt_iff {P : Prop} : bt P = true ↔ P := by
  unfold bt
  exact @decide_eq_true_iff P (Classical.propDecidable P)
def gSim (S : aS) (p : Nat) : Prop := 3 ≤ sGn S p ∧ ∀ i j, i < j → j < sGn S p → ¬ gSame S p i j ∧ ¬ gOdd S p i j
def gDg (S : aS) (p a b k : Nat) : Prop := ¬((k ≠ a ∧ k ≠ b) ∧ gOn S p a b k) ∧ ¬((k ≠ a ∧ k ≠ b ∧ gAft S p k ≠ a ∧ gAft S p k ≠ b) ∧ gMeet S p a b k (gAft S p k))
def gDiag (S : aS) (p a b : Nat) : Prop := (∀ k < sGn S p, gDg S p a b k) ∧ gWh S p (gx S p a + gx S p b) (gy S p a + gy S p b) 2 = 2
set_option maxRecDepth 100000 in
theorem x_pgArea {w : aW} {d : Nat} (hd : 5 ≤ d) {h : aH} {c : Nat} (cs : CS h c) (V : Nat → Nat → Int) {S : aS} (xg : XG V c S) (ok : OkG S) (p : Nat) (hp : p < sG S) : WP w d 106 [aO (some (c + 11)), aI ((p : Int))] (hw h V) (RJ (fun r h1 => h1 = hw h V ∧ r = gAr S p (sGn S p))) := by
  obtain ⟨d, rfl⟩ : ∃ d1, d = d1 + 1 := ⟨d - 1, by omega⟩
  refine WP.enter (cd := cd_X3_twiceArea) rfl ?_
  have hls : largs 0 [aO (some (c + 11)), aI ((p : Int))] = [(0, aO (some (c + 11))), (1, aI ((p : Int)))] := rfl
  rw [hls]
  clear hls
  have l5 : ∀ (fuel : Nat) (i : Nat), (i ≤ sGn S p) → sGn S p - i < fuel → Wk w d cd_X3_twiceArea 5 [(4, aI ((i : Int))), (2, aJ (gAr S p i)), (0, aO (some (c + 11))), (1, aI ((p : Int)))] [] (hw h V) (RJ (fun r h1 => h1 = hw h V ∧ r = gAr S p (sGn S p))) := by
    intro fuel
    induction fuel with
    | zero => intros; omega
    | succ fuel ih5 =>
      intro i hi hfuel
      have hok2 := (ok.2 p hp).1
      have hb := gAr_b ok hp i hi
      refine g_iload rfl rfl ?_
      refine g_aload_n rfl rfl ?_
      refine g_iload_n rfl rfl ?_
      refine g_callVI [aI ((p : Int))] [aI ((i : Int))] rfl rfl rfl rfl (Nat.le_of_ble_eq_true rfl) (cs.kd 11 (by omega) rfl) (x_pgSize (by omega) cs V xg ok p (by omega)) ?_
      rintro r1 hx1 ⟨ehx1, rfl⟩
      rw [ehx1]
      clear ehx1 hx1
      refine g_icmp_ge rfl (fun cq12 => ?_) (fun cq12 => ?_)
      · skip
        refine g_lload_n rfl rfl ?_
        refine g_lret rfl ?_
        refine ⟨rfl, ?_⟩
        rw [show sGn S p = i by omega]
      · skip
        have li := gAft_lt (S := S) (p := p) (i := i) (by omega)
        have bx := ok.x hp (i := i) (by omega)
        have by_ := ok.y hp (i := i) (by omega)
        have cx := ok.x hp li
        have cy := ok.y hp li
        refine g_aload_n rfl rfl ?_
        refine g_iload_n rfl rfl ?_
        refine g_iload rfl rfl ?_
        refine g_callVI [aI ((p : Int)), aI ((i : Int))] [] rfl rfl rfl rfl (Nat.le_of_ble_eq_true rfl) (cs.kd 11 (by omega) rfl) (x_pgAft (by omega) cs V xg ok p (by omega) i (by omega)) ?_
        rintro r2 hx2 ⟨ehx2, rfl⟩
        rw [ehx2]
        clear ehx2 hx2
        refine g_istore (l1 := [(5, aI ((gAft S p i : Int))), (4, aI ((i : Int))), (2, aJ (gAr S p i)), (0, aO (some (c + 11))), (1, aI ((p : Int)))]) rfl rfl ?_
        refine g_lload_n rfl rfl ?_
        refine g_aload_n rfl rfl ?_
        refine g_iload_n rfl rfl ?_
        refine g_iload rfl rfl ?_
        refine g_callVI [aI ((p : Int)), aI ((i : Int))] [aJ (gAr S p i)] rfl rfl rfl rfl (Nat.le_of_ble_eq_true rfl) (cs.kd 11 (by omega) rfl) (x_pgX (by omega) cs V xg ok p (by omega) i (by omega)) ?_
        rintro r3 hx3 ⟨ehx3, rfl⟩
        rw [ehx3]
        clear ehx3 hx3
        refine g_i2l rfl ?_
        refine g_aload_n rfl rfl ?_
        refine g_iload_n rfl rfl ?_
        refine g_iload rfl rfl ?_
        refine g_callVI [aI ((p : Int)), aI ((gAft S p i : Int))] [aJ (gx S p i), aJ (gAr S p i)] rfl rfl rfl rfl (Nat.le_of_ble_eq_true rfl) (cs.kd 11 (by omega) rfl) (x_pgY (by omega) cs V xg ok p (by omega) (gAft S p i) (by omega)) ?_
        rintro r4 hx4 ⟨ehx4, rfl⟩
        rw [ehx4]
        clear ehx4 hx4
        refine g_i2l rfl ?_
        have m41 := mul1k (x := gx S p i) (y := gy S p (gAft S p i)) (by omega) (by omega)
        refine g_lmul rfl (by omega) (by omega) ?_
        refine g_aload_n rfl rfl ?_
        refine g_iload_n rfl rfl ?_
        refine g_iload rfl rfl ?_
        refine g_callVI [aI ((p : Int)), aI ((gAft S p i : Int))] [aJ ((gx S p i) * (gy S p (gAft S p i))), aJ (gAr S p i)] rfl rfl rfl rfl (Nat.le_of_ble_eq_true rfl) (cs.kd 11 (by omega) rfl) (x_pgX (by omega) cs V xg ok p (by omega) (gAft S p i) (by omega)) ?_
        rintro r5 hx5 ⟨ehx5, rfl⟩
        rw [ehx5]
        clear ehx5 hx5
        refine g_i2l rfl ?_
        refine g_aload_n rfl rfl ?_
        refine g_iload_n rfl rfl ?_
        refine g_iload rfl rfl ?_
        refine g_callVI [aI ((p : Int)), aI ((i : Int))] [aJ (gx S p (gAft S p i)), aJ ((gx S p i) * (gy S p (gAft S p i))), aJ (gAr S p i)] rfl rfl rfl rfl (Nat.le_of_ble_eq_true rfl) (cs.kd 11 (by omega) rfl) (x_pgY (by omega) cs V xg ok p (by omega) i (by omega)) ?_
        rintro r6 hx6 ⟨ehx6, rfl⟩
        rw [ehx6]
        clear ehx6 hx6
        refine g_i2l rfl ?_
        have m58 := mul1k (x := gx S p (gAft S p i)) (y := gy S p i) (by omega) (by omega)
        refine g_lmul rfl (by omega) (by omega) ?_
        refine g_lsub rfl (by omega) (by omega) ?_
        refine g_ladd rfl (by omega) (by omega) ?_
        refine g_top (v2 := aJ (gAr S p (i + 1))) (congrArg aJ (by rfl)) ?_
        refine g_lstore_n (l1 := [(2, aJ (gAr S p (i + 1))), (5, aI ((gAft S p i : Int))), (4, aI ((i : Int))), (0, aO (some (c + 11))), (1, aI ((p : Int)))]) rfl rfl ?_
        refine g_iinc (l1 := [(4, aI ((i : Int) + 1)), (2, aJ (gAr S p (i + 1))), (5, aI ((gAft S p i : Int))), (0, aO (some (c + 11))), (1, aI ((p : Int)))]) rfl rfl (by omega) (by omega) rfl ?_
        refine g_goto rfl ?_
        refine g_ls [0, 1, 3, 4] rfl rfl ?_
        exact ih5 (i + 1) (by omega) (by omega)
  refine g_lconst0 rfl ?_
  refine g_top (v2 := aJ (gAr S p 0)) (congrArg aJ (by exact (show (0 : Int) = gAr S p 0 from rfl))) ?_
  refine g_lstore_n (l1 := [(2, aJ (gAr S p 0)), (0, aO (some (c + 11))), (1, aI ((p : Int)))]) rfl rfl ?_
  refine g_iconst rfl ?_
  refine g_istore (l1 := [(4, aI 0), (2, aJ (gAr S p 0)), (0, aO (some (c + 11))), (1, aI ((p : Int)))]) rfl rfl ?_
  exact l5 _ 0 (by omega) (Nat.lt_succ_self _)
set_option maxRecDepth 100000 in
theorem x_pgConv {w : aW} {d : Nat} (hd : 5 ≤ d) {h : aH} {c : Nat} (cs : CS h c) (V : Nat → Nat → Int) {S : aS} (xg : XG V c S) (ok : OkG S) (p : Nat) (hp : p < sG S) : WP w d 107 [aO (some (c + 11)), aI ((p : Int))] (hw h V) (RI (fun r h1 => h1 = hw h V ∧ r = if ¬(gL S p (sGn S p) = true ∧ gR S p (sGn S p) = true) then 1 else 0)) := by
  obtain ⟨d, rfl⟩ : ∃ d1, d = d1 + 1 := ⟨d - 1, by omega⟩
  refine WP.enter (cd := cd_X3_turnsOneWay) rfl ?_
  have hls : largs 0 [aO (some (c + 11)), aI ((p : Int))] = [(0, aO (some (c + 11))), (1, aI ((p : Int)))] := rfl
  rw [hls]
  clear hls
  have l7 : ∀ (fuel : Nat) (i : Nat) (l r : Int), (i ≤ sGn S p) → (l = if gL S p i = true then 1 else 0) → (r = if gR S p i = true then 1 else 0) → sGn S p - i < fuel → Wk w d cd_X3_turnsOneWay 7 [(4, aI ((i : Int))), (3, aI r), (2, aI l), (0, aO (some (c + 11))), (1, aI ((p : Int)))] [] (hw h V) (RI (fun r h1 => h1 = hw h V ∧ r = if ¬(gL S p (sGn S p) = true ∧ gR S p (sGn S p) = true) then 1 else 0)) := by
    intro fuel
    induction fuel with
    | zero => intros; omega
    | succ fuel ih7 =>
      intro i l r hi hl hr hfuel
      have hok2 := (ok.2 p hp).1
      refine g_iload rfl rfl ?_
      refine g_aload_n rfl rfl ?_
      refine g_iload_n rfl rfl ?_
      refine g_callVI [aI ((p : Int))] [aI ((i : Int))] rfl rfl rfl rfl (Nat.le_of_ble_eq_true rfl) (cs.kd 11 (by omega) rfl) (x_pgSize (by omega) cs V xg ok p (by omega)) ?_
      rintro r1 hx1 ⟨ehx1, rfl⟩
      rw [ehx1]
      clear ehx1 hx1
      refine g_icmp_ge rfl (fun cq14 => ?_) (fun cq14 => ?_)
      · skip
        refine g_iload_n rfl rfl ?_
        refine g_if_eq rfl (fun cq81 => ?_) (fun cq81 => ?_)
        · skip
          refine g_iconst rfl ?_
          refine g_goto rfl ?_
          refine g_zret rfl (by omega) ?_
          refine ⟨rfl, ?_⟩
          rw [show sGn S p = i by omega]
          cases hL : gL S p i <;> cases hR : gR S p i <;> rw [hL] at hl <;> rw [hR] at hr <;> simp at hl hr ⊢ <;> omega
        · skip
          refine g_iload_n rfl rfl ?_
          refine g_if_ne rfl (fun cq85 => ?_) (fun cq85 => ?_)
          · skip
            refine g_iconst rfl ?_
            refine g_zret rfl (by omega) ?_
            refine ⟨rfl, ?_⟩
            rw [show sGn S p = i by omega]
            cases hL : gL S p i <;> cases hR : gR S p i <;> rw [hL] at hl <;> rw [hR] at hr <;> simp at hl hr ⊢ <;> omega
          · skip
            refine g_iconst rfl ?_
            refine g_goto rfl ?_
            refine g_zret rfl (by omega) ?_
            refine ⟨rfl, ?_⟩
            rw [show sGn S p = i by omega]
            cases hL : gL S p i <;> cases hR : gR S p i <;> rw [hL] at hl <;> rw [hR] at hr <;> simp at hl hr ⊢ <;> omega
      · skip
        have li := gAft_lt (S := S) (p := p) (i := i) (by omega)
        have lj := gAft_lt li
        refine g_aload_n rfl rfl ?_
        refine g_iload_n rfl rfl ?_
        refine g_iload rfl rfl ?_
        refine g_callVI [aI ((p : Int)), aI ((i : Int))] [] rfl rfl rfl rfl (Nat.le_of_ble_eq_true rfl) (cs.kd 11 (by omega) rfl) (x_pgAft (by omega) cs V xg ok p (by omega) i (by omega)) ?_
        rintro r2 hx2 ⟨ehx2, rfl⟩
        rw [ehx2]
        clear ehx2 hx2
        refine g_istore (l1 := [(5, aI ((gAft S p i : Int))), (4, aI ((i : Int))), (3, aI r), (2, aI l), (0, aO (some (c + 11))), (1, aI ((p : Int)))]) rfl rfl ?_
        refine g_aload_n rfl rfl ?_
        refine g_iload_n rfl rfl ?_
        refine g_iload rfl rfl ?_
        refine g_iload rfl rfl ?_
        refine g_aload_n rfl rfl ?_
        refine g_iload_n rfl rfl ?_
        refine g_iload rfl rfl ?_
        refine g_callVI [aI ((p : Int)), aI ((gAft S p i : Int))] [aI ((gAft S p i : Int)), aI ((i : Int)), aI ((p : Int)), aO (some (c + 11))] rfl rfl rfl rfl (Nat.le_of_ble_eq_true rfl) (cs.kd 11 (by omega) rfl) (x_pgAft (by omega) cs V xg ok p (by omega) (gAft S p i) (by omega)) ?_
        rintro r3 hx3 ⟨ehx3, rfl⟩
        rw [ehx3]
        clear ehx3 hx3
        refine g_callVI [aI ((p : Int)), aI ((i : Int)), aI ((gAft S p i : Int)), aI ((gAft S p (gAft S p i) : Int))] [] rfl rfl rfl rfl (Nat.le_of_ble_eq_true rfl) (cs.kd 11 (by omega) rfl) (x_pgTurn (by omega) cs V xg ok p (by omega) i (by omega) (gAft S p i) (by omega) (gAft S p (gAft S p i)) (by omega)) ?_
        rintro r4 hx4 ⟨ehx4, rfl⟩
        rw [ehx4]
        clear ehx4 hx4
        refine g_istore (l1 := [(6, aI (gT S p i (gAft S p i) (gAft S p (gAft S p i)))), (5, aI ((gAft S p i : Int))), (4, aI ((i : Int))), (3, aI r), (2, aI l), (0, aO (some (c + 11))), (1, aI ((p : Int)))]) rfl rfl ?_
        refine g_iload_n rfl rfl ?_
        refine g_if_ne rfl (fun cq45 => ?_) (fun cq45 => ?_)
        · skip
          refine g_iconst rfl ?_
          refine g_goto rfl ?_
          refine g_istore_n (l1 := [(2, aI 1), (6, aI (gT S p i (gAft S p i) (gAft S p (gAft S p i)))), (5, aI ((gAft S p i : Int))), (4, aI ((i : Int))), (3, aI r), (0, aO (some (c + 11))), (1, aI ((p : Int)))]) rfl rfl ?_
          refine g_iload_n rfl rfl ?_
          refine g_if_ne rfl (fun cq60 => ?_) (fun cq60 => ?_)
          · skip
            refine g_iconst rfl ?_
            refine g_goto rfl ?_
            refine g_istore_n (l1 := [(3, aI 1), (2, aI 1), (6, aI (gT S p i (gAft S p i) (gAft S p (gAft S p i)))), (5, aI ((gAft S p i : Int))), (4, aI ((i : Int))), (0, aO (some (c + 11))), (1, aI ((p : Int)))]) rfl rfl ?_
            refine g_iinc (l1 := [(4, aI ((i : Int) + 1)), (3, aI 1), (2, aI 1), (6, aI (gT S p i (gAft S p i) (gAft S p (gAft S p i)))), (5, aI ((gAft S p i : Int))), (0, aO (some (c + 11))), (1, aI ((p : Int)))]) rfl rfl (by omega) (by omega) rfl ?_
            refine g_goto rfl ?_
            refine g_ls [0, 1, 2, 5, 6] rfl rfl ?_
            exact ih7 (i + 1) _ _ (by omega) (by exact any_step hl (fun z => by omega) (fun z => by omega)) (by exact any_step hr (fun z => by omega) (fun z => by omega)) (by omega)
          · skip
            refine g_iload rfl rfl ?_
            refine g_if_ge rfl (fun cq65 => ?_) (fun cq65 => ?_)
            · skip
              refine g_iconst rfl ?_
              refine g_istore_n (l1 := [(3, aI 0), (2, aI 1), (6, aI (gT S p i (gAft S p i) (gAft S p (gAft S p i)))), (5, aI ((gAft S p i : Int))), (4, aI ((i : Int))), (0, aO (some (c + 11))), (1, aI ((p : Int)))]) rfl rfl ?_
              refine g_iinc (l1 := [(4, aI ((i : Int) + 1)), (3, aI 0), (2, aI 1), (6, aI (gT S p i (gAft S p i) (gAft S p (gAft S p i)))), (5, aI ((gAft S p i : Int))), (0, aO (some (c + 11))), (1, aI ((p : Int)))]) rfl rfl (by omega) (by omega) rfl ?_
              refine g_goto rfl ?_
              refine g_ls [0, 1, 2, 5, 6] rfl rfl ?_
              exact ih7 (i + 1) _ _ (by omega) (by exact any_step hl (fun z => by omega) (fun z => by omega)) (by exact any_step hr (fun z => by omega) (fun z => by omega)) (by omega)
            · skip
              refine g_iconst rfl ?_
              refine g_goto rfl ?_
              refine g_istore_n (l1 := [(3, aI 1), (2, aI 1), (6, aI (gT S p i (gAft S p i) (gAft S p (gAft S p i)))), (5, aI ((gAft S p i : Int))), (4, aI ((i : Int))), (0, aO (some (c + 11))), (1, aI ((p : Int)))]) rfl rfl ?_
              refine g_iinc (l1 := [(4, aI ((i : Int) + 1)), (3, aI 1), (2, aI 1), (6, aI (gT S p i (gAft S p i) (gAft S p (gAft S p i)))), (5, aI ((gAft S p i : Int))), (0, aO (some (c + 11))), (1, aI ((p : Int)))]) rfl rfl (by omega) (by omega) rfl ?_
              refine g_goto rfl ?_
              refine g_ls [0, 1, 2, 5, 6] rfl rfl ?_
              exact ih7 (i + 1) _ _ (by omega) (by exact any_step hl (fun z => by omega) (fun z => by omega)) (by exact any_step hr (fun z => by omega) (fun z => by omega)) (by omega)
        · skip
          refine g_iload rfl rfl ?_
          refine g_if_le rfl (fun cq50 => ?_) (fun cq50 => ?_)
          · skip
            refine g_iconst rfl ?_
            refine g_istore_n (l1 := [(2, aI 0), (6, aI (gT S p i (gAft S p i) (gAft S p (gAft S p i)))), (5, aI ((gAft S p i : Int))), (4, aI ((i : Int))), (3, aI r), (0, aO (some (c + 11))), (1, aI ((p : Int)))]) rfl rfl ?_
            refine g_iload_n rfl rfl ?_
            refine g_if_ne rfl (fun cq60 => ?_) (fun cq60 => ?_)
            · skip
              refine g_iconst rfl ?_
              refine g_goto rfl ?_
              refine g_istore_n (l1 := [(3, aI 1), (2, aI 0), (6, aI (gT S p i (gAft S p i) (gAft S p (gAft S p i)))), (5, aI ((gAft S p i : Int))), (4, aI ((i : Int))), (0, aO (some (c + 11))), (1, aI ((p : Int)))]) rfl rfl ?_
              refine g_iinc (l1 := [(4, aI ((i : Int) + 1)), (3, aI 1), (2, aI 0), (6, aI (gT S p i (gAft S p i) (gAft S p (gAft S p i)))), (5, aI ((gAft S p i : Int))), (0, aO (some (c + 11))), (1, aI ((p : Int)))]) rfl rfl (by omega) (by omega) rfl ?_
              refine g_goto rfl ?_
              refine g_ls [0, 1, 2, 5, 6] rfl rfl ?_
              exact ih7 (i + 1) _ _ (by omega) (by exact any_step hl (fun z => by omega) (fun z => by omega)) (by exact any_step hr (fun z => by omega) (fun z => by omega)) (by omega)
            · skip
              refine g_iload rfl rfl ?_
              refine g_if_ge rfl (fun cq65 => ?_) (fun cq65 => ?_)
              · skip
                refine g_iconst rfl ?_
                refine g_istore_n (l1 := [(3, aI 0), (2, aI 0), (6, aI (gT S p i (gAft S p i) (gAft S p (gAft S p i)))), (5, aI ((gAft S p i : Int))), (4, aI ((i : Int))), (0, aO (some (c + 11))), (1, aI ((p : Int)))]) rfl rfl ?_
                refine g_iinc (l1 := [(4, aI ((i : Int) + 1)), (3, aI 0), (2, aI 0), (6, aI (gT S p i (gAft S p i) (gAft S p (gAft S p i)))), (5, aI ((gAft S p i : Int))), (0, aO (some (c + 11))), (1, aI ((p : Int)))]) rfl rfl (by omega) (by omega) rfl ?_
                refine g_goto rfl ?_
                refine g_ls [0, 1, 2, 5, 6] rfl rfl ?_
                exact ih7 (i + 1) _ _ (by omega) (by exact any_step hl (fun z => by omega) (fun z => by omega)) (by exact any_step hr (fun z => by omega) (fun z => by omega)) (by omega)
              · skip
                refine g_iconst rfl ?_
                refine g_goto rfl ?_
                refine g_istore_n (l1 := [(3, aI 1), (2, aI 0), (6, aI (gT S p i (gAft S p i) (gAft S p (gAft S p i)))), (5, aI ((gAft S p i : Int))), (4, aI ((i : Int))), (0, aO (some (c + 11))), (1, aI ((p : Int)))]) rfl rfl ?_
                refine g_iinc (l1 := [(4, aI ((i : Int) + 1)), (3, aI 1), (2, aI 0), (6, aI (gT S p i (gAft S p i) (gAft S p (gAft S p i)))), (5, aI ((gAft S p i : Int))), (0, aO (some (c + 11))), (1, aI ((p : Int)))]) rfl rfl (by omega) (by omega) rfl ?_
                refine g_goto rfl ?_
                refine g_ls [0, 1, 2, 5, 6] rfl rfl ?_
                exact ih7 (i + 1) _ _ (by omega) (by exact any_step hl (fun z => by omega) (fun z => by omega)) (by exact any_step hr (fun z => by omega) (fun z => by omega)) (by omega)
          · skip
            refine g_iconst rfl ?_
            refine g_goto rfl ?_
            refine g_istore_n (l1 := [(2, aI 1), (6, aI (gT S p i (gAft S p i) (gAft S p (gAft S p i)))), (5, aI ((gAft S p i : Int))), (4, aI ((i : Int))), (3, aI r), (0, aO (some (c + 11))), (1, aI ((p : Int)))]) rfl rfl ?_
            refine g_iload_n rfl rfl ?_
            refine g_if_ne rfl (fun cq60 => ?_) (fun cq60 => ?_)
            · skip
              refine g_iconst rfl ?_
              refine g_goto rfl ?_
              refine g_istore_n (l1 := [(3, aI 1), (2, aI 1), (6, aI (gT S p i (gAft S p i) (gAft S p (gAft S p i)))), (5, aI ((gAft S p i : Int))), (4, aI ((i : Int))), (0, aO (some (c + 11))), (1, aI ((p : Int)))]) rfl rfl ?_
              refine g_iinc (l1 := [(4, aI ((i : Int) + 1)), (3, aI 1), (2, aI 1), (6, aI (gT S p i (gAft S p i) (gAft S p (gAft S p i)))), (5, aI ((gAft S p i : Int))), (0, aO (some (c + 11))), (1, aI ((p : Int)))]) rfl rfl (by omega) (by omega) rfl ?_
              refine g_goto rfl ?_
              refine g_ls [0, 1, 2, 5, 6] rfl rfl ?_
              exact ih7 (i + 1) _ _ (by omega) (by exact any_step hl (fun z => by omega) (fun z => by omega)) (by exact any_step hr (fun z => by omega) (fun z => by omega)) (by omega)
            · skip
              refine g_iload rfl rfl ?_
              refine g_if_ge rfl (fun cq65 => ?_) (fun cq65 => ?_)
              · skip
                refine g_iconst rfl ?_
                refine g_istore_n (l1 := [(3, aI 0), (2, aI 1), (6, aI (gT S p i (gAft S p i) (gAft S p (gAft S p i)))), (5, aI ((gAft S p i : Int))), (4, aI ((i : Int))), (0, aO (some (c + 11))), (1, aI ((p : Int)))]) rfl rfl ?_
                refine g_iinc (l1 := [(4, aI ((i : Int) + 1)), (3, aI 0), (2, aI 1), (6, aI (gT S p i (gAft S p i) (gAft S p (gAft S p i)))), (5, aI ((gAft S p i : Int))), (0, aO (some (c + 11))), (1, aI ((p : Int)))]) rfl rfl (by omega) (by omega) rfl ?_
                refine g_goto rfl ?_
                refine g_ls [0, 1, 2, 5, 6] rfl rfl ?_
                exact ih7 (i + 1) _ _ (by omega) (by exact any_step hl (fun z => by omega) (fun z => by omega)) (by exact any_step hr (fun z => by omega) (fun z => by omega)) (by omega)
              · skip
                refine g_iconst rfl ?_
                refine g_goto rfl ?_
                refine g_istore_n (l1 := [(3, aI 1), (2, aI 1), (6, aI (gT S p i (gAft S p i) (gAft S p (gAft S p i)))), (5, aI ((gAft S p i : Int))), (4, aI ((i : Int))), (0, aO (some (c + 11))), (1, aI ((p : Int)))]) rfl rfl ?_
                refine g_iinc (l1 := [(4, aI ((i : Int) + 1)), (3, aI 1), (2, aI 1), (6, aI (gT S p i (gAft S p i) (gAft S p (gAft S p i)))), (5, aI ((gAft S p i : Int))), (0, aO (some (c + 11))), (1, aI ((p : Int)))]) rfl rfl (by omega) (by omega) rfl ?_
                refine g_goto rfl ?_
                refine g_ls [0, 1, 2, 5, 6] rfl rfl ?_
                exact ih7 (i + 1) _ _ (by omega) (by exact any_step hl (fun z => by omega) (fun z => by omega)) (by exact any_step hr (fun z => by omega) (fun z => by omega)) (by omega)
  refine g_iconst rfl ?_
  refine g_istore_n (l1 := [(2, aI 0), (0, aO (some (c + 11))), (1, aI ((p : Int)))]) rfl rfl ?_
  refine g_iconst rfl ?_
  refine g_istore_n (l1 := [(3, aI 0), (2, aI 0), (0, aO (some (c + 11))), (1, aI ((p : Int)))]) rfl rfl ?_
  refine g_iconst rfl ?_
  refine g_istore (l1 := [(4, aI 0), (3, aI 0), (2, aI 0), (0, aO (some (c + 11))), (1, aI ((p : Int)))]) rfl rfl ?_
  exact l7 _ 0 _ _ (by omega) (by rfl) (by rfl) (Nat.lt_succ_self _)
set_option maxRecDepth 100000 in
theorem x_pgMax {w : aW} {d : Nat} (hd : 4 ≤ d) {h : aH} {c : Nat} (cs : CS h c) (V : Nat → Nat → Int) {S : aS} (xg : XG V c S) (ok : OkG S) (p : Nat) (hp : p < sG S) : WP w d 108 [aO (some (c + 11)), aI ((p : Int))] (hw h V) (RJ (fun r h1 => h1 = hw h V ∧ gMx S p (sGn S p) (sGn S p) 0 r)) := by
  obtain ⟨d, rfl⟩ : ∃ d1, d = d1 + 1 := ⟨d - 1, by omega⟩
  refine WP.enter (cd := cd_X3_greatestSquare) rfl ?_
  have hls : largs 0 [aO (some (c + 11)), aI ((p : Int))] = [(0, aO (some (c + 11))), (1, aI ((p : Int)))] := rfl
  rw [hls]
  clear hls
  have l5 : ∀ (fuel : Nat) (i : Nat) (g : Int), (i ≤ sGn S p) → (gMx S p (sGn S p) i (i + 1) g) → sGn S p - i < fuel → Wk w d cd_X3_greatestSquare 5 [(4, aI ((i : Int))), (2, aJ g), (0, aO (some (c + 11))), (1, aI ((p : Int)))] [] (hw h V) (RJ (fun r h1 => h1 = hw h V ∧ gMx S p (sGn S p) (sGn S p) 0 r)) := by
    intro fuel
    induction fuel with
    | zero => intros; omega
    | succ fuel ih5 =>
      intro i g hi hg hfuel
      have hok2 := (ok.2 p hp).1
      have l21 : ∀ (fuel : Nat) (j : Nat) (g : Int), (i + 1 ≤ j) → (j ≤ sGn S p) → (gMx S p (sGn S p) i j g) → sGn S p - j < fuel → Wk w d cd_X3_greatestSquare 21 [(5, aI ((j : Int))), (4, aI ((i : Int))), (2, aJ g), (0, aO (some (c + 11))), (1, aI ((p : Int)))] [] (hw h V) (RJ (fun r h1 => h1 = hw h V ∧ gMx S p (sGn S p) (sGn S p) 0 r)) := by
        intro fuel
        induction fuel with
        | zero => intros; omega
        | succ fuel ih21 =>
          intro j g hj hj2 hg hfuel
          refine g_iload rfl rfl ?_
          refine g_aload_n rfl rfl ?_
          refine g_iload_n rfl rfl ?_
          refine g_callVI [aI ((p : Int))] [aI ((j : Int))] rfl rfl rfl rfl (Nat.le_of_ble_eq_true rfl) (cs.kd 11 (by omega) rfl) (x_pgSize (by omega) cs V xg ok p (by omega)) ?_
          rintro r1 hx1 ⟨ehx1, rfl⟩
          rw [ehx1]
          clear ehx1 hx1
          refine g_icmp_ge rfl (fun cq28 => ?_) (fun cq28 => ?_)
          · skip
            refine g_iinc (l1 := [(4, aI ((i : Int) + 1)), (5, aI ((j : Int))), (2, aJ g), (0, aO (some (c + 11))), (1, aI ((p : Int)))]) rfl rfl (by omega) (by omega) rfl ?_
            refine g_goto rfl ?_
            refine g_ls [0, 2, 3, 4] rfl rfl ?_
            exact ih5 (i + 1) _ (by omega) (by exact gMx_row hg (by omega) _ rfl _ (by omega)) (by omega)
          · skip
            refine g_lload_n rfl rfl ?_
            refine g_aload_n rfl rfl ?_
            refine g_iload_n rfl rfl ?_
            refine g_iload rfl rfl ?_
            refine g_iload rfl rfl ?_
            refine g_callVI [aI ((p : Int)), aI ((i : Int)), aI ((j : Int))] [aJ g] rfl rfl rfl rfl (Nat.le_of_ble_eq_true rfl) (cs.kd 11 (by omega) rfl) (x_pgSq (by omega) cs V xg ok p (by omega) i (by omega) j (by omega)) ?_
            rintro r2 hx2 ⟨ehx2, rfl⟩
            rw [ehx2]
            clear ehx2 hx2
            refine g_i2l rfl ?_
            refine g_callSJ [aJ g, aJ (gQ S p i j)] [] rfl rfl rfl rfl (Nat.le_of_ble_eq_true rfl) (c_lmax (by omega) g (gQ S p i j) _) ?_
            rintro r3 hx3 ⟨ehx3, rfl⟩
            rw [ehx3]
            clear ehx3 hx3
            refine g_lstore_n (l1 := [(2, aJ (max g (gQ S p i j))), (5, aI ((j : Int))), (4, aI ((i : Int))), (0, aO (some (c + 11))), (1, aI ((p : Int)))]) rfl rfl ?_
            refine g_iinc (l1 := [(5, aI ((j : Int) + 1)), (2, aJ (max g (gQ S p i j))), (4, aI ((i : Int))), (0, aO (some (c + 11))), (1, aI ((p : Int)))]) rfl rfl (by omega) (by omega) rfl ?_
            refine g_goto rfl ?_
            refine g_ls [0, 2, 1, 3, 4] rfl rfl ?_
            exact ih21 (j + 1) _ (by omega) (by omega) (by exact gMx_step hg ⟨by omega, by omega⟩ rfl (gQ_b ok hp (a := i) (b := j) (by omega) (by omega)).1) (by omega)
      refine g_iload rfl rfl ?_
      refine g_aload_n rfl rfl ?_
      refine g_iload_n rfl rfl ?_
      refine g_callVI [aI ((p : Int))] [aI ((i : Int))] rfl rfl rfl rfl (Nat.le_of_ble_eq_true rfl) (cs.kd 11 (by omega) rfl) (x_pgSize (by omega) cs V xg ok p (by omega)) ?_
      rintro r4 hx4 ⟨ehx4, rfl⟩
      rw [ehx4]
      clear ehx4 hx4
      refine g_icmp_ge rfl (fun cq12 => ?_) (fun cq12 => ?_)
      · skip
        refine g_lload_n rfl rfl ?_
        refine g_lret rfl ?_
        exact ⟨rfl, fun a b x y z => hg.1 a b x y (by omega), hg.2⟩
      · skip
        refine g_iload rfl rfl ?_
        refine g_iconst rfl ?_
        refine g_iadd rfl (by omega) (by omega) ?_
        refine g_istore (l1 := [(5, aI (((i : Int)) + 1)), (4, aI ((i : Int))), (2, aJ g), (0, aO (some (c + 11))), (1, aI ((p : Int)))]) rfl rfl ?_
        exact l21 _ (i + 1) _ (by omega) (by omega) (by exact hg) (Nat.lt_succ_self _)
  refine g_lconst0 rfl ?_
  refine g_lstore_n (l1 := [(2, aJ 0), (0, aO (some (c + 11))), (1, aI ((p : Int)))]) rfl rfl ?_
  refine g_iconst rfl ?_
  refine g_istore (l1 := [(4, aI 0), (2, aJ 0), (0, aO (some (c + 11))), (1, aI ((p : Int)))]) rfl rfl ?_
  exact l5 _ 0 _ (by omega) (by exact ⟨fun a b x y z => by omega, Or.inl rfl, by omega⟩) (Nat.lt_succ_self _)
set_option maxRecDepth 100000 in
theorem x_pgOns {w : aW} {d : Nat} (hd : 5 ≤ d) {h : aH} {c : Nat} (cs : CS h c) (V : Nat → Nat → Int) {S : aS} (xg : XG V c S) (ok : OkG S) (p : Nat) (hp : p < sG S) : WP w d 109 [aO (some (c + 11)), aI ((p : Int))] (hw h V) (RJ (fun r h1 => h1 = hw h V ∧ r = gOs S p (sGn S p))) := by
  obtain ⟨d, rfl⟩ : ∃ d1, d = d1 + 1 := ⟨d - 1, by omega⟩
  refine WP.enter (cd := cd_X3_placesOn) rfl ?_
  have hls : largs 0 [aO (some (c + 11)), aI ((p : Int))] = [(0, aO (some (c + 11))), (1, aI ((p : Int)))] := rfl
  rw [hls]
  clear hls
  have l5 : ∀ (fuel : Nat) (i : Nat), (i ≤ sGn S p) → sGn S p - i < fuel → Wk w d cd_X3_placesOn 5 [(4, aI ((i : Int))), (2, aJ (gOs S p i)), (0, aO (some (c + 11))), (1, aI ((p : Int)))] [] (hw h V) (RJ (fun r h1 => h1 = hw h V ∧ r = gOs S p (sGn S p))) := by
    intro fuel
    induction fuel with
    | zero => intros; omega
    | succ fuel ih5 =>
      intro i hi hfuel
      have hok2 := (ok.2 p hp).1
      have hb := gOs_b ok hp i hi
      refine g_iload rfl rfl ?_
      refine g_aload_n rfl rfl ?_
      refine g_iload_n rfl rfl ?_
      refine g_callVI [aI ((p : Int))] [aI ((i : Int))] rfl rfl rfl rfl (Nat.le_of_ble_eq_true rfl) (cs.kd 11 (by omega) rfl) (x_pgSize (by omega) cs V xg ok p (by omega)) ?_
      rintro r1 hx1 ⟨ehx1, rfl⟩
      rw [ehx1]
      clear ehx1 hx1
      refine g_icmp_ge rfl (fun cq12 => ?_) (fun cq12 => ?_)
      · skip
        refine g_lload_n rfl rfl ?_
        refine g_lret rfl ?_
        refine ⟨rfl, ?_⟩
        rw [show sGn S p = i by omega]
      · skip
        have li := gAft_lt (S := S) (p := p) (i := i) (by omega)
        have bx := ok.x hp (i := i) (by omega)
        have by_ := ok.y hp (i := i) (by omega)
        have cx := ok.x hp li
        have cy := ok.y hp li
        refine g_aload_n rfl rfl ?_
        refine g_iload_n rfl rfl ?_
        refine g_iload rfl rfl ?_
        refine g_callVI [aI ((p : Int)), aI ((i : Int))] [] rfl rfl rfl rfl (Nat.le_of_ble_eq_true rfl) (cs.kd 11 (by omega) rfl) (x_pgAft (by omega) cs V xg ok p (by omega) i (by omega)) ?_
        rintro r2 hx2 ⟨ehx2, rfl⟩
        rw [ehx2]
        clear ehx2 hx2
        refine g_istore (l1 := [(5, aI ((gAft S p i : Int))), (4, aI ((i : Int))), (2, aJ (gOs S p i)), (0, aO (some (c + 11))), (1, aI ((p : Int)))]) rfl rfl ?_
        refine g_lload_n rfl rfl ?_
        refine g_aload_n rfl rfl ?_
        refine g_iload_n rfl rfl ?_
        refine g_iload rfl rfl ?_
        refine g_callVI [aI ((p : Int)), aI ((gAft S p i : Int))] [aJ (gOs S p i)] rfl rfl rfl rfl (Nat.le_of_ble_eq_true rfl) (cs.kd 11 (by omega) rfl) (x_pgX (by omega) cs V xg ok p (by omega) (gAft S p i) (by omega)) ?_
        rintro r3 hx3 ⟨ehx3, rfl⟩
        rw [ehx3]
        clear ehx3 hx3
        refine g_aload_n rfl rfl ?_
        refine g_iload_n rfl rfl ?_
        refine g_iload rfl rfl ?_
        refine g_callVI [aI ((p : Int)), aI ((i : Int))] [aI (gx S p (gAft S p i)), aJ (gOs S p i)] rfl rfl rfl rfl (Nat.le_of_ble_eq_true rfl) (cs.kd 11 (by omega) rfl) (x_pgX (by omega) cs V xg ok p (by omega) i (by omega)) ?_
        rintro r4 hx4 ⟨ehx4, rfl⟩
        rw [ehx4]
        clear ehx4 hx4
        refine g_isub rfl (by omega) (by omega) ?_
        refine g_i2l rfl ?_
        refine g_aload_n rfl rfl ?_
        refine g_iload_n rfl rfl ?_
        refine g_iload rfl rfl ?_
        refine g_callVI [aI ((p : Int)), aI ((gAft S p i : Int))] [aJ ((gx S p (gAft S p i)) - (gx S p i)), aJ (gOs S p i)] rfl rfl rfl rfl (Nat.le_of_ble_eq_true rfl) (cs.kd 11 (by omega) rfl) (x_pgY (by omega) cs V xg ok p (by omega) (gAft S p i) (by omega)) ?_
        rintro r5 hx5 ⟨ehx5, rfl⟩
        rw [ehx5]
        clear ehx5 hx5
        refine g_aload_n rfl rfl ?_
        refine g_iload_n rfl rfl ?_
        refine g_iload rfl rfl ?_
        refine g_callVI [aI ((p : Int)), aI ((i : Int))] [aI (gy S p (gAft S p i)), aJ ((gx S p (gAft S p i)) - (gx S p i)), aJ (gOs S p i)] rfl rfl rfl rfl (Nat.le_of_ble_eq_true rfl) (cs.kd 11 (by omega) rfl) (x_pgY (by omega) cs V xg ok p (by omega) i (by omega)) ?_
        rintro r6 hx6 ⟨ehx6, rfl⟩
        rw [ehx6]
        clear ehx6 hx6
        refine g_isub rfl (by omega) (by omega) ?_
        refine g_i2l rfl ?_
        refine g_callSJ [aJ ((gx S p (gAft S p i)) - (gx S p i)), aJ ((gy S p (gAft S p i)) - (gy S p i))] [aJ (gOs S p i)] rfl rfl rfl rfl (Nat.le_of_ble_eq_true rfl) (c_gcd (by omega) ((gx S p (gAft S p i)) - (gx S p i)) ((gy S p (gAft S p i)) - (gy S p i)) (by omega) (by omega) _) ?_
        rintro rg_ hxg_ ⟨ehxg_, rfl⟩
        rw [ehxg_]
        clear ehxg_ hxg_
        have hg := gcd_le (gx S p (gAft S p i) - gx S p i) (gy S p (gAft S p i) - gy S p i)
        refine g_ladd rfl (by omega) (by omega) ?_
        refine g_top (v2 := aJ (gOs S p (i + 1))) (congrArg aJ (by rfl)) ?_
        refine g_lstore_n (l1 := [(2, aJ (gOs S p (i + 1))), (5, aI ((gAft S p i : Int))), (4, aI ((i : Int))), (0, aO (some (c + 11))), (1, aI ((p : Int)))]) rfl rfl ?_
        refine g_iinc (l1 := [(4, aI ((i : Int) + 1)), (2, aJ (gOs S p (i + 1))), (5, aI ((gAft S p i : Int))), (0, aO (some (c + 11))), (1, aI ((p : Int)))]) rfl rfl (by omega) (by omega) rfl ?_
        refine g_goto rfl ?_
        refine g_ls [0, 1, 3, 4] rfl rfl ?_
        exact ih5 (i + 1) (by omega) (by omega)
  refine g_lconst0 rfl ?_
  refine g_top (v2 := aJ (gOs S p 0)) (congrArg aJ (by exact (show (0 : Int) = gOs S p 0 from rfl))) ?_
  refine g_lstore_n (l1 := [(2, aJ (gOs S p 0)), (0, aO (some (c + 11))), (1, aI ((p : Int)))]) rfl rfl ?_
  refine g_iconst rfl ?_
  refine g_istore (l1 := [(4, aI 0), (2, aJ (gOs S p 0)), (0, aO (some (c + 11))), (1, aI ((p : Int)))]) rfl rfl ?_
  exact l5 _ 0 (by omega) (Nat.lt_succ_self _)
set_option maxRecDepth 100000 in
theorem x_pgIns {w : aW} {d : Nat} (hd : 6 ≤ d) {h : aH} {c : Nat} (cs : CS h c) (V : Nat → Nat → Int) {S : aS} (xg : XG V c S) (ok : OkG S) (p : Nat) (hp : p < sG S) : WP w d 110 [aO (some (c + 11)), aI ((p : Int))] (hw h V) (RJ (fun r h1 => h1 = hw h V ∧ r = w64 ((((gAr S p (sGn S p)).natAbs : Int) - gOs S p (sGn S p) + 2).tdiv 2))) := by
  obtain ⟨d, rfl⟩ : ∃ d1, d = d1 + 1 := ⟨d - 1, by omega⟩
  refine WP.enter (cd := cd_X3_placesIn) rfl ?_
  have hok2 := (ok.2 p hp).1
  have hA := gAr_b ok hp _ (Nat.le_refl _)
  have hO := gOs_b ok hp _ (Nat.le_refl _)
  have hls : largs 0 [aO (some (c + 11)), aI ((p : Int))] = [(0, aO (some (c + 11))), (1, aI ((p : Int)))] := rfl
  rw [hls]
  clear hls
  refine g_aload_n rfl rfl ?_
  refine g_iload_n rfl rfl ?_
  refine g_callVJ [aI ((p : Int))] [] rfl rfl rfl rfl (Nat.le_of_ble_eq_true rfl) (cs.kd 11 (by omega) rfl) (x_pgArea (by omega) cs V xg ok p (by omega)) ?_
  rintro r1 hx1 ⟨ehx1, rfl⟩
  rw [ehx1]
  clear ehx1 hx1
  refine g_callSJ [aJ (gAr S p (sGn S p))] [] rfl rfl rfl rfl (Nat.le_of_ble_eq_true rfl) (c_abs (by omega) (gAr S p (sGn S p)) (by omega) _) ?_
  rintro ra_ hxa_ ⟨ehxa_, rfl⟩
  rw [ehxa_]
  clear ehxa_ hxa_
  refine g_aload_n rfl rfl ?_
  refine g_iload_n rfl rfl ?_
  refine g_callVJ [aI ((p : Int))] [aJ (((gAr S p (sGn S p)).natAbs : Int))] rfl rfl rfl rfl (Nat.le_of_ble_eq_true rfl) (cs.kd 11 (by omega) rfl) (x_pgOns (by omega) cs V xg ok p (by omega)) ?_
  rintro r2 hx2 ⟨ehx2, rfl⟩
  rw [ehx2]
  clear ehx2 hx2
  refine g_lsub rfl (by omega) (by omega) ?_
  refine g_ldc2 rfl ?_
  refine g_ladd rfl (by omega) (by omega) ?_
  refine g_ldc2 rfl ?_
  refine g_ldiv rfl (by omega) ?_
  refine g_lret rfl ?_
  exact ⟨rfl, rfl⟩
set_option maxRecDepth 100000 in
theorem x_pgWhere {w : aW} {d : Nat} (hd : 5 ≤ d) {h : aH} {c : Nat} (cs : CS h c) (V : Nat → Nat → Int) {S : aS} (xg : XG V c S) (ok : OkG S) (p : Nat) (hp : p < sG S) (x y w1 : Int) (hx : -1048576 ≤ x ∧ x ≤ 1048576) (hy : -1048576 ≤ y ∧ y ≤ 1048576) (hw1 : 0 < w1 ∧ w1 ≤ 1048576) : WP w d 111 [aO (some (c + 11)), aI ((p : Int)), aJ x, aJ y, aJ w1] (hw h V) (RI (fun r h1 => h1 = hw h V ∧ r = gWh S p x y w1)) := by
  obtain ⟨d, rfl⟩ : ∃ d1, d = d1 + 1 := ⟨d - 1, by omega⟩
  refine WP.enter (cd := cd_X3_whereIs) rfl ?_
  have hls : largs 0 [aO (some (c + 11)), aI ((p : Int)), aJ x, aJ y, aJ w1] = [(0, aO (some (c + 11))), (1, aI ((p : Int))), (2, aJ x), (4, aJ y), (6, aJ w1)] := rfl
  rw [hls]
  clear hls
  have l6 : ∀ (fuel : Nat) (i : Nat) (l : Int), (i ≤ sGn S p) → (gWo S p x y w1 i = false) → (l = if gWi S p x y w1 i = true then 1 else 0) → sGn S p - i < fuel → Wk w d cd_X3_whereIs 6 [(9, aI ((i : Int))), (8, aI l), (0, aO (some (c + 11))), (1, aI ((p : Int))), (2, aJ x), (4, aJ y), (6, aJ w1)] [] (hw h V) (RI (fun r h1 => h1 = hw h V ∧ r = gWh S p x y w1)) := by
    intro fuel
    induction fuel with
    | zero => intros; omega
    | succ fuel ih6 =>
      intro i l hi hn hl hfuel
      have hok2 := (ok.2 p hp).1
      refine g_iload rfl rfl ?_
      refine g_aload_n rfl rfl ?_
      refine g_iload_n rfl rfl ?_
      refine g_callVI [aI ((p : Int))] [aI ((i : Int))] rfl rfl rfl rfl (Nat.le_of_ble_eq_true rfl) (cs.kd 11 (by omega) rfl) (x_pgSize (by omega) cs V xg ok p (by omega)) ?_
      rintro r1 hx1 ⟨ehx1, rfl⟩
      rw [ehx1]
      clear ehx1 hx1
      refine g_icmp_ge rfl (fun cq13 => ?_) (fun cq13 => ?_)
      · skip
        refine g_iload rfl rfl ?_
        refine g_if_eq rfl (fun cq225 => ?_) (fun cq225 => ?_)
        · skip
          refine g_iconst rfl ?_
          refine g_iret rfl ?_
          refine ⟨rfl, ?_⟩
          unfold gWh
          rw [show sGn S p = i by omega, hn, if_neg (by decide)]
          cases hW : gWi S p x y w1 i <;> rw [hW] at hl <;> simp at hl ⊢ <;> omega
        · skip
          refine g_iconst rfl ?_
          refine g_goto rfl ?_
          refine g_iret rfl ?_
          refine ⟨rfl, ?_⟩
          unfold gWh
          rw [show sGn S p = i by omega, hn, if_neg (by decide)]
          cases hW : gWi S p x y w1 i <;> rw [hW] at hl <;> simp at hl ⊢ <;> omega
      · skip
        have li := gAft_lt (S := S) (p := p) (i := i) (by omega)
        have bx := ok.x hp (i := i) (by omega)
        have by_ := ok.y hp (i := i) (by omega)
        have cx := ok.x hp li
        have cy := ok.y hp li
        refine g_aload_n rfl rfl ?_
        refine g_iload_n rfl rfl ?_
        refine g_iload rfl rfl ?_
        refine g_callVI [aI ((p : Int)), aI ((i : Int))] [] rfl rfl rfl rfl (Nat.le_of_ble_eq_true rfl) (cs.kd 11 (by omega) rfl) (x_pgAft (by omega) cs V xg ok p (by omega) i (by omega)) ?_
        rintro r2 hx2 ⟨ehx2, rfl⟩
        rw [ehx2]
        clear ehx2 hx2
        refine g_istore (l1 := [(10, aI ((gAft S p i : Int))), (9, aI ((i : Int))), (8, aI l), (0, aO (some (c + 11))), (1, aI ((p : Int))), (2, aJ x), (4, aJ y), (6, aJ w1)]) rfl rfl ?_
        refine g_lload_n rfl rfl ?_
        refine g_aload_n rfl rfl ?_
        refine g_iload_n rfl rfl ?_
        refine g_iload rfl rfl ?_
        refine g_callVI [aI ((p : Int)), aI ((i : Int))] [aJ x] rfl rfl rfl rfl (Nat.le_of_ble_eq_true rfl) (cs.kd 11 (by omega) rfl) (x_pgX (by omega) cs V xg ok p (by omega) i (by omega)) ?_
        rintro r3 hx3 ⟨ehx3, rfl⟩
        rw [ehx3]
        clear ehx3 hx3
        refine g_i2l rfl ?_
        refine g_lload rfl rfl ?_
        have m36 := mulq (a := 1000) (b := 1048576) (x := gx S p i) (y := w1) (by omega) (by omega)
        refine g_lmul rfl (by omega) (by omega) ?_
        refine g_lsub rfl (by omega) (by omega) ?_
        refine g_lstore (l1 := [(11, aJ (x - ((gx S p i) * w1))), (10, aI ((gAft S p i : Int))), (9, aI ((i : Int))), (8, aI l), (0, aO (some (c + 11))), (1, aI ((p : Int))), (2, aJ x), (4, aJ y), (6, aJ w1)]) rfl rfl ?_
        refine g_lload rfl rfl ?_
        refine g_aload_n rfl rfl ?_
        refine g_iload_n rfl rfl ?_
        refine g_iload rfl rfl ?_
        refine g_callVI [aI ((p : Int)), aI ((i : Int))] [aJ y] rfl rfl rfl rfl (Nat.le_of_ble_eq_true rfl) (cs.kd 11 (by omega) rfl) (x_pgY (by omega) cs V xg ok p (by omega) i (by omega)) ?_
        rintro r4 hx4 ⟨ehx4, rfl⟩
        rw [ehx4]
        clear ehx4 hx4
        refine g_i2l rfl ?_
        refine g_lload rfl rfl ?_
        have m52 := mulq (a := 1000) (b := 1048576) (x := gy S p i) (y := w1) (by omega) (by omega)
        refine g_lmul rfl (by omega) (by omega) ?_
        refine g_lsub rfl (by omega) (by omega) ?_
        refine g_lstore (l1 := [(13, aJ (y - ((gy S p i) * w1))), (11, aJ (x - ((gx S p i) * w1))), (10, aI ((gAft S p i : Int))), (9, aI ((i : Int))), (8, aI l), (0, aO (some (c + 11))), (1, aI ((p : Int))), (2, aJ x), (4, aJ y), (6, aJ w1)]) rfl rfl ?_
        refine g_lload_n rfl rfl ?_
        refine g_aload_n rfl rfl ?_
        refine g_iload_n rfl rfl ?_
        refine g_iload rfl rfl ?_
        refine g_callVI [aI ((p : Int)), aI ((gAft S p i : Int))] [aJ x] rfl rfl rfl rfl (Nat.le_of_ble_eq_true rfl) (cs.kd 11 (by omega) rfl) (x_pgX (by omega) cs V xg ok p (by omega) (gAft S p i) (by omega)) ?_
        rintro r5 hx5 ⟨ehx5, rfl⟩
        rw [ehx5]
        clear ehx5 hx5
        refine g_i2l rfl ?_
        refine g_lload rfl rfl ?_
        have m67 := mulq (a := 1000) (b := 1048576) (x := gx S p (gAft S p i)) (y := w1) (by omega) (by omega)
        refine g_lmul rfl (by omega) (by omega) ?_
        refine g_lsub rfl (by omega) (by omega) ?_
        refine g_lstore (l1 := [(15, aJ (x - ((gx S p (gAft S p i)) * w1))), (13, aJ (y - ((gy S p i) * w1))), (11, aJ (x - ((gx S p i) * w1))), (10, aI ((gAft S p i : Int))), (9, aI ((i : Int))), (8, aI l), (0, aO (some (c + 11))), (1, aI ((p : Int))), (2, aJ x), (4, aJ y), (6, aJ w1)]) rfl rfl ?_
        refine g_lload rfl rfl ?_
        refine g_aload_n rfl rfl ?_
        refine g_iload_n rfl rfl ?_
        refine g_iload rfl rfl ?_
        refine g_callVI [aI ((p : Int)), aI ((gAft S p i : Int))] [aJ y] rfl rfl rfl rfl (Nat.le_of_ble_eq_true rfl) (cs.kd 11 (by omega) rfl) (x_pgY (by omega) cs V xg ok p (by omega) (gAft S p i) (by omega)) ?_
        rintro r6 hx6 ⟨ehx6, rfl⟩
        rw [ehx6]
        clear ehx6 hx6
        refine g_i2l rfl ?_
        refine g_lload rfl rfl ?_
        have m83 := mulq (a := 1000) (b := 1048576) (x := gy S p (gAft S p i)) (y := w1) (by omega) (by omega)
        refine g_lmul rfl (by omega) (by omega) ?_
        refine g_lsub rfl (by omega) (by omega) ?_
        refine g_lstore (l1 := [(17, aJ (y - ((gy S p (gAft S p i)) * w1))), (15, aJ (x - ((gx S p (gAft S p i)) * w1))), (13, aJ (y - ((gy S p i) * w1))), (11, aJ (x - ((gx S p i) * w1))), (10, aI ((gAft S p i : Int))), (9, aI ((i : Int))), (8, aI l), (0, aO (some (c + 11))), (1, aI ((p : Int))), (2, aJ x), (4, aJ y), (6, aJ w1)]) rfl rfl ?_
        refine g_aload_n rfl rfl ?_
        refine g_iload_n rfl rfl ?_
        refine g_iload rfl rfl ?_
        refine g_callVI [aI ((p : Int)), aI ((gAft S p i : Int))] [] rfl rfl rfl rfl (Nat.le_of_ble_eq_true rfl) (cs.kd 11 (by omega) rfl) (x_pgX (by omega) cs V xg ok p (by omega) (gAft S p i) (by omega)) ?_
        rintro r7 hx7 ⟨ehx7, rfl⟩
        rw [ehx7]
        clear ehx7 hx7
        refine g_aload_n rfl rfl ?_
        refine g_iload_n rfl rfl ?_
        refine g_iload rfl rfl ?_
        refine g_callVI [aI ((p : Int)), aI ((i : Int))] [aI (gx S p (gAft S p i))] rfl rfl rfl rfl (Nat.le_of_ble_eq_true rfl) (cs.kd 11 (by omega) rfl) (x_pgX (by omega) cs V xg ok p (by omega) i (by omega)) ?_
        rintro r8 hx8 ⟨ehx8, rfl⟩
        rw [ehx8]
        clear ehx8 hx8
        refine g_isub rfl (by omega) (by omega) ?_
        refine g_i2l rfl ?_
        refine g_lload rfl rfl ?_
        have m105 := mulq (a := 2000) (b := 1050000000) (x := gx S p (gAft S p i) - gx S p i) (y := y - gy S p i * w1) (by omega) (by omega)
        refine g_lmul rfl (by omega) (by omega) ?_
        refine g_aload_n rfl rfl ?_
        refine g_iload_n rfl rfl ?_
        refine g_iload rfl rfl ?_
        refine g_callVI [aI ((p : Int)), aI ((gAft S p i : Int))] [aJ (((gx S p (gAft S p i)) - (gx S p i)) * (y - ((gy S p i) * w1)))] rfl rfl rfl rfl (Nat.le_of_ble_eq_true rfl) (cs.kd 11 (by omega) rfl) (x_pgY (by omega) cs V xg ok p (by omega) (gAft S p i) (by omega)) ?_
        rintro r9 hx9 ⟨ehx9, rfl⟩
        rw [ehx9]
        clear ehx9 hx9
        refine g_aload_n rfl rfl ?_
        refine g_iload_n rfl rfl ?_
        refine g_iload rfl rfl ?_
        refine g_callVI [aI ((p : Int)), aI ((i : Int))] [aI (gy S p (gAft S p i)), aJ (((gx S p (gAft S p i)) - (gx S p i)) * (y - ((gy S p i) * w1)))] rfl rfl rfl rfl (Nat.le_of_ble_eq_true rfl) (cs.kd 11 (by omega) rfl) (x_pgY (by omega) cs V xg ok p (by omega) i (by omega)) ?_
        rintro r10 hx10 ⟨ehx10, rfl⟩
        rw [ehx10]
        clear ehx10 hx10
        refine g_isub rfl (by omega) (by omega) ?_
        refine g_i2l rfl ?_
        refine g_lload rfl rfl ?_
        have m124 := mulq (a := 2000) (b := 1050000000) (x := gy S p (gAft S p i) - gy S p i) (y := x - gx S p i * w1) (by omega) (by omega)
        refine g_lmul rfl (by omega) (by omega) ?_
        refine g_lsub rfl (by omega) (by omega) ?_
        refine g_top (v2 := aJ (gWs S p x y w1 i)) (congrArg aJ (by rfl)) ?_
        refine g_lstore (l1 := [(19, aJ (gWs S p x y w1 i)), (17, aJ (y - ((gy S p (gAft S p i)) * w1))), (15, aJ (x - ((gx S p (gAft S p i)) * w1))), (13, aJ (y - ((gy S p i) * w1))), (11, aJ (x - ((gx S p i) * w1))), (10, aI ((gAft S p i : Int))), (9, aI ((i : Int))), (8, aI l), (0, aO (some (c + 11))), (1, aI ((p : Int))), (2, aJ x), (4, aJ y), (6, aJ w1)]) rfl rfl ?_
        refine g_lload rfl rfl ?_
        refine g_lconst0 rfl ?_
        refine g_lc_ne rfl rfl (fun cq132 => ?_) (fun cq132 => ?_)
        · skip
          refine g_lload rfl rfl ?_
          refine g_lconst0 rfl ?_
          refine g_lc_ge rfl rfl (fun cq160 => ?_) (fun cq160 => ?_)
          · skip
            refine g_iconst rfl ?_
            refine g_istore (l1 := [(21, aI 0), (19, aJ (gWs S p x y w1 i)), (17, aJ (y - ((gy S p (gAft S p i)) * w1))), (15, aJ (x - ((gx S p (gAft S p i)) * w1))), (13, aJ (y - ((gy S p i) * w1))), (11, aJ (x - ((gx S p i) * w1))), (10, aI ((gAft S p i : Int))), (9, aI ((i : Int))), (8, aI l), (0, aO (some (c + 11))), (1, aI ((p : Int))), (2, aJ x), (4, aJ y), (6, aJ w1)]) rfl rfl ?_
            refine g_lload rfl rfl ?_
            refine g_lconst0 rfl ?_
            refine g_lc_ge rfl rfl (fun cq174 => ?_) (fun cq174 => ?_)
            · skip
              refine g_iconst rfl ?_
              refine g_iload rfl rfl ?_
              refine g_icmp_eq_t rfl (by omega) ?_
              refine g_iinc (l1 := [(9, aI ((i : Int) + 1)), (21, aI 0), (19, aJ (gWs S p x y w1 i)), (17, aJ (y - ((gy S p (gAft S p i)) * w1))), (15, aJ (x - ((gx S p (gAft S p i)) * w1))), (13, aJ (y - ((gy S p i) * w1))), (11, aJ (x - ((gx S p i) * w1))), (10, aI ((gAft S p i : Int))), (8, aI l), (0, aO (some (c + 11))), (1, aI ((p : Int))), (2, aJ x), (4, aJ y), (6, aJ w1)]) rfl rfl (by omega) (by omega) rfl ?_
              refine g_goto rfl ?_
              refine g_ls [0, 8, 9, 10, 11, 12, 13] rfl rfl ?_
              exact ih6 (i + 1) _ (by omega) (by exact gWo_no hn (by first | (intro z; exact cq132 z.1) | (intro z; exact z.2.1 cq142) | (intro z; exact z.2.2 cq152)) rfl) (by exact xor_step hl (fun z => ⟨fun q => by omega, fun q => by omega⟩) (fun z => by omega)) (by omega)
            · skip
              refine g_iconst rfl ?_
              refine g_goto rfl ?_
              refine g_iload rfl rfl ?_
              refine g_icmp_eq_f rfl (by omega) ?_
              refine g_lload rfl rfl ?_
              refine g_lconst0 rfl ?_
              refine g_lc_le rfl rfl (fun cq191 => ?_) (fun cq191 => ?_)
              · skip
                refine g_iconst rfl ?_
                refine g_iload rfl rfl ?_
                refine g_icmp_ne_f rfl (by omega) ?_
                refine g_iload rfl rfl ?_
                refine g_if_ne rfl (fun cq207 => ?_) (fun cq207 => ?_)
                · skip
                  refine g_iconst rfl ?_
                  refine g_istore (l1 := [(8, aI 0), (21, aI 0), (19, aJ (gWs S p x y w1 i)), (17, aJ (y - ((gy S p (gAft S p i)) * w1))), (15, aJ (x - ((gx S p (gAft S p i)) * w1))), (13, aJ (y - ((gy S p i) * w1))), (11, aJ (x - ((gx S p i) * w1))), (10, aI ((gAft S p i : Int))), (9, aI ((i : Int))), (0, aO (some (c + 11))), (1, aI ((p : Int))), (2, aJ x), (4, aJ y), (6, aJ w1)]) rfl rfl ?_
                  refine g_iinc (l1 := [(9, aI ((i : Int) + 1)), (8, aI 0), (21, aI 0), (19, aJ (gWs S p x y w1 i)), (17, aJ (y - ((gy S p (gAft S p i)) * w1))), (15, aJ (x - ((gx S p (gAft S p i)) * w1))), (13, aJ (y - ((gy S p i) * w1))), (11, aJ (x - ((gx S p i) * w1))), (10, aI ((gAft S p i : Int))), (0, aO (some (c + 11))), (1, aI ((p : Int))), (2, aJ x), (4, aJ y), (6, aJ w1)]) rfl rfl (by omega) (by omega) rfl ?_
                  refine g_goto rfl ?_
                  refine g_ls [0, 1, 9, 10, 11, 12, 13] rfl rfl ?_
                  exact ih6 (i + 1) _ (by omega) (by exact gWo_no hn (by first | (intro z; exact cq132 z.1) | (intro z; exact z.2.1 cq142) | (intro z; exact z.2.2 cq152)) rfl) (by exact xor_step hl (fun z => ⟨fun q => by omega, fun q => by omega⟩) (fun z => by omega)) (by omega)
                · skip
                  refine g_iconst rfl ?_
                  refine g_goto rfl ?_
                  refine g_istore (l1 := [(8, aI 1), (21, aI 0), (19, aJ (gWs S p x y w1 i)), (17, aJ (y - ((gy S p (gAft S p i)) * w1))), (15, aJ (x - ((gx S p (gAft S p i)) * w1))), (13, aJ (y - ((gy S p i) * w1))), (11, aJ (x - ((gx S p i) * w1))), (10, aI ((gAft S p i : Int))), (9, aI ((i : Int))), (0, aO (some (c + 11))), (1, aI ((p : Int))), (2, aJ x), (4, aJ y), (6, aJ w1)]) rfl rfl ?_
                  refine g_iinc (l1 := [(9, aI ((i : Int) + 1)), (8, aI 1), (21, aI 0), (19, aJ (gWs S p x y w1 i)), (17, aJ (y - ((gy S p (gAft S p i)) * w1))), (15, aJ (x - ((gx S p (gAft S p i)) * w1))), (13, aJ (y - ((gy S p i) * w1))), (11, aJ (x - ((gx S p i) * w1))), (10, aI ((gAft S p i : Int))), (0, aO (some (c + 11))), (1, aI ((p : Int))), (2, aJ x), (4, aJ y), (6, aJ w1)]) rfl rfl (by omega) (by omega) rfl ?_
                  refine g_goto rfl ?_
                  refine g_ls [0, 1, 9, 10, 11, 12, 13] rfl rfl ?_
                  exact ih6 (i + 1) _ (by omega) (by exact gWo_no hn (by first | (intro z; exact cq132 z.1) | (intro z; exact z.2.1 cq142) | (intro z; exact z.2.2 cq152)) rfl) (by exact xor_step hl (fun z => ⟨fun q => by omega, fun q => by omega⟩) (fun z => by omega)) (by omega)
              · skip
                refine g_iconst rfl ?_
                refine g_goto rfl ?_
                refine g_iload rfl rfl ?_
                refine g_icmp_ne_t rfl (by omega) ?_
                refine g_iinc (l1 := [(9, aI ((i : Int) + 1)), (21, aI 0), (19, aJ (gWs S p x y w1 i)), (17, aJ (y - ((gy S p (gAft S p i)) * w1))), (15, aJ (x - ((gx S p (gAft S p i)) * w1))), (13, aJ (y - ((gy S p i) * w1))), (11, aJ (x - ((gx S p i) * w1))), (10, aI ((gAft S p i : Int))), (8, aI l), (0, aO (some (c + 11))), (1, aI ((p : Int))), (2, aJ x), (4, aJ y), (6, aJ w1)]) rfl rfl (by omega) (by omega) rfl ?_
                refine g_goto rfl ?_
                refine g_ls [0, 8, 9, 10, 11, 12, 13] rfl rfl ?_
                exact ih6 (i + 1) _ (by omega) (by exact gWo_no hn (by first | (intro z; exact cq132 z.1) | (intro z; exact z.2.1 cq142) | (intro z; exact z.2.2 cq152)) rfl) (by exact xor_step hl (fun z => ⟨fun q => by omega, fun q => by omega⟩) (fun z => by omega)) (by omega)
          · skip
            refine g_iconst rfl ?_
            refine g_goto rfl ?_
            refine g_istore (l1 := [(21, aI 1), (19, aJ (gWs S p x y w1 i)), (17, aJ (y - ((gy S p (gAft S p i)) * w1))), (15, aJ (x - ((gx S p (gAft S p i)) * w1))), (13, aJ (y - ((gy S p i) * w1))), (11, aJ (x - ((gx S p i) * w1))), (10, aI ((gAft S p i : Int))), (9, aI ((i : Int))), (8, aI l), (0, aO (some (c + 11))), (1, aI ((p : Int))), (2, aJ x), (4, aJ y), (6, aJ w1)]) rfl rfl ?_
            refine g_lload rfl rfl ?_
            refine g_lconst0 rfl ?_
            refine g_lc_ge rfl rfl (fun cq174 => ?_) (fun cq174 => ?_)
            · skip
              refine g_iconst rfl ?_
              refine g_iload rfl rfl ?_
              refine g_icmp_eq_f rfl (by omega) ?_
              refine g_lload rfl rfl ?_
              refine g_lconst0 rfl ?_
              refine g_lc_le rfl rfl (fun cq191 => ?_) (fun cq191 => ?_)
              · skip
                refine g_iconst rfl ?_
                refine g_iload rfl rfl ?_
                refine g_icmp_ne_t rfl (by omega) ?_
                refine g_iinc (l1 := [(9, aI ((i : Int) + 1)), (21, aI 1), (19, aJ (gWs S p x y w1 i)), (17, aJ (y - ((gy S p (gAft S p i)) * w1))), (15, aJ (x - ((gx S p (gAft S p i)) * w1))), (13, aJ (y - ((gy S p i) * w1))), (11, aJ (x - ((gx S p i) * w1))), (10, aI ((gAft S p i : Int))), (8, aI l), (0, aO (some (c + 11))), (1, aI ((p : Int))), (2, aJ x), (4, aJ y), (6, aJ w1)]) rfl rfl (by omega) (by omega) rfl ?_
                refine g_goto rfl ?_
                refine g_ls [0, 8, 9, 10, 11, 12, 13] rfl rfl ?_
                exact ih6 (i + 1) _ (by omega) (by exact gWo_no hn (by first | (intro z; exact cq132 z.1) | (intro z; exact z.2.1 cq142) | (intro z; exact z.2.2 cq152)) rfl) (by exact xor_step hl (fun z => ⟨fun q => by omega, fun q => by omega⟩) (fun z => by omega)) (by omega)
              · skip
                refine g_iconst rfl ?_
                refine g_goto rfl ?_
                refine g_iload rfl rfl ?_
                refine g_icmp_ne_f rfl (by omega) ?_
                refine g_iload rfl rfl ?_
                refine g_if_ne rfl (fun cq207 => ?_) (fun cq207 => ?_)
                · skip
                  refine g_iconst rfl ?_
                  refine g_istore (l1 := [(8, aI 0), (21, aI 1), (19, aJ (gWs S p x y w1 i)), (17, aJ (y - ((gy S p (gAft S p i)) * w1))), (15, aJ (x - ((gx S p (gAft S p i)) * w1))), (13, aJ (y - ((gy S p i) * w1))), (11, aJ (x - ((gx S p i) * w1))), (10, aI ((gAft S p i : Int))), (9, aI ((i : Int))), (0, aO (some (c + 11))), (1, aI ((p : Int))), (2, aJ x), (4, aJ y), (6, aJ w1)]) rfl rfl ?_
                  refine g_iinc (l1 := [(9, aI ((i : Int) + 1)), (8, aI 0), (21, aI 1), (19, aJ (gWs S p x y w1 i)), (17, aJ (y - ((gy S p (gAft S p i)) * w1))), (15, aJ (x - ((gx S p (gAft S p i)) * w1))), (13, aJ (y - ((gy S p i) * w1))), (11, aJ (x - ((gx S p i) * w1))), (10, aI ((gAft S p i : Int))), (0, aO (some (c + 11))), (1, aI ((p : Int))), (2, aJ x), (4, aJ y), (6, aJ w1)]) rfl rfl (by omega) (by omega) rfl ?_
                  refine g_goto rfl ?_
                  refine g_ls [0, 1, 9, 10, 11, 12, 13] rfl rfl ?_
                  exact ih6 (i + 1) _ (by omega) (by exact gWo_no hn (by first | (intro z; exact cq132 z.1) | (intro z; exact z.2.1 cq142) | (intro z; exact z.2.2 cq152)) rfl) (by exact xor_step hl (fun z => ⟨fun q => by omega, fun q => by omega⟩) (fun z => by omega)) (by omega)
                · skip
                  refine g_iconst rfl ?_
                  refine g_goto rfl ?_
                  refine g_istore (l1 := [(8, aI 1), (21, aI 1), (19, aJ (gWs S p x y w1 i)), (17, aJ (y - ((gy S p (gAft S p i)) * w1))), (15, aJ (x - ((gx S p (gAft S p i)) * w1))), (13, aJ (y - ((gy S p i) * w1))), (11, aJ (x - ((gx S p i) * w1))), (10, aI ((gAft S p i : Int))), (9, aI ((i : Int))), (0, aO (some (c + 11))), (1, aI ((p : Int))), (2, aJ x), (4, aJ y), (6, aJ w1)]) rfl rfl ?_
                  refine g_iinc (l1 := [(9, aI ((i : Int) + 1)), (8, aI 1), (21, aI 1), (19, aJ (gWs S p x y w1 i)), (17, aJ (y - ((gy S p (gAft S p i)) * w1))), (15, aJ (x - ((gx S p (gAft S p i)) * w1))), (13, aJ (y - ((gy S p i) * w1))), (11, aJ (x - ((gx S p i) * w1))), (10, aI ((gAft S p i : Int))), (0, aO (some (c + 11))), (1, aI ((p : Int))), (2, aJ x), (4, aJ y), (6, aJ w1)]) rfl rfl (by omega) (by omega) rfl ?_
                  refine g_goto rfl ?_
                  refine g_ls [0, 1, 9, 10, 11, 12, 13] rfl rfl ?_
                  exact ih6 (i + 1) _ (by omega) (by exact gWo_no hn (by first | (intro z; exact cq132 z.1) | (intro z; exact z.2.1 cq142) | (intro z; exact z.2.2 cq152)) rfl) (by exact xor_step hl (fun z => ⟨fun q => by omega, fun q => by omega⟩) (fun z => by omega)) (by omega)
            · skip
              refine g_iconst rfl ?_
              refine g_goto rfl ?_
              refine g_iload rfl rfl ?_
              refine g_icmp_eq_t rfl (by omega) ?_
              refine g_iinc (l1 := [(9, aI ((i : Int) + 1)), (21, aI 1), (19, aJ (gWs S p x y w1 i)), (17, aJ (y - ((gy S p (gAft S p i)) * w1))), (15, aJ (x - ((gx S p (gAft S p i)) * w1))), (13, aJ (y - ((gy S p i) * w1))), (11, aJ (x - ((gx S p i) * w1))), (10, aI ((gAft S p i : Int))), (8, aI l), (0, aO (some (c + 11))), (1, aI ((p : Int))), (2, aJ x), (4, aJ y), (6, aJ w1)]) rfl rfl (by omega) (by omega) rfl ?_
              refine g_goto rfl ?_
              refine g_ls [0, 8, 9, 10, 11, 12, 13] rfl rfl ?_
              exact ih6 (i + 1) _ (by omega) (by exact gWo_no hn (by first | (intro z; exact cq132 z.1) | (intro z; exact z.2.1 cq142) | (intro z; exact z.2.2 cq152)) rfl) (by exact xor_step hl (fun z => ⟨fun q => by omega, fun q => by omega⟩) (fun z => by omega)) (by omega)
        · skip
          refine g_lload rfl rfl ?_
          refine g_lload rfl rfl ?_
          refine g_callSI [aJ (x - ((gx S p i) * w1)), aJ (x - ((gx S p (gAft S p i)) * w1))] [] rfl rfl rfl rfl (Nat.le_of_ble_eq_true rfl) (x_pgOne (by omega) (x - ((gx S p i) * w1)) (x - ((gx S p (gAft S p i)) * w1)) _) ?_
          rintro r11 hx11 ⟨ehx11, rfl⟩
          rw [ehx11]
          clear ehx11 hx11
          refine g_b_ne rfl (fun cq142 => ?_) (fun cq142 => ?_)
          · skip
            refine g_lload rfl rfl ?_
            refine g_lconst0 rfl ?_
            refine g_lc_ge rfl rfl (fun cq160 => ?_) (fun cq160 => ?_)
            · skip
              refine g_iconst rfl ?_
              refine g_istore (l1 := [(21, aI 0), (19, aJ (gWs S p x y w1 i)), (17, aJ (y - ((gy S p (gAft S p i)) * w1))), (15, aJ (x - ((gx S p (gAft S p i)) * w1))), (13, aJ (y - ((gy S p i) * w1))), (11, aJ (x - ((gx S p i) * w1))), (10, aI ((gAft S p i : Int))), (9, aI ((i : Int))), (8, aI l), (0, aO (some (c + 11))), (1, aI ((p : Int))), (2, aJ x), (4, aJ y), (6, aJ w1)]) rfl rfl ?_
              refine g_lload rfl rfl ?_
              refine g_lconst0 rfl ?_
              refine g_lc_ge rfl rfl (fun cq174 => ?_) (fun cq174 => ?_)
              · skip
                refine g_iconst rfl ?_
                refine g_iload rfl rfl ?_
                refine g_icmp_eq_t rfl (by omega) ?_
                refine g_iinc (l1 := [(9, aI ((i : Int) + 1)), (21, aI 0), (19, aJ (gWs S p x y w1 i)), (17, aJ (y - ((gy S p (gAft S p i)) * w1))), (15, aJ (x - ((gx S p (gAft S p i)) * w1))), (13, aJ (y - ((gy S p i) * w1))), (11, aJ (x - ((gx S p i) * w1))), (10, aI ((gAft S p i : Int))), (8, aI l), (0, aO (some (c + 11))), (1, aI ((p : Int))), (2, aJ x), (4, aJ y), (6, aJ w1)]) rfl rfl (by omega) (by omega) rfl ?_
                refine g_goto rfl ?_
                refine g_ls [0, 8, 9, 10, 11, 12, 13] rfl rfl ?_
                exact ih6 (i + 1) _ (by omega) (by exact gWo_no hn (by first | (intro z; exact cq132 z.1) | (intro z; exact z.2.1 cq142) | (intro z; exact z.2.2 cq152)) rfl) (by exact xor_step hl (fun z => ⟨fun q => by omega, fun q => by omega⟩) (fun z => by omega)) (by omega)
              · skip
                refine g_iconst rfl ?_
                refine g_goto rfl ?_
                refine g_iload rfl rfl ?_
                refine g_icmp_eq_f rfl (by omega) ?_
                refine g_lload rfl rfl ?_
                refine g_lconst0 rfl ?_
                refine g_lc_le rfl rfl (fun cq191 => ?_) (fun cq191 => ?_)
                · skip
                  refine g_iconst rfl ?_
                  refine g_iload rfl rfl ?_
                  refine g_icmp_ne_f rfl (by omega) ?_
                  refine g_iload rfl rfl ?_
                  refine g_if_ne rfl (fun cq207 => ?_) (fun cq207 => ?_)
                  · skip
                    refine g_iconst rfl ?_
                    refine g_istore (l1 := [(8, aI 0), (21, aI 0), (19, aJ (gWs S p x y w1 i)), (17, aJ (y - ((gy S p (gAft S p i)) * w1))), (15, aJ (x - ((gx S p (gAft S p i)) * w1))), (13, aJ (y - ((gy S p i) * w1))), (11, aJ (x - ((gx S p i) * w1))), (10, aI ((gAft S p i : Int))), (9, aI ((i : Int))), (0, aO (some (c + 11))), (1, aI ((p : Int))), (2, aJ x), (4, aJ y), (6, aJ w1)]) rfl rfl ?_
                    refine g_iinc (l1 := [(9, aI ((i : Int) + 1)), (8, aI 0), (21, aI 0), (19, aJ (gWs S p x y w1 i)), (17, aJ (y - ((gy S p (gAft S p i)) * w1))), (15, aJ (x - ((gx S p (gAft S p i)) * w1))), (13, aJ (y - ((gy S p i) * w1))), (11, aJ (x - ((gx S p i) * w1))), (10, aI ((gAft S p i : Int))), (0, aO (some (c + 11))), (1, aI ((p : Int))), (2, aJ x), (4, aJ y), (6, aJ w1)]) rfl rfl (by omega) (by omega) rfl ?_
                    refine g_goto rfl ?_
                    refine g_ls [0, 1, 9, 10, 11, 12, 13] rfl rfl ?_
                    exact ih6 (i + 1) _ (by omega) (by exact gWo_no hn (by first | (intro z; exact cq132 z.1) | (intro z; exact z.2.1 cq142) | (intro z; exact z.2.2 cq152)) rfl) (by exact xor_step hl (fun z => ⟨fun q => by omega, fun q => by omega⟩) (fun z => by omega)) (by omega)
                  · skip
                    refine g_iconst rfl ?_
                    refine g_goto rfl ?_
                    refine g_istore (l1 := [(8, aI 1), (21, aI 0), (19, aJ (gWs S p x y w1 i)), (17, aJ (y - ((gy S p (gAft S p i)) * w1))), (15, aJ (x - ((gx S p (gAft S p i)) * w1))), (13, aJ (y - ((gy S p i) * w1))), (11, aJ (x - ((gx S p i) * w1))), (10, aI ((gAft S p i : Int))), (9, aI ((i : Int))), (0, aO (some (c + 11))), (1, aI ((p : Int))), (2, aJ x), (4, aJ y), (6, aJ w1)]) rfl rfl ?_
                    refine g_iinc (l1 := [(9, aI ((i : Int) + 1)), (8, aI 1), (21, aI 0), (19, aJ (gWs S p x y w1 i)), (17, aJ (y - ((gy S p (gAft S p i)) * w1))), (15, aJ (x - ((gx S p (gAft S p i)) * w1))), (13, aJ (y - ((gy S p i) * w1))), (11, aJ (x - ((gx S p i) * w1))), (10, aI ((gAft S p i : Int))), (0, aO (some (c + 11))), (1, aI ((p : Int))), (2, aJ x), (4, aJ y), (6, aJ w1)]) rfl rfl (by omega) (by omega) rfl ?_
                    refine g_goto rfl ?_
                    refine g_ls [0, 1, 9, 10, 11, 12, 13] rfl rfl ?_
                    exact ih6 (i + 1) _ (by omega) (by exact gWo_no hn (by first | (intro z; exact cq132 z.1) | (intro z; exact z.2.1 cq142) | (intro z; exact z.2.2 cq152)) rfl) (by exact xor_step hl (fun z => ⟨fun q => by omega, fun q => by omega⟩) (fun z => by omega)) (by omega)
                · skip
                  refine g_iconst rfl ?_
                  refine g_goto rfl ?_
                  refine g_iload rfl rfl ?_
                  refine g_icmp_ne_t rfl (by omega) ?_
                  refine g_iinc (l1 := [(9, aI ((i : Int) + 1)), (21, aI 0), (19, aJ (gWs S p x y w1 i)), (17, aJ (y - ((gy S p (gAft S p i)) * w1))), (15, aJ (x - ((gx S p (gAft S p i)) * w1))), (13, aJ (y - ((gy S p i) * w1))), (11, aJ (x - ((gx S p i) * w1))), (10, aI ((gAft S p i : Int))), (8, aI l), (0, aO (some (c + 11))), (1, aI ((p : Int))), (2, aJ x), (4, aJ y), (6, aJ w1)]) rfl rfl (by omega) (by omega) rfl ?_
                  refine g_goto rfl ?_
                  refine g_ls [0, 8, 9, 10, 11, 12, 13] rfl rfl ?_
                  exact ih6 (i + 1) _ (by omega) (by exact gWo_no hn (by first | (intro z; exact cq132 z.1) | (intro z; exact z.2.1 cq142) | (intro z; exact z.2.2 cq152)) rfl) (by exact xor_step hl (fun z => ⟨fun q => by omega, fun q => by omega⟩) (fun z => by omega)) (by omega)
            · skip
              refine g_iconst rfl ?_
              refine g_goto rfl ?_
              refine g_istore (l1 := [(21, aI 1), (19, aJ (gWs S p x y w1 i)), (17, aJ (y - ((gy S p (gAft S p i)) * w1))), (15, aJ (x - ((gx S p (gAft S p i)) * w1))), (13, aJ (y - ((gy S p i) * w1))), (11, aJ (x - ((gx S p i) * w1))), (10, aI ((gAft S p i : Int))), (9, aI ((i : Int))), (8, aI l), (0, aO (some (c + 11))), (1, aI ((p : Int))), (2, aJ x), (4, aJ y), (6, aJ w1)]) rfl rfl ?_
              refine g_lload rfl rfl ?_
              refine g_lconst0 rfl ?_
              refine g_lc_ge rfl rfl (fun cq174 => ?_) (fun cq174 => ?_)
              · skip
                refine g_iconst rfl ?_
                refine g_iload rfl rfl ?_
                refine g_icmp_eq_f rfl (by omega) ?_
                refine g_lload rfl rfl ?_
                refine g_lconst0 rfl ?_
                refine g_lc_le rfl rfl (fun cq191 => ?_) (fun cq191 => ?_)
                · skip
                  refine g_iconst rfl ?_
                  refine g_iload rfl rfl ?_
                  refine g_icmp_ne_t rfl (by omega) ?_
                  refine g_iinc (l1 := [(9, aI ((i : Int) + 1)), (21, aI 1), (19, aJ (gWs S p x y w1 i)), (17, aJ (y - ((gy S p (gAft S p i)) * w1))), (15, aJ (x - ((gx S p (gAft S p i)) * w1))), (13, aJ (y - ((gy S p i) * w1))), (11, aJ (x - ((gx S p i) * w1))), (10, aI ((gAft S p i : Int))), (8, aI l), (0, aO (some (c + 11))), (1, aI ((p : Int))), (2, aJ x), (4, aJ y), (6, aJ w1)]) rfl rfl (by omega) (by omega) rfl ?_
                  refine g_goto rfl ?_
                  refine g_ls [0, 8, 9, 10, 11, 12, 13] rfl rfl ?_
                  exact ih6 (i + 1) _ (by omega) (by exact gWo_no hn (by first | (intro z; exact cq132 z.1) | (intro z; exact z.2.1 cq142) | (intro z; exact z.2.2 cq152)) rfl) (by exact xor_step hl (fun z => ⟨fun q => by omega, fun q => by omega⟩) (fun z => by omega)) (by omega)
                · skip
                  refine g_iconst rfl ?_
                  refine g_goto rfl ?_
                  refine g_iload rfl rfl ?_
                  refine g_icmp_ne_f rfl (by omega) ?_
                  refine g_iload rfl rfl ?_
                  refine g_if_ne rfl (fun cq207 => ?_) (fun cq207 => ?_)
                  · skip
                    refine g_iconst rfl ?_
                    refine g_istore (l1 := [(8, aI 0), (21, aI 1), (19, aJ (gWs S p x y w1 i)), (17, aJ (y - ((gy S p (gAft S p i)) * w1))), (15, aJ (x - ((gx S p (gAft S p i)) * w1))), (13, aJ (y - ((gy S p i) * w1))), (11, aJ (x - ((gx S p i) * w1))), (10, aI ((gAft S p i : Int))), (9, aI ((i : Int))), (0, aO (some (c + 11))), (1, aI ((p : Int))), (2, aJ x), (4, aJ y), (6, aJ w1)]) rfl rfl ?_
                    refine g_iinc (l1 := [(9, aI ((i : Int) + 1)), (8, aI 0), (21, aI 1), (19, aJ (gWs S p x y w1 i)), (17, aJ (y - ((gy S p (gAft S p i)) * w1))), (15, aJ (x - ((gx S p (gAft S p i)) * w1))), (13, aJ (y - ((gy S p i) * w1))), (11, aJ (x - ((gx S p i) * w1))), (10, aI ((gAft S p i : Int))), (0, aO (some (c + 11))), (1, aI ((p : Int))), (2, aJ x), (4, aJ y), (6, aJ w1)]) rfl rfl (by omega) (by omega) rfl ?_
                    refine g_goto rfl ?_
                    refine g_ls [0, 1, 9, 10, 11, 12, 13] rfl rfl ?_
                    exact ih6 (i + 1) _ (by omega) (by exact gWo_no hn (by first | (intro z; exact cq132 z.1) | (intro z; exact z.2.1 cq142) | (intro z; exact z.2.2 cq152)) rfl) (by exact xor_step hl (fun z => ⟨fun q => by omega, fun q => by omega⟩) (fun z => by omega)) (by omega)
                  · skip
                    refine g_iconst rfl ?_
                    refine g_goto rfl ?_
                    refine g_istore (l1 := [(8, aI 1), (21, aI 1), (19, aJ (gWs S p x y w1 i)), (17, aJ (y - ((gy S p (gAft S p i)) * w1))), (15, aJ (x - ((gx S p (gAft S p i)) * w1))), (13, aJ (y - ((gy S p i) * w1))), (11, aJ (x - ((gx S p i) * w1))), (10, aI ((gAft S p i : Int))), (9, aI ((i : Int))), (0, aO (some (c + 11))), (1, aI ((p : Int))), (2, aJ x), (4, aJ y), (6, aJ w1)]) rfl rfl ?_
                    refine g_iinc (l1 := [(9, aI ((i : Int) + 1)), (8, aI 1), (21, aI 1), (19, aJ (gWs S p x y w1 i)), (17, aJ (y - ((gy S p (gAft S p i)) * w1))), (15, aJ (x - ((gx S p (gAft S p i)) * w1))), (13, aJ (y - ((gy S p i) * w1))), (11, aJ (x - ((gx S p i) * w1))), (10, aI ((gAft S p i : Int))), (0, aO (some (c + 11))), (1, aI ((p : Int))), (2, aJ x), (4, aJ y), (6, aJ w1)]) rfl rfl (by omega) (by omega) rfl ?_
                    refine g_goto rfl ?_
                    refine g_ls [0, 1, 9, 10, 11, 12, 13] rfl rfl ?_
                    exact ih6 (i + 1) _ (by omega) (by exact gWo_no hn (by first | (intro z; exact cq132 z.1) | (intro z; exact z.2.1 cq142) | (intro z; exact z.2.2 cq152)) rfl) (by exact xor_step hl (fun z => ⟨fun q => by omega, fun q => by omega⟩) (fun z => by omega)) (by omega)
              · skip
                refine g_iconst rfl ?_
                refine g_goto rfl ?_
                refine g_iload rfl rfl ?_
                refine g_icmp_eq_t rfl (by omega) ?_
                refine g_iinc (l1 := [(9, aI ((i : Int) + 1)), (21, aI 1), (19, aJ (gWs S p x y w1 i)), (17, aJ (y - ((gy S p (gAft S p i)) * w1))), (15, aJ (x - ((gx S p (gAft S p i)) * w1))), (13, aJ (y - ((gy S p i) * w1))), (11, aJ (x - ((gx S p i) * w1))), (10, aI ((gAft S p i : Int))), (8, aI l), (0, aO (some (c + 11))), (1, aI ((p : Int))), (2, aJ x), (4, aJ y), (6, aJ w1)]) rfl rfl (by omega) (by omega) rfl ?_
                refine g_goto rfl ?_
                refine g_ls [0, 8, 9, 10, 11, 12, 13] rfl rfl ?_
                exact ih6 (i + 1) _ (by omega) (by exact gWo_no hn (by first | (intro z; exact cq132 z.1) | (intro z; exact z.2.1 cq142) | (intro z; exact z.2.2 cq152)) rfl) (by exact xor_step hl (fun z => ⟨fun q => by omega, fun q => by omega⟩) (fun z => by omega)) (by omega)
          · skip
            refine g_lload rfl rfl ?_
            refine g_lload rfl rfl ?_
            refine g_callSI [aJ (y - ((gy S p i) * w1)), aJ (y - ((gy S p (gAft S p i)) * w1))] [] rfl rfl rfl rfl (Nat.le_of_ble_eq_true rfl) (x_pgOne (by omega) (y - ((gy S p i) * w1)) (y - ((gy S p (gAft S p i)) * w1)) _) ?_
            rintro r12 hx12 ⟨ehx12, rfl⟩
            rw [ehx12]
            clear ehx12 hx12
            refine g_b_ne rfl (fun cq152 => ?_) (fun cq152 => ?_)
            · skip
              refine g_lload rfl rfl ?_
              refine g_lconst0 rfl ?_
              refine g_lc_ge rfl rfl (fun cq160 => ?_) (fun cq160 => ?_)
              · skip
                refine g_iconst rfl ?_
                refine g_istore (l1 := [(21, aI 0), (19, aJ (gWs S p x y w1 i)), (17, aJ (y - ((gy S p (gAft S p i)) * w1))), (15, aJ (x - ((gx S p (gAft S p i)) * w1))), (13, aJ (y - ((gy S p i) * w1))), (11, aJ (x - ((gx S p i) * w1))), (10, aI ((gAft S p i : Int))), (9, aI ((i : Int))), (8, aI l), (0, aO (some (c + 11))), (1, aI ((p : Int))), (2, aJ x), (4, aJ y), (6, aJ w1)]) rfl rfl ?_
                refine g_lload rfl rfl ?_
                refine g_lconst0 rfl ?_
                refine g_lc_ge rfl rfl (fun cq174 => ?_) (fun cq174 => ?_)
                · skip
                  refine g_iconst rfl ?_
                  refine g_iload rfl rfl ?_
                  refine g_icmp_eq_t rfl (by omega) ?_
                  refine g_iinc (l1 := [(9, aI ((i : Int) + 1)), (21, aI 0), (19, aJ (gWs S p x y w1 i)), (17, aJ (y - ((gy S p (gAft S p i)) * w1))), (15, aJ (x - ((gx S p (gAft S p i)) * w1))), (13, aJ (y - ((gy S p i) * w1))), (11, aJ (x - ((gx S p i) * w1))), (10, aI ((gAft S p i : Int))), (8, aI l), (0, aO (some (c + 11))), (1, aI ((p : Int))), (2, aJ x), (4, aJ y), (6, aJ w1)]) rfl rfl (by omega) (by omega) rfl ?_
                  refine g_goto rfl ?_
                  refine g_ls [0, 8, 9, 10, 11, 12, 13] rfl rfl ?_
                  exact ih6 (i + 1) _ (by omega) (by exact gWo_no hn (by first | (intro z; exact cq132 z.1) | (intro z; exact z.2.1 cq142) | (intro z; exact z.2.2 cq152)) rfl) (by exact xor_step hl (fun z => ⟨fun q => by omega, fun q => by omega⟩) (fun z => by omega)) (by omega)
                · skip
                  refine g_iconst rfl ?_
                  refine g_goto rfl ?_
                  refine g_iload rfl rfl ?_
                  refine g_icmp_eq_f rfl (by omega) ?_
                  refine g_lload rfl rfl ?_
                  refine g_lconst0 rfl ?_
                  refine g_lc_le rfl rfl (fun cq191 => ?_) (fun cq191 => ?_)
                  · skip
                    refine g_iconst rfl ?_
                    refine g_iload rfl rfl ?_
                    refine g_icmp_ne_f rfl (by omega) ?_
                    refine g_iload rfl rfl ?_
                    refine g_if_ne rfl (fun cq207 => ?_) (fun cq207 => ?_)
                    · skip
                      refine g_iconst rfl ?_
                      refine g_istore (l1 := [(8, aI 0), (21, aI 0), (19, aJ (gWs S p x y w1 i)), (17, aJ (y - ((gy S p (gAft S p i)) * w1))), (15, aJ (x - ((gx S p (gAft S p i)) * w1))), (13, aJ (y - ((gy S p i) * w1))), (11, aJ (x - ((gx S p i) * w1))), (10, aI ((gAft S p i : Int))), (9, aI ((i : Int))), (0, aO (some (c + 11))), (1, aI ((p : Int))), (2, aJ x), (4, aJ y), (6, aJ w1)]) rfl rfl ?_
                      refine g_iinc (l1 := [(9, aI ((i : Int) + 1)), (8, aI 0), (21, aI 0), (19, aJ (gWs S p x y w1 i)), (17, aJ (y - ((gy S p (gAft S p i)) * w1))), (15, aJ (x - ((gx S p (gAft S p i)) * w1))), (13, aJ (y - ((gy S p i) * w1))), (11, aJ (x - ((gx S p i) * w1))), (10, aI ((gAft S p i : Int))), (0, aO (some (c + 11))), (1, aI ((p : Int))), (2, aJ x), (4, aJ y), (6, aJ w1)]) rfl rfl (by omega) (by omega) rfl ?_
                      refine g_goto rfl ?_
                      refine g_ls [0, 1, 9, 10, 11, 12, 13] rfl rfl ?_
                      exact ih6 (i + 1) _ (by omega) (by exact gWo_no hn (by first | (intro z; exact cq132 z.1) | (intro z; exact z.2.1 cq142) | (intro z; exact z.2.2 cq152)) rfl) (by exact xor_step hl (fun z => ⟨fun q => by omega, fun q => by omega⟩) (fun z => by omega)) (by omega)
                    · skip
                      refine g_iconst rfl ?_
                      refine g_goto rfl ?_
                      refine g_istore (l1 := [(8, aI 1), (21, aI 0), (19, aJ (gWs S p x y w1 i)), (17, aJ (y - ((gy S p (gAft S p i)) * w1))), (15, aJ (x - ((gx S p (gAft S p i)) * w1))), (13, aJ (y - ((gy S p i) * w1))), (11, aJ (x - ((gx S p i) * w1))), (10, aI ((gAft S p i : Int))), (9, aI ((i : Int))), (0, aO (some (c + 11))), (1, aI ((p : Int))), (2, aJ x), (4, aJ y), (6, aJ w1)]) rfl rfl ?_
                      refine g_iinc (l1 := [(9, aI ((i : Int) + 1)), (8, aI 1), (21, aI 0), (19, aJ (gWs S p x y w1 i)), (17, aJ (y - ((gy S p (gAft S p i)) * w1))), (15, aJ (x - ((gx S p (gAft S p i)) * w1))), (13, aJ (y - ((gy S p i) * w1))), (11, aJ (x - ((gx S p i) * w1))), (10, aI ((gAft S p i : Int))), (0, aO (some (c + 11))), (1, aI ((p : Int))), (2, aJ x), (4, aJ y), (6, aJ w1)]) rfl rfl (by omega) (by omega) rfl ?_
                      refine g_goto rfl ?_
                      refine g_ls [0, 1, 9, 10, 11, 12, 13] rfl rfl ?_
                      exact ih6 (i + 1) _ (by omega) (by exact gWo_no hn (by first | (intro z; exact cq132 z.1) | (intro z; exact z.2.1 cq142) | (intro z; exact z.2.2 cq152)) rfl) (by exact xor_step hl (fun z => ⟨fun q => by omega, fun q => by omega⟩) (fun z => by omega)) (by omega)
                  · skip
                    refine g_iconst rfl ?_
                    refine g_goto rfl ?_
                    refine g_iload rfl rfl ?_
                    refine g_icmp_ne_t rfl (by omega) ?_
                    refine g_iinc (l1 := [(9, aI ((i : Int) + 1)), (21, aI 0), (19, aJ (gWs S p x y w1 i)), (17, aJ (y - ((gy S p (gAft S p i)) * w1))), (15, aJ (x - ((gx S p (gAft S p i)) * w1))), (13, aJ (y - ((gy S p i) * w1))), (11, aJ (x - ((gx S p i) * w1))), (10, aI ((gAft S p i : Int))), (8, aI l), (0, aO (some (c + 11))), (1, aI ((p : Int))), (2, aJ x), (4, aJ y), (6, aJ w1)]) rfl rfl (by omega) (by omega) rfl ?_
                    refine g_goto rfl ?_
                    refine g_ls [0, 8, 9, 10, 11, 12, 13] rfl rfl ?_
                    exact ih6 (i + 1) _ (by omega) (by exact gWo_no hn (by first | (intro z; exact cq132 z.1) | (intro z; exact z.2.1 cq142) | (intro z; exact z.2.2 cq152)) rfl) (by exact xor_step hl (fun z => ⟨fun q => by omega, fun q => by omega⟩) (fun z => by omega)) (by omega)
              · skip
                refine g_iconst rfl ?_
                refine g_goto rfl ?_
                refine g_istore (l1 := [(21, aI 1), (19, aJ (gWs S p x y w1 i)), (17, aJ (y - ((gy S p (gAft S p i)) * w1))), (15, aJ (x - ((gx S p (gAft S p i)) * w1))), (13, aJ (y - ((gy S p i) * w1))), (11, aJ (x - ((gx S p i) * w1))), (10, aI ((gAft S p i : Int))), (9, aI ((i : Int))), (8, aI l), (0, aO (some (c + 11))), (1, aI ((p : Int))), (2, aJ x), (4, aJ y), (6, aJ w1)]) rfl rfl ?_
                refine g_lload rfl rfl ?_
                refine g_lconst0 rfl ?_
                refine g_lc_ge rfl rfl (fun cq174 => ?_) (fun cq174 => ?_)
                · skip
                  refine g_iconst rfl ?_
                  refine g_iload rfl rfl ?_
                  refine g_icmp_eq_f rfl (by omega) ?_
                  refine g_lload rfl rfl ?_
                  refine g_lconst0 rfl ?_
                  refine g_lc_le rfl rfl (fun cq191 => ?_) (fun cq191 => ?_)
                  · skip
                    refine g_iconst rfl ?_
                    refine g_iload rfl rfl ?_
                    refine g_icmp_ne_t rfl (by omega) ?_
                    refine g_iinc (l1 := [(9, aI ((i : Int) + 1)), (21, aI 1), (19, aJ (gWs S p x y w1 i)), (17, aJ (y - ((gy S p (gAft S p i)) * w1))), (15, aJ (x - ((gx S p (gAft S p i)) * w1))), (13, aJ (y - ((gy S p i) * w1))), (11, aJ (x - ((gx S p i) * w1))), (10, aI ((gAft S p i : Int))), (8, aI l), (0, aO (some (c + 11))), (1, aI ((p : Int))), (2, aJ x), (4, aJ y), (6, aJ w1)]) rfl rfl (by omega) (by omega) rfl ?_
                    refine g_goto rfl ?_
                    refine g_ls [0, 8, 9, 10, 11, 12, 13] rfl rfl ?_
                    exact ih6 (i + 1) _ (by omega) (by exact gWo_no hn (by first | (intro z; exact cq132 z.1) | (intro z; exact z.2.1 cq142) | (intro z; exact z.2.2 cq152)) rfl) (by exact xor_step hl (fun z => ⟨fun q => by omega, fun q => by omega⟩) (fun z => by omega)) (by omega)
                  · skip
                    refine g_iconst rfl ?_
                    refine g_goto rfl ?_
                    refine g_iload rfl rfl ?_
                    refine g_icmp_ne_f rfl (by omega) ?_
                    refine g_iload rfl rfl ?_
                    refine g_if_ne rfl (fun cq207 => ?_) (fun cq207 => ?_)
                    · skip
                      refine g_iconst rfl ?_
                      refine g_istore (l1 := [(8, aI 0), (21, aI 1), (19, aJ (gWs S p x y w1 i)), (17, aJ (y - ((gy S p (gAft S p i)) * w1))), (15, aJ (x - ((gx S p (gAft S p i)) * w1))), (13, aJ (y - ((gy S p i) * w1))), (11, aJ (x - ((gx S p i) * w1))), (10, aI ((gAft S p i : Int))), (9, aI ((i : Int))), (0, aO (some (c + 11))), (1, aI ((p : Int))), (2, aJ x), (4, aJ y), (6, aJ w1)]) rfl rfl ?_
                      refine g_iinc (l1 := [(9, aI ((i : Int) + 1)), (8, aI 0), (21, aI 1), (19, aJ (gWs S p x y w1 i)), (17, aJ (y - ((gy S p (gAft S p i)) * w1))), (15, aJ (x - ((gx S p (gAft S p i)) * w1))), (13, aJ (y - ((gy S p i) * w1))), (11, aJ (x - ((gx S p i) * w1))), (10, aI ((gAft S p i : Int))), (0, aO (some (c + 11))), (1, aI ((p : Int))), (2, aJ x), (4, aJ y), (6, aJ w1)]) rfl rfl (by omega) (by omega) rfl ?_
                      refine g_goto rfl ?_
                      refine g_ls [0, 1, 9, 10, 11, 12, 13] rfl rfl ?_
                      exact ih6 (i + 1) _ (by omega) (by exact gWo_no hn (by first | (intro z; exact cq132 z.1) | (intro z; exact z.2.1 cq142) | (intro z; exact z.2.2 cq152)) rfl) (by exact xor_step hl (fun z => ⟨fun q => by omega, fun q => by omega⟩) (fun z => by omega)) (by omega)
                    · skip
                      refine g_iconst rfl ?_
                      refine g_goto rfl ?_
                      refine g_istore (l1 := [(8, aI 1), (21, aI 1), (19, aJ (gWs S p x y w1 i)), (17, aJ (y - ((gy S p (gAft S p i)) * w1))), (15, aJ (x - ((gx S p (gAft S p i)) * w1))), (13, aJ (y - ((gy S p i) * w1))), (11, aJ (x - ((gx S p i) * w1))), (10, aI ((gAft S p i : Int))), (9, aI ((i : Int))), (0, aO (some (c + 11))), (1, aI ((p : Int))), (2, aJ x), (4, aJ y), (6, aJ w1)]) rfl rfl ?_
                      refine g_iinc (l1 := [(9, aI ((i : Int) + 1)), (8, aI 1), (21, aI 1), (19, aJ (gWs S p x y w1 i)), (17, aJ (y - ((gy S p (gAft S p i)) * w1))), (15, aJ (x - ((gx S p (gAft S p i)) * w1))), (13, aJ (y - ((gy S p i) * w1))), (11, aJ (x - ((gx S p i) * w1))), (10, aI ((gAft S p i : Int))), (0, aO (some (c + 11))), (1, aI ((p : Int))), (2, aJ x), (4, aJ y), (6, aJ w1)]) rfl rfl (by omega) (by omega) rfl ?_
                      refine g_goto rfl ?_
                      refine g_ls [0, 1, 9, 10, 11, 12, 13] rfl rfl ?_
                      exact ih6 (i + 1) _ (by omega) (by exact gWo_no hn (by first | (intro z; exact cq132 z.1) | (intro z; exact z.2.1 cq142) | (intro z; exact z.2.2 cq152)) rfl) (by exact xor_step hl (fun z => ⟨fun q => by omega, fun q => by omega⟩) (fun z => by omega)) (by omega)
                · skip
                  refine g_iconst rfl ?_
                  refine g_goto rfl ?_
                  refine g_iload rfl rfl ?_
                  refine g_icmp_eq_t rfl (by omega) ?_
                  refine g_iinc (l1 := [(9, aI ((i : Int) + 1)), (21, aI 1), (19, aJ (gWs S p x y w1 i)), (17, aJ (y - ((gy S p (gAft S p i)) * w1))), (15, aJ (x - ((gx S p (gAft S p i)) * w1))), (13, aJ (y - ((gy S p i) * w1))), (11, aJ (x - ((gx S p i) * w1))), (10, aI ((gAft S p i : Int))), (8, aI l), (0, aO (some (c + 11))), (1, aI ((p : Int))), (2, aJ x), (4, aJ y), (6, aJ w1)]) rfl rfl (by omega) (by omega) rfl ?_
                  refine g_goto rfl ?_
                  refine g_ls [0, 8, 9, 10, 11, 12, 13] rfl rfl ?_
                  exact ih6 (i + 1) _ (by omega) (by exact gWo_no hn (by first | (intro z; exact cq132 z.1) | (intro z; exact z.2.1 cq142) | (intro z; exact z.2.2 cq152)) rfl) (by exact xor_step hl (fun z => ⟨fun q => by omega, fun q => by omega⟩) (fun z => by omega)) (by omega)
            · skip
              refine g_iconst rfl ?_
              refine g_iret rfl ?_
              refine ⟨rfl, ?_⟩
              unfold gWh
              exact (if_pos ((gWo_iff _).mpr ⟨i, by omega, by omega, cq142, cq152⟩)).symm
  refine g_iconst rfl ?_
  refine g_istore (l1 := [(8, aI 0), (0, aO (some (c + 11))), (1, aI ((p : Int))), (2, aJ x), (4, aJ y), (6, aJ w1)]) rfl rfl ?_
  refine g_iconst rfl ?_
  refine g_istore (l1 := [(9, aI 0), (8, aI 0), (0, aO (some (c + 11))), (1, aI ((p : Int))), (2, aJ x), (4, aJ y), (6, aJ w1)]) rfl rfl ?_
  exact l6 _ 0 _ (by omega) (by rfl) (by rfl) (Nat.lt_succ_self _)
set_option maxHeartbeats 4000000 in
set_option maxRecDepth 100000 in
theorem x_pgSim {w : aW} {d : Nat} (hd : 7 ≤ d) {h : aH} {c : Nat} (cs : CS h c) (V : Nat → Nat → Int) {S : aS} (xg : XG V c S) (ok : OkG S) (p : Nat) (hp : p < sG S) : WP w d 103 [aO (some (c + 11)), aI ((p : Int))] (hw h V) (RI (fun r h1 => h1 = hw h V ∧ r = if bt (gSim S p) = true then 1 else 0)) := by
  obtain ⟨d, rfl⟩ : ∃ d1, d = d1 + 1 := ⟨d - 1, by omega⟩
  refine WP.enter (cd := cd_X3_isSimple) rfl ?_
  have hok2 := (ok.2 p hp).1
  have hls : largs 0 [aO (some (c + 11)), aI ((p : Int))] = [(0, aO (some (c + 11))), (1, aI ((p : Int)))] := rfl
  rw [hls]
  clear hls
  have l15 : (3 ≤ sGn S p) → ∀ (fuel : Nat) (i : Nat), (i ≤ sGn S p) → (∀ a b, a < i → a < b → b < sGn S p → ¬ gSame S p a b ∧ ¬ gOdd S p a b) → sGn S p - i < fuel → Wk w d cd_X3_isSimple 15 [(3, aI ((i : Int))), (2, aI (((sGn S p : Nat) : Int))), (0, aO (some (c + 11))), (1, aI ((p : Int)))] [] (hw h V) (RI (fun r h1 => h1 = hw h V ∧ r = if bt (gSim S p) = true then 1 else 0)) := by
    intro h3 fuel
    induction fuel with
    | zero => intros; omega
    | succ fuel ih15 =>
      intro i hi hq hfuel
      have hok2 := (ok.2 p hp).1
      have l25 : ∀ (fuel : Nat) (j : Nat), (i + 1 ≤ j) → (j ≤ sGn S p) → (∀ b, i < b → b < j → ¬ gSame S p i b ∧ ¬ gOdd S p i b) → sGn S p - j < fuel → Wk w d cd_X3_isSimple 25 [(4, aI ((j : Int))), (2, aI (((sGn S p : Nat) : Int))), (3, aI ((i : Int))), (0, aO (some (c + 11))), (1, aI ((p : Int)))] [] (hw h V) (RI (fun r h1 => h1 = hw h V ∧ r = if bt (gSim S p) = true then 1 else 0)) := by
        intro fuel
        induction fuel with
        | zero => intros; omega
        | succ fuel ih25 =>
          intro j hj hj2 hg hfuel
          refine g_iload rfl rfl ?_
          refine g_iload_n rfl rfl ?_
          refine g_icmp_ge rfl (fun cq28 => ?_) (fun cq28 => ?_)
          · skip
            refine g_iinc (l1 := [(3, aI ((i : Int) + 1)), (4, aI ((j : Int))), (2, aI (((sGn S p : Nat) : Int))), (0, aO (some (c + 11))), (1, aI ((p : Int)))]) rfl rfl (by (try clear cq50); (try clear cq39); omega) (by (try clear cq50); (try clear cq39); omega) rfl ?_
            refine g_goto rfl ?_
            refine g_ls [0, 2, 3, 4] rfl rfl ?_
            exact ih15 (i + 1) (by (try clear cq50); (try clear cq39); omega) (by exact fun a b h1 h2 h3 => if e : a = i then by subst e; exact hg b h2 (by omega) else hq a b (by omega) h2 h3) (by (try clear cq50); (try clear cq39); omega)
          · skip
            refine g_aload_n rfl rfl ?_
            refine g_iload_n rfl rfl ?_
            refine g_iload_n rfl rfl ?_
            refine g_iload rfl rfl ?_
            refine g_callVI [aI ((p : Int)), aI ((i : Int)), aI ((j : Int))] [] rfl rfl rfl rfl (Nat.le_of_ble_eq_true rfl) (cs.kd 11 (by omega) rfl) (x_pgSame (by omega) cs V xg ok p (by omega) i (by omega) j (by omega)) ?_
            rintro r1 hx1 ⟨ehx1, rfl⟩
            rw [ehx1]
            clear ehx1 hx1
            refine g_b_ne rfl (fun cq39 => ?_) (fun cq39 => ?_)
            · skip
              refine g_iconst rfl ?_
              refine g_zret rfl (by (try clear cq50); (try clear cq39); omega) ?_
              refine ⟨rfl, (if_neg (fun z => ?_)).symm⟩
              have hij : i < j ∧ j < sGn S p := ⟨by (try clear cq50); (try clear cq39); omega, by (try clear cq50); (try clear cq39); omega⟩
              have := (bt_iff.mp z).2 i j hij.1 hij.2
              first
                | (exact this.1 cq39)
                | (exact this.2 cq50)
            · skip
              refine g_aload_n rfl rfl ?_
              refine g_iload_n rfl rfl ?_
              refine g_iload_n rfl rfl ?_
              refine g_iload rfl rfl ?_
              refine g_callVI [aI ((p : Int)), aI ((i : Int)), aI ((j : Int))] [] rfl rfl rfl rfl (Nat.le_of_ble_eq_true rfl) (cs.kd 11 (by omega) rfl) (x_pgOdd (by omega) cs V xg ok p (by omega) i (by omega) j (by omega)) ?_
              rintro r2 hx2 ⟨ehx2, rfl⟩
              rw [ehx2]
              clear ehx2 hx2
              refine g_b_eq rfl (fun cq50 => ?_) (fun cq50 => ?_)
              · skip
                refine g_iinc (l1 := [(4, aI ((j : Int) + 1)), (2, aI (((sGn S p : Nat) : Int))), (3, aI ((i : Int))), (0, aO (some (c + 11))), (1, aI ((p : Int)))]) rfl rfl (by (try clear cq50); (try clear cq39); omega) (by (try clear cq50); (try clear cq39); omega) rfl ?_
                refine g_goto rfl ?_
                exact ih25 (j + 1) (by (try clear cq50); (try clear cq39); omega) (by (try clear cq50); (try clear cq39); omega) (by exact fun b h1 h2 => if e : b = j then by subst e; exact ⟨cq39, cq50⟩ else hg b h1 (by clear cq39 cq50; omega)) (by (try clear cq50); (try clear cq39); omega)
              · skip
                refine g_iconst rfl ?_
                refine g_zret rfl (by (try clear cq50); (try clear cq39); omega) ?_
                refine ⟨rfl, (if_neg (fun z => ?_)).symm⟩
                have hij : i < j ∧ j < sGn S p := ⟨by (try clear cq50); (try clear cq39); omega, by (try clear cq50); (try clear cq39); omega⟩
                have := (bt_iff.mp z).2 i j hij.1 hij.2
                first
                  | (exact this.1 cq39)
                  | (exact this.2 cq50)
      refine g_iload_n rfl rfl ?_
      refine g_iload_n rfl rfl ?_
      refine g_icmp_ge rfl (fun cq17 => ?_) (fun cq17 => ?_)
      · skip
        refine g_iconst rfl ?_
        refine g_zret rfl (by (try clear cq50); (try clear cq39); omega) ?_
        refine ⟨rfl, (if_pos (bt_iff.mpr ⟨by omega, fun a b h1 h2 => hq a b (by omega) h1 h2⟩)).symm⟩
      · skip
        refine g_iload_n rfl rfl ?_
        refine g_iconst rfl ?_
        refine g_iadd rfl (by (try clear cq50); (try clear cq39); omega) (by (try clear cq50); (try clear cq39); omega) ?_
        refine g_istore (l1 := [(4, aI (((i : Int)) + 1)), (3, aI ((i : Int))), (2, aI (((sGn S p : Nat) : Int))), (0, aO (some (c + 11))), (1, aI ((p : Int)))]) rfl rfl ?_
        refine g_ls [0, 2, 1, 3, 4] rfl rfl ?_
        exact l25 _ (i + 1) (by (try clear cq50); (try clear cq39); omega) (by (try clear cq50); (try clear cq39); omega) (by exact fun b h1 h2 => by omega) (Nat.lt_succ_self _)
  refine g_aload_n rfl rfl ?_
  refine g_iload_n rfl rfl ?_
  refine g_callVI [aI ((p : Int))] [] rfl rfl rfl rfl (Nat.le_of_ble_eq_true rfl) (cs.kd 11 (by omega) rfl) (x_pgSize (by omega) cs V xg ok p (by omega)) ?_
  rintro r3 hx3 ⟨ehx3, rfl⟩
  rw [ehx3]
  clear ehx3 hx3
  refine g_istore_n (l1 := [(2, aI ((sGn S p : Int))), (0, aO (some (c + 11))), (1, aI ((p : Int)))]) rfl rfl ?_
  refine g_iload_n rfl rfl ?_
  refine g_iconst rfl ?_
  refine g_icmp_ge rfl (fun cq8 => ?_) (fun cq8 => ?_)
  · skip
    refine g_iconst rfl ?_
    refine g_istore_n (l1 := [(3, aI 0), (2, aI ((sGn S p : Int))), (0, aO (some (c + 11))), (1, aI ((p : Int)))]) rfl rfl ?_
    exact l15 (by (try clear cq50); (try clear cq39); omega) _ 0 (by (try clear cq50); (try clear cq39); omega) (by exact fun a b h1 => by omega) (Nat.lt_succ_self _)
  · skip
    refine g_iconst rfl ?_
    refine g_zret rfl (by (try clear cq50); (try clear cq39); omega) ?_
    refine ⟨rfl, (if_neg (fun z => ?_)).symm⟩
    have := (bt_iff.mp z).1
    omega
set_option maxHeartbeats 4000000 in
set_option maxRecDepth 100000 in
theorem x_pgDiag {w : aW} {d : Nat} (hd : 6 ≤ d) {h : aH} {c : Nat} (cs : CS h c) (V : Nat → Nat → Int) {S : aS} (xg : XG V c S) (ok : OkG S) (p : Nat) (hp : p < sG S) (a : Nat) (ha : a < sGn S p) (b : Nat) (hb : b < sGn S p) : WP w d 123 [aO (some (c + 11)), aI ((p : Int)), aI ((a : Int)), aI ((b : Int))] (hw h V) (RI (fun r h1 => h1 = hw h V ∧ r = if bt (gDiag S p a b) = true then 1 else 0)) := by
  obtain ⟨d, rfl⟩ : ∃ d1, d = d1 + 1 := ⟨d - 1, by omega⟩
  refine WP.enter (cd := cd_X3_isDiagonal) rfl ?_
  have bxa := ok.x hp ha
  have bya := ok.y hp ha
  have bxb := ok.x hp hb
  have byb := ok.y hp hb
  have hls : largs 0 [aO (some (c + 11)), aI ((p : Int)), aI ((a : Int)), aI ((b : Int))] = [(0, aO (some (c + 11))), (1, aI ((p : Int))), (2, aI ((a : Int))), (3, aI ((b : Int)))] := rfl
  rw [hls]
  clear hls
  have l3 : ∀ (fuel : Nat) (i : Nat), (i ≤ sGn S p) → (∀ k < i, gDg S p a b k) → sGn S p - i < fuel → Wk w d cd_X3_isDiagonal 3 [(4, aI ((i : Int))), (0, aO (some (c + 11))), (1, aI ((p : Int))), (2, aI ((a : Int))), (3, aI ((b : Int)))] [] (hw h V) (RI (fun r h1 => h1 = hw h V ∧ r = if bt (gDiag S p a b) = true then 1 else 0)) := by
    intro fuel
    induction fuel with
    | zero => intros; omega
    | succ fuel ih3 =>
      intro i hi hg hfuel
      have hok2 := (ok.2 p hp).1
      refine g_iload rfl rfl ?_
      refine g_aload_n rfl rfl ?_
      refine g_iload_n rfl rfl ?_
      refine g_callVI [aI ((p : Int))] [aI ((i : Int))] rfl rfl rfl rfl (Nat.le_of_ble_eq_true rfl) (cs.kd 11 (by omega) rfl) (x_pgSize (by omega) cs V xg ok p (by omega)) ?_
      rintro r1 hx1 ⟨ehx1, rfl⟩
      rw [ehx1]
      clear ehx1 hx1
      refine g_icmp_ge rfl (fun cq10 => ?_) (fun cq10 => ?_)
      · skip
        refine g_aload_n rfl rfl ?_
        refine g_iload_n rfl rfl ?_
        refine g_aload_n rfl rfl ?_
        refine g_iload_n rfl rfl ?_
        refine g_iload_n rfl rfl ?_
        refine g_callVI [aI ((p : Int)), aI ((a : Int))] [aI ((p : Int)), aO (some (c + 11))] rfl rfl rfl rfl (Nat.le_of_ble_eq_true rfl) (cs.kd 11 (by omega) rfl) (x_pgX (by omega) cs V xg ok p (by omega) a (by omega)) ?_
        rintro r2 hx2 ⟨ehx2, rfl⟩
        rw [ehx2]
        clear ehx2 hx2
        refine g_aload_n rfl rfl ?_
        refine g_iload_n rfl rfl ?_
        refine g_iload_n rfl rfl ?_
        refine g_callVI [aI ((p : Int)), aI ((b : Int))] [aI (gx S p a), aI ((p : Int)), aO (some (c + 11))] rfl rfl rfl rfl (Nat.le_of_ble_eq_true rfl) (cs.kd 11 (by omega) rfl) (x_pgX (by omega) cs V xg ok p (by omega) b (by omega)) ?_
        rintro r3 hx3 ⟨ehx3, rfl⟩
        rw [ehx3]
        clear ehx3 hx3
        refine g_iadd rfl (by (try clear cq95); (try clear cq43); omega) (by (try clear cq95); (try clear cq43); omega) ?_
        refine g_i2l rfl ?_
        refine g_aload_n rfl rfl ?_
        refine g_iload_n rfl rfl ?_
        refine g_iload_n rfl rfl ?_
        refine g_callVI [aI ((p : Int)), aI ((a : Int))] [aJ ((gx S p a) + (gx S p b)), aI ((p : Int)), aO (some (c + 11))] rfl rfl rfl rfl (Nat.le_of_ble_eq_true rfl) (cs.kd 11 (by omega) rfl) (x_pgY (by omega) cs V xg ok p (by omega) a (by omega)) ?_
        rintro r4 hx4 ⟨ehx4, rfl⟩
        rw [ehx4]
        clear ehx4 hx4
        refine g_aload_n rfl rfl ?_
        refine g_iload_n rfl rfl ?_
        refine g_iload_n rfl rfl ?_
        refine g_callVI [aI ((p : Int)), aI ((b : Int))] [aI (gy S p a), aJ ((gx S p a) + (gx S p b)), aI ((p : Int)), aO (some (c + 11))] rfl rfl rfl rfl (Nat.le_of_ble_eq_true rfl) (cs.kd 11 (by omega) rfl) (x_pgY (by omega) cs V xg ok p (by omega) b (by omega)) ?_
        rintro r5 hx5 ⟨ehx5, rfl⟩
        rw [ehx5]
        clear ehx5 hx5
        refine g_iadd rfl (by (try clear cq95); (try clear cq43); omega) (by (try clear cq95); (try clear cq43); omega) ?_
        refine g_i2l rfl ?_
        refine g_ldc2 rfl ?_
        refine g_callVI [aI ((p : Int)), aJ ((gx S p a) + (gx S p b)), aJ ((gy S p a) + (gy S p b)), aJ 2] [] rfl rfl rfl rfl (Nat.le_of_ble_eq_true rfl) (cs.kd 11 (by omega) rfl) (x_pgWhere (by omega) cs V xg ok p (by omega) ((gx S p a) + (gx S p b)) ((gy S p a) + (gy S p b)) 2 (by omega) (by omega) (by omega)) ?_
        rintro r6 hx6 ⟨ehx6, rfl⟩
        rw [ehx6]
        clear ehx6 hx6
        refine g_iconst rfl ?_
        refine g_icmp_ne rfl (fun cq143 => ?_) (fun cq143 => ?_)
        · skip
          refine g_iconst rfl ?_
          refine g_zret rfl (by (try clear cq95); (try clear cq43); omega) ?_
          refine ⟨rfl, ?_⟩
          first
            | (refine (if_pos ?_).symm; refine (bt_iff.mpr ⟨fun k hk => hg k ?_, ?_⟩) <;> omega)
            | (refine (if_neg ?_).symm; intro z; have := (bt_iff.mp z).2; omega)
        · skip
          refine g_iconst rfl ?_
          refine g_goto rfl ?_
          refine g_zret rfl (by (try clear cq95); (try clear cq43); omega) ?_
          refine ⟨rfl, ?_⟩
          first
            | (refine (if_pos ?_).symm; refine (bt_iff.mpr ⟨fun k hk => hg k ?_, ?_⟩) <;> omega)
            | (refine (if_neg ?_).symm; intro z; have := (bt_iff.mp z).2; omega)
      · skip
        have li := gAft_lt (S := S) (p := p) (i := i) (by omega)
        refine g_aload_n rfl rfl ?_
        refine g_iload_n rfl rfl ?_
        refine g_iload rfl rfl ?_
        refine g_callVI [aI ((p : Int)), aI ((i : Int))] [] rfl rfl rfl rfl (Nat.le_of_ble_eq_true rfl) (cs.kd 11 (by omega) rfl) (x_pgAft (by omega) cs V xg ok p (by omega) i (by omega)) ?_
        rintro r7 hx7 ⟨ehx7, rfl⟩
        rw [ehx7]
        clear ehx7 hx7
        refine g_istore (l1 := [(5, aI ((gAft S p i : Int))), (4, aI ((i : Int))), (0, aO (some (c + 11))), (1, aI ((p : Int))), (2, aI ((a : Int))), (3, aI ((b : Int)))]) rfl rfl ?_
        refine g_iload rfl rfl ?_
        refine g_iload_n rfl rfl ?_
        refine g_icmp_eq rfl (fun cq25 => ?_) (fun cq25 => ?_)
        · skip
          refine g_iload rfl rfl ?_
          refine g_iload_n rfl rfl ?_
          refine g_icmp_eq rfl (fun cq51 => ?_) (fun cq51 => ?_)
          · skip
            refine g_iconst rfl ?_
            refine g_istore (l1 := [(6, aI 0), (5, aI ((gAft S p i : Int))), (4, aI ((i : Int))), (0, aO (some (c + 11))), (1, aI ((p : Int))), (2, aI ((a : Int))), (3, aI ((b : Int)))]) rfl rfl ?_
            refine g_iload rfl rfl ?_
            refine g_if_eq_t rfl (by (try clear cq95); (try clear cq43); omega) ?_
            refine g_iinc (l1 := [(4, aI ((i : Int) + 1)), (6, aI 0), (5, aI ((gAft S p i : Int))), (0, aO (some (c + 11))), (1, aI ((p : Int))), (2, aI ((a : Int))), (3, aI ((b : Int)))]) rfl rfl (by (try clear cq95); (try clear cq43); omega) (by (try clear cq95); (try clear cq43); omega) rfl ?_
            refine g_goto rfl ?_
            refine g_ls [0, 3, 4, 5, 6] rfl rfl ?_
            exact ih3 (i + 1) (by (try clear cq95); (try clear cq43); omega) (by exact fun k h1 => if e : k = i then by
                                                                                                                                                                                                                                                                                                                                                                                                                    subst e
                                                                                                                                                                                                                                                                                                                                                                                                                    refine ⟨fun z => ?_, fun z => ?_⟩
                                                                                                                                                                                                                                                                                                                                                                                                                    · first
                                                                                                                                                                                                                                                                                                                                                                                                                        | (exact cq43 z.2)
                                                                                                                                                                                                                                                                                                                                                                                                                        | (have z1 := z.1; clear z; (try clear cq95); (try clear cq43); omega)
                                                                                                                                                                                                                                                                                                                                                                                                                    · first
                                                                                                                                                                                                                                                                                                                                                                                                                        | (exact cq95 z.2)
                                                                                                                                                                                                                                                                                                                                                                                                                        | (have z1 := z.1; clear z; (try clear cq95); (try clear cq43); omega)
                                                                                                                                                                                                                                                                                                                                                                                                                  else hg k (by (try clear cq95); (try clear cq43); omega)) (by (try clear cq95); (try clear cq43); omega)
          · skip
            refine g_iload rfl rfl ?_
            refine g_iload_n rfl rfl ?_
            refine g_icmp_eq rfl (fun cq57 => ?_) (fun cq57 => ?_)
            · skip
              refine g_iconst rfl ?_
              refine g_istore (l1 := [(6, aI 0), (5, aI ((gAft S p i : Int))), (4, aI ((i : Int))), (0, aO (some (c + 11))), (1, aI ((p : Int))), (2, aI ((a : Int))), (3, aI ((b : Int)))]) rfl rfl ?_
              refine g_iload rfl rfl ?_
              refine g_if_eq_t rfl (by (try clear cq95); (try clear cq43); omega) ?_
              refine g_iinc (l1 := [(4, aI ((i : Int) + 1)), (6, aI 0), (5, aI ((gAft S p i : Int))), (0, aO (some (c + 11))), (1, aI ((p : Int))), (2, aI ((a : Int))), (3, aI ((b : Int)))]) rfl rfl (by (try clear cq95); (try clear cq43); omega) (by (try clear cq95); (try clear cq43); omega) rfl ?_
              refine g_goto rfl ?_
              refine g_ls [0, 3, 4, 5, 6] rfl rfl ?_
              exact ih3 (i + 1) (by (try clear cq95); (try clear cq43); omega) (by exact fun k h1 => if e : k = i then by
                                                                                                                                                                                                                                                                                                                                                                                                                    subst e
                                                                                                                                                                                                                                                                                                                                                                                                                    refine ⟨fun z => ?_, fun z => ?_⟩
                                                                                                                                                                                                                                                                                                                                                                                                                    · first
                                                                                                                                                                                                                                                                                                                                                                                                                        | (exact cq43 z.2)
                                                                                                                                                                                                                                                                                                                                                                                                                        | (have z1 := z.1; clear z; (try clear cq95); (try clear cq43); omega)
                                                                                                                                                                                                                                                                                                                                                                                                                    · first
                                                                                                                                                                                                                                                                                                                                                                                                                        | (exact cq95 z.2)
                                                                                                                                                                                                                                                                                                                                                                                                                        | (have z1 := z.1; clear z; (try clear cq95); (try clear cq43); omega)
                                                                                                                                                                                                                                                                                                                                                                                                                  else hg k (by (try clear cq95); (try clear cq43); omega)) (by (try clear cq95); (try clear cq43); omega)
            · skip
              refine g_iload rfl rfl ?_
              refine g_iload_n rfl rfl ?_
              refine g_icmp_eq rfl (fun cq63 => ?_) (fun cq63 => ?_)
              · skip
                refine g_iconst rfl ?_
                refine g_istore (l1 := [(6, aI 0), (5, aI ((gAft S p i : Int))), (4, aI ((i : Int))), (0, aO (some (c + 11))), (1, aI ((p : Int))), (2, aI ((a : Int))), (3, aI ((b : Int)))]) rfl rfl ?_
                refine g_iload rfl rfl ?_
                refine g_if_eq_t rfl (by (try clear cq95); (try clear cq43); omega) ?_
                refine g_iinc (l1 := [(4, aI ((i : Int) + 1)), (6, aI 0), (5, aI ((gAft S p i : Int))), (0, aO (some (c + 11))), (1, aI ((p : Int))), (2, aI ((a : Int))), (3, aI ((b : Int)))]) rfl rfl (by (try clear cq95); (try clear cq43); omega) (by (try clear cq95); (try clear cq43); omega) rfl ?_
                refine g_goto rfl ?_
                refine g_ls [0, 3, 4, 5, 6] rfl rfl ?_
                exact ih3 (i + 1) (by (try clear cq95); (try clear cq43); omega) (by exact fun k h1 => if e : k = i then by
                                                                                                                                                                                                                                                                                                                                                                                                                    subst e
                                                                                                                                                                                                                                                                                                                                                                                                                    refine ⟨fun z => ?_, fun z => ?_⟩
                                                                                                                                                                                                                                                                                                                                                                                                                    · first
                                                                                                                                                                                                                                                                                                                                                                                                                        | (exact cq43 z.2)
                                                                                                                                                                                                                                                                                                                                                                                                                        | (have z1 := z.1; clear z; (try clear cq95); (try clear cq43); omega)
                                                                                                                                                                                                                                                                                                                                                                                                                    · first
                                                                                                                                                                                                                                                                                                                                                                                                                        | (exact cq95 z.2)
                                                                                                                                                                                                                                                                                                                                                                                                                        | (have z1 := z.1; clear z; (try clear cq95); (try clear cq43); omega)
                                                                                                                                                                                                                                                                                                                                                                                                                  else hg k (by (try clear cq95); (try clear cq43); omega)) (by (try clear cq95); (try clear cq43); omega)
              · skip
                refine g_iload rfl rfl ?_
                refine g_iload_n rfl rfl ?_
                refine g_icmp_eq rfl (fun cq69 => ?_) (fun cq69 => ?_)
                · skip
                  refine g_iconst rfl ?_
                  refine g_istore (l1 := [(6, aI 0), (5, aI ((gAft S p i : Int))), (4, aI ((i : Int))), (0, aO (some (c + 11))), (1, aI ((p : Int))), (2, aI ((a : Int))), (3, aI ((b : Int)))]) rfl rfl ?_
                  refine g_iload rfl rfl ?_
                  refine g_if_eq_t rfl (by (try clear cq95); (try clear cq43); omega) ?_
                  refine g_iinc (l1 := [(4, aI ((i : Int) + 1)), (6, aI 0), (5, aI ((gAft S p i : Int))), (0, aO (some (c + 11))), (1, aI ((p : Int))), (2, aI ((a : Int))), (3, aI ((b : Int)))]) rfl rfl (by (try clear cq95); (try clear cq43); omega) (by (try clear cq95); (try clear cq43); omega) rfl ?_
                  refine g_goto rfl ?_
                  refine g_ls [0, 3, 4, 5, 6] rfl rfl ?_
                  exact ih3 (i + 1) (by (try clear cq95); (try clear cq43); omega) (by exact fun k h1 => if e : k = i then by
                                                                                                                                                                                                                                                                                                                                                                                                                    subst e
                                                                                                                                                                                                                                                                                                                                                                                                                    refine ⟨fun z => ?_, fun z => ?_⟩
                                                                                                                                                                                                                                                                                                                                                                                                                    · first
                                                                                                                                                                                                                                                                                                                                                                                                                        | (exact cq43 z.2)
                                                                                                                                                                                                                                                                                                                                                                                                                        | (have z1 := z.1; clear z; (try clear cq95); (try clear cq43); omega)
                                                                                                                                                                                                                                                                                                                                                                                                                    · first
                                                                                                                                                                                                                                                                                                                                                                                                                        | (exact cq95 z.2)
                                                                                                                                                                                                                                                                                                                                                                                                                        | (have z1 := z.1; clear z; (try clear cq95); (try clear cq43); omega)
                                                                                                                                                                                                                                                                                                                                                                                                                  else hg k (by (try clear cq95); (try clear cq43); omega)) (by (try clear cq95); (try clear cq43); omega)
                · skip
                  refine g_iconst rfl ?_
                  refine g_goto rfl ?_
                  refine g_istore (l1 := [(6, aI 1), (5, aI ((gAft S p i : Int))), (4, aI ((i : Int))), (0, aO (some (c + 11))), (1, aI ((p : Int))), (2, aI ((a : Int))), (3, aI ((b : Int)))]) rfl rfl ?_
                  refine g_iload rfl rfl ?_
                  refine g_if_eq_f rfl (by (try clear cq95); (try clear cq43); omega) ?_
                  refine g_aload_n rfl rfl ?_
                  refine g_iload_n rfl rfl ?_
                  refine g_iload_n rfl rfl ?_
                  refine g_iload_n rfl rfl ?_
                  refine g_iload rfl rfl ?_
                  refine g_iload rfl rfl ?_
                  refine g_callVI [aI ((p : Int)), aI ((a : Int)), aI ((b : Int)), aI ((i : Int)), aI ((gAft S p i : Int))] [] rfl rfl rfl rfl (Nat.le_of_ble_eq_true rfl) (cs.kd 11 (by omega) rfl) (x_pgMeet (by omega) cs V xg ok p (by omega) a (by omega) b (by omega) i (by omega) (gAft S p i) (by omega)) ?_
                  rintro r8 hx8 ⟨ehx8, rfl⟩
                  rw [ehx8]
                  clear ehx8 hx8
                  refine g_b_eq rfl (fun cq95 => ?_) (fun cq95 => ?_)
                  · skip
                    refine g_iinc (l1 := [(4, aI ((i : Int) + 1)), (6, aI 1), (5, aI ((gAft S p i : Int))), (0, aO (some (c + 11))), (1, aI ((p : Int))), (2, aI ((a : Int))), (3, aI ((b : Int)))]) rfl rfl (by (try clear cq95); (try clear cq43); omega) (by (try clear cq95); (try clear cq43); omega) rfl ?_
                    refine g_goto rfl ?_
                    refine g_ls [0, 3, 4, 5, 6] rfl rfl ?_
                    exact ih3 (i + 1) (by (try clear cq95); (try clear cq43); omega) (by exact fun k h1 => if e : k = i then by
                                                                                                                                                                                                                                                                                                                                                                                                                    subst e
                                                                                                                                                                                                                                                                                                                                                                                                                    refine ⟨fun z => ?_, fun z => ?_⟩
                                                                                                                                                                                                                                                                                                                                                                                                                    · first
                                                                                                                                                                                                                                                                                                                                                                                                                        | (exact cq43 z.2)
                                                                                                                                                                                                                                                                                                                                                                                                                        | (have z1 := z.1; clear z; (try clear cq95); (try clear cq43); omega)
                                                                                                                                                                                                                                                                                                                                                                                                                    · first
                                                                                                                                                                                                                                                                                                                                                                                                                        | (exact cq95 z.2)
                                                                                                                                                                                                                                                                                                                                                                                                                        | (have z1 := z.1; clear z; (try clear cq95); (try clear cq43); omega)
                                                                                                                                                                                                                                                                                                                                                                                                                  else hg k (by (try clear cq95); (try clear cq43); omega)) (by (try clear cq95); (try clear cq43); omega)
                  · skip
                    refine g_iconst rfl ?_
                    refine g_zret rfl (by (try clear cq95); (try clear cq43); omega) ?_
                    refine ⟨rfl, (if_neg (fun z => ?_)).symm⟩
                    exact ((bt_iff.mp z).1 i (by (try clear cq95); (try clear cq43); omega)).2 ⟨⟨by (try clear cq95); (try clear cq43); omega, by (try clear cq95); (try clear cq43); omega, by (try clear cq95); (try clear cq43); omega, by (try clear cq95); (try clear cq43); omega⟩, cq95⟩
        · skip
          refine g_iload rfl rfl ?_
          refine g_iload_n rfl rfl ?_
          refine g_icmp_eq rfl (fun cq31 => ?_) (fun cq31 => ?_)
          · skip
            refine g_iload rfl rfl ?_
            refine g_iload_n rfl rfl ?_
            refine g_icmp_eq rfl (fun cq51 => ?_) (fun cq51 => ?_)
            · skip
              refine g_iconst rfl ?_
              refine g_istore (l1 := [(6, aI 0), (5, aI ((gAft S p i : Int))), (4, aI ((i : Int))), (0, aO (some (c + 11))), (1, aI ((p : Int))), (2, aI ((a : Int))), (3, aI ((b : Int)))]) rfl rfl ?_
              refine g_iload rfl rfl ?_
              refine g_if_eq_t rfl (by (try clear cq95); (try clear cq43); omega) ?_
              refine g_iinc (l1 := [(4, aI ((i : Int) + 1)), (6, aI 0), (5, aI ((gAft S p i : Int))), (0, aO (some (c + 11))), (1, aI ((p : Int))), (2, aI ((a : Int))), (3, aI ((b : Int)))]) rfl rfl (by (try clear cq95); (try clear cq43); omega) (by (try clear cq95); (try clear cq43); omega) rfl ?_
              refine g_goto rfl ?_
              refine g_ls [0, 3, 4, 5, 6] rfl rfl ?_
              exact ih3 (i + 1) (by (try clear cq95); (try clear cq43); omega) (by exact fun k h1 => if e : k = i then by
                                                                                                                                                                                                                                                                                                                                                                                                                    subst e
                                                                                                                                                                                                                                                                                                                                                                                                                    refine ⟨fun z => ?_, fun z => ?_⟩
                                                                                                                                                                                                                                                                                                                                                                                                                    · first
                                                                                                                                                                                                                                                                                                                                                                                                                        | (exact cq43 z.2)
                                                                                                                                                                                                                                                                                                                                                                                                                        | (have z1 := z.1; clear z; (try clear cq95); (try clear cq43); omega)
                                                                                                                                                                                                                                                                                                                                                                                                                    · first
                                                                                                                                                                                                                                                                                                                                                                                                                        | (exact cq95 z.2)
                                                                                                                                                                                                                                                                                                                                                                                                                        | (have z1 := z.1; clear z; (try clear cq95); (try clear cq43); omega)
                                                                                                                                                                                                                                                                                                                                                                                                                  else hg k (by (try clear cq95); (try clear cq43); omega)) (by (try clear cq95); (try clear cq43); omega)
            · skip
              refine g_iload rfl rfl ?_
              refine g_iload_n rfl rfl ?_
              refine g_icmp_eq rfl (fun cq57 => ?_) (fun cq57 => ?_)
              · skip
                refine g_iconst rfl ?_
                refine g_istore (l1 := [(6, aI 0), (5, aI ((gAft S p i : Int))), (4, aI ((i : Int))), (0, aO (some (c + 11))), (1, aI ((p : Int))), (2, aI ((a : Int))), (3, aI ((b : Int)))]) rfl rfl ?_
                refine g_iload rfl rfl ?_
                refine g_if_eq_t rfl (by (try clear cq95); (try clear cq43); omega) ?_
                refine g_iinc (l1 := [(4, aI ((i : Int) + 1)), (6, aI 0), (5, aI ((gAft S p i : Int))), (0, aO (some (c + 11))), (1, aI ((p : Int))), (2, aI ((a : Int))), (3, aI ((b : Int)))]) rfl rfl (by (try clear cq95); (try clear cq43); omega) (by (try clear cq95); (try clear cq43); omega) rfl ?_
                refine g_goto rfl ?_
                refine g_ls [0, 3, 4, 5, 6] rfl rfl ?_
                exact ih3 (i + 1) (by (try clear cq95); (try clear cq43); omega) (by exact fun k h1 => if e : k = i then by
                                                                                                                                                                                                                                                                                                                                                                                                                    subst e
                                                                                                                                                                                                                                                                                                                                                                                                                    refine ⟨fun z => ?_, fun z => ?_⟩
                                                                                                                                                                                                                                                                                                                                                                                                                    · first
                                                                                                                                                                                                                                                                                                                                                                                                                        | (exact cq43 z.2)
                                                                                                                                                                                                                                                                                                                                                                                                                        | (have z1 := z.1; clear z; (try clear cq95); (try clear cq43); omega)
                                                                                                                                                                                                                                                                                                                                                                                                                    · first
                                                                                                                                                                                                                                                                                                                                                                                                                        | (exact cq95 z.2)
                                                                                                                                                                                                                                                                                                                                                                                                                        | (have z1 := z.1; clear z; (try clear cq95); (try clear cq43); omega)
                                                                                                                                                                                                                                                                                                                                                                                                                  else hg k (by (try clear cq95); (try clear cq43); omega)) (by (try clear cq95); (try clear cq43); omega)
              · skip
                refine g_iload rfl rfl ?_
                refine g_iload_n rfl rfl ?_
                refine g_icmp_eq rfl (fun cq63 => ?_) (fun cq63 => ?_)
                · skip
                  refine g_iconst rfl ?_
                  refine g_istore (l1 := [(6, aI 0), (5, aI ((gAft S p i : Int))), (4, aI ((i : Int))), (0, aO (some (c + 11))), (1, aI ((p : Int))), (2, aI ((a : Int))), (3, aI ((b : Int)))]) rfl rfl ?_
                  refine g_iload rfl rfl ?_
                  refine g_if_eq_t rfl (by (try clear cq95); (try clear cq43); omega) ?_
                  refine g_iinc (l1 := [(4, aI ((i : Int) + 1)), (6, aI 0), (5, aI ((gAft S p i : Int))), (0, aO (some (c + 11))), (1, aI ((p : Int))), (2, aI ((a : Int))), (3, aI ((b : Int)))]) rfl rfl (by (try clear cq95); (try clear cq43); omega) (by (try clear cq95); (try clear cq43); omega) rfl ?_
                  refine g_goto rfl ?_
                  refine g_ls [0, 3, 4, 5, 6] rfl rfl ?_
                  exact ih3 (i + 1) (by (try clear cq95); (try clear cq43); omega) (by exact fun k h1 => if e : k = i then by
                                                                                                                                                                                                                                                                                                                                                                                                                    subst e
                                                                                                                                                                                                                                                                                                                                                                                                                    refine ⟨fun z => ?_, fun z => ?_⟩
                                                                                                                                                                                                                                                                                                                                                                                                                    · first
                                                                                                                                                                                                                                                                                                                                                                                                                        | (exact cq43 z.2)
                                                                                                                                                                                                                                                                                                                                                                                                                        | (have z1 := z.1; clear z; (try clear cq95); (try clear cq43); omega)
                                                                                                                                                                                                                                                                                                                                                                                                                    · first
                                                                                                                                                                                                                                                                                                                                                                                                                        | (exact cq95 z.2)
                                                                                                                                                                                                                                                                                                                                                                                                                        | (have z1 := z.1; clear z; (try clear cq95); (try clear cq43); omega)
                                                                                                                                                                                                                                                                                                                                                                                                                  else hg k (by (try clear cq95); (try clear cq43); omega)) (by (try clear cq95); (try clear cq43); omega)
                · skip
                  refine g_iload rfl rfl ?_
                  refine g_iload_n rfl rfl ?_
                  refine g_icmp_eq rfl (fun cq69 => ?_) (fun cq69 => ?_)
                  · skip
                    refine g_iconst rfl ?_
                    refine g_istore (l1 := [(6, aI 0), (5, aI ((gAft S p i : Int))), (4, aI ((i : Int))), (0, aO (some (c + 11))), (1, aI ((p : Int))), (2, aI ((a : Int))), (3, aI ((b : Int)))]) rfl rfl ?_
                    refine g_iload rfl rfl ?_
                    refine g_if_eq_t rfl (by (try clear cq95); (try clear cq43); omega) ?_
                    refine g_iinc (l1 := [(4, aI ((i : Int) + 1)), (6, aI 0), (5, aI ((gAft S p i : Int))), (0, aO (some (c + 11))), (1, aI ((p : Int))), (2, aI ((a : Int))), (3, aI ((b : Int)))]) rfl rfl (by (try clear cq95); (try clear cq43); omega) (by (try clear cq95); (try clear cq43); omega) rfl ?_
                    refine g_goto rfl ?_
                    refine g_ls [0, 3, 4, 5, 6] rfl rfl ?_
                    exact ih3 (i + 1) (by (try clear cq95); (try clear cq43); omega) (by exact fun k h1 => if e : k = i then by
                                                                                                                                                                                                                                                                                                                                                                                                                    subst e
                                                                                                                                                                                                                                                                                                                                                                                                                    refine ⟨fun z => ?_, fun z => ?_⟩
                                                                                                                                                                                                                                                                                                                                                                                                                    · first
                                                                                                                                                                                                                                                                                                                                                                                                                        | (exact cq43 z.2)
                                                                                                                                                                                                                                                                                                                                                                                                                        | (have z1 := z.1; clear z; (try clear cq95); (try clear cq43); omega)
                                                                                                                                                                                                                                                                                                                                                                                                                    · first
                                                                                                                                                                                                                                                                                                                                                                                                                        | (exact cq95 z.2)
                                                                                                                                                                                                                                                                                                                                                                                                                        | (have z1 := z.1; clear z; (try clear cq95); (try clear cq43); omega)
                                                                                                                                                                                                                                                                                                                                                                                                                  else hg k (by (try clear cq95); (try clear cq43); omega)) (by (try clear cq95); (try clear cq43); omega)
                  · skip
                    refine g_iconst rfl ?_
                    refine g_goto rfl ?_
                    refine g_istore (l1 := [(6, aI 1), (5, aI ((gAft S p i : Int))), (4, aI ((i : Int))), (0, aO (some (c + 11))), (1, aI ((p : Int))), (2, aI ((a : Int))), (3, aI ((b : Int)))]) rfl rfl ?_
                    refine g_iload rfl rfl ?_
                    refine g_if_eq_f rfl (by (try clear cq95); (try clear cq43); omega) ?_
                    refine g_aload_n rfl rfl ?_
                    refine g_iload_n rfl rfl ?_
                    refine g_iload_n rfl rfl ?_
                    refine g_iload_n rfl rfl ?_
                    refine g_iload rfl rfl ?_
                    refine g_iload rfl rfl ?_
                    refine g_callVI [aI ((p : Int)), aI ((a : Int)), aI ((b : Int)), aI ((i : Int)), aI ((gAft S p i : Int))] [] rfl rfl rfl rfl (Nat.le_of_ble_eq_true rfl) (cs.kd 11 (by omega) rfl) (x_pgMeet (by omega) cs V xg ok p (by omega) a (by omega) b (by omega) i (by omega) (gAft S p i) (by omega)) ?_
                    rintro r9 hx9 ⟨ehx9, rfl⟩
                    rw [ehx9]
                    clear ehx9 hx9
                    refine g_b_eq rfl (fun cq95 => ?_) (fun cq95 => ?_)
                    · skip
                      refine g_iinc (l1 := [(4, aI ((i : Int) + 1)), (6, aI 1), (5, aI ((gAft S p i : Int))), (0, aO (some (c + 11))), (1, aI ((p : Int))), (2, aI ((a : Int))), (3, aI ((b : Int)))]) rfl rfl (by (try clear cq95); (try clear cq43); omega) (by (try clear cq95); (try clear cq43); omega) rfl ?_
                      refine g_goto rfl ?_
                      refine g_ls [0, 3, 4, 5, 6] rfl rfl ?_
                      exact ih3 (i + 1) (by (try clear cq95); (try clear cq43); omega) (by exact fun k h1 => if e : k = i then by
                                                                                                                                                                                                                                                                                                                                                                                                                    subst e
                                                                                                                                                                                                                                                                                                                                                                                                                    refine ⟨fun z => ?_, fun z => ?_⟩
                                                                                                                                                                                                                                                                                                                                                                                                                    · first
                                                                                                                                                                                                                                                                                                                                                                                                                        | (exact cq43 z.2)
                                                                                                                                                                                                                                                                                                                                                                                                                        | (have z1 := z.1; clear z; (try clear cq95); (try clear cq43); omega)
                                                                                                                                                                                                                                                                                                                                                                                                                    · first
                                                                                                                                                                                                                                                                                                                                                                                                                        | (exact cq95 z.2)
                                                                                                                                                                                                                                                                                                                                                                                                                        | (have z1 := z.1; clear z; (try clear cq95); (try clear cq43); omega)
                                                                                                                                                                                                                                                                                                                                                                                                                  else hg k (by (try clear cq95); (try clear cq43); omega)) (by (try clear cq95); (try clear cq43); omega)
                    · skip
                      refine g_iconst rfl ?_
                      refine g_zret rfl (by (try clear cq95); (try clear cq43); omega) ?_
                      refine ⟨rfl, (if_neg (fun z => ?_)).symm⟩
                      exact ((bt_iff.mp z).1 i (by (try clear cq95); (try clear cq43); omega)).2 ⟨⟨by (try clear cq95); (try clear cq43); omega, by (try clear cq95); (try clear cq43); omega, by (try clear cq95); (try clear cq43); omega, by (try clear cq95); (try clear cq43); omega⟩, cq95⟩
          · skip
            refine g_aload_n rfl rfl ?_
            refine g_iload_n rfl rfl ?_
            refine g_iload_n rfl rfl ?_
            refine g_iload_n rfl rfl ?_
            refine g_iload rfl rfl ?_
            refine g_callVI [aI ((p : Int)), aI ((a : Int)), aI ((b : Int)), aI ((i : Int))] [] rfl rfl rfl rfl (Nat.le_of_ble_eq_true rfl) (cs.kd 11 (by omega) rfl) (x_pgOn (by omega) cs V xg ok p (by omega) a (by omega) b (by omega) i (by omega)) ?_
            rintro r10 hx10 ⟨ehx10, rfl⟩
            rw [ehx10]
            clear ehx10 hx10
            refine g_b_eq rfl (fun cq43 => ?_) (fun cq43 => ?_)
            · skip
              refine g_iload rfl rfl ?_
              refine g_iload_n rfl rfl ?_
              refine g_icmp_eq rfl (fun cq51 => ?_) (fun cq51 => ?_)
              · skip
                refine g_iconst rfl ?_
                refine g_istore (l1 := [(6, aI 0), (5, aI ((gAft S p i : Int))), (4, aI ((i : Int))), (0, aO (some (c + 11))), (1, aI ((p : Int))), (2, aI ((a : Int))), (3, aI ((b : Int)))]) rfl rfl ?_
                refine g_iload rfl rfl ?_
                refine g_if_eq_t rfl (by (try clear cq95); (try clear cq43); omega) ?_
                refine g_iinc (l1 := [(4, aI ((i : Int) + 1)), (6, aI 0), (5, aI ((gAft S p i : Int))), (0, aO (some (c + 11))), (1, aI ((p : Int))), (2, aI ((a : Int))), (3, aI ((b : Int)))]) rfl rfl (by (try clear cq95); (try clear cq43); omega) (by (try clear cq95); (try clear cq43); omega) rfl ?_
                refine g_goto rfl ?_
                refine g_ls [0, 3, 4, 5, 6] rfl rfl ?_
                exact ih3 (i + 1) (by (try clear cq95); (try clear cq43); omega) (by exact fun k h1 => if e : k = i then by
                                                                                                                                                                                                                                                                                                                                                                                                                    subst e
                                                                                                                                                                                                                                                                                                                                                                                                                    refine ⟨fun z => ?_, fun z => ?_⟩
                                                                                                                                                                                                                                                                                                                                                                                                                    · first
                                                                                                                                                                                                                                                                                                                                                                                                                        | (exact cq43 z.2)
                                                                                                                                                                                                                                                                                                                                                                                                                        | (have z1 := z.1; clear z; (try clear cq95); (try clear cq43); omega)
                                                                                                                                                                                                                                                                                                                                                                                                                    · first
                                                                                                                                                                                                                                                                                                                                                                                                                        | (exact cq95 z.2)
                                                                                                                                                                                                                                                                                                                                                                                                                        | (have z1 := z.1; clear z; (try clear cq95); (try clear cq43); omega)
                                                                                                                                                                                                                                                                                                                                                                                                                  else hg k (by (try clear cq95); (try clear cq43); omega)) (by (try clear cq95); (try clear cq43); omega)
              · skip
                refine g_iload rfl rfl ?_
                refine g_iload_n rfl rfl ?_
                refine g_icmp_eq rfl (fun cq57 => ?_) (fun cq57 => ?_)
                · skip
                  refine g_iconst rfl ?_
                  refine g_istore (l1 := [(6, aI 0), (5, aI ((gAft S p i : Int))), (4, aI ((i : Int))), (0, aO (some (c + 11))), (1, aI ((p : Int))), (2, aI ((a : Int))), (3, aI ((b : Int)))]) rfl rfl ?_
                  refine g_iload rfl rfl ?_
                  refine g_if_eq_t rfl (by (try clear cq95); (try clear cq43); omega) ?_
                  refine g_iinc (l1 := [(4, aI ((i : Int) + 1)), (6, aI 0), (5, aI ((gAft S p i : Int))), (0, aO (some (c + 11))), (1, aI ((p : Int))), (2, aI ((a : Int))), (3, aI ((b : Int)))]) rfl rfl (by (try clear cq95); (try clear cq43); omega) (by (try clear cq95); (try clear cq43); omega) rfl ?_
                  refine g_goto rfl ?_
                  refine g_ls [0, 3, 4, 5, 6] rfl rfl ?_
                  exact ih3 (i + 1) (by (try clear cq95); (try clear cq43); omega) (by exact fun k h1 => if e : k = i then by
                                                                                                                                                                                                                                                                                                                                                                                                                    subst e
                                                                                                                                                                                                                                                                                                                                                                                                                    refine ⟨fun z => ?_, fun z => ?_⟩
                                                                                                                                                                                                                                                                                                                                                                                                                    · first
                                                                                                                                                                                                                                                                                                                                                                                                                        | (exact cq43 z.2)
                                                                                                                                                                                                                                                                                                                                                                                                                        | (have z1 := z.1; clear z; (try clear cq95); (try clear cq43); omega)
                                                                                                                                                                                                                                                                                                                                                                                                                    · first
                                                                                                                                                                                                                                                                                                                                                                                                                        | (exact cq95 z.2)
                                                                                                                                                                                                                                                                                                                                                                                                                        | (have z1 := z.1; clear z; (try clear cq95); (try clear cq43); omega)
                                                                                                                                                                                                                                                                                                                                                                                                                  else hg k (by (try clear cq95); (try clear cq43); omega)) (by (try clear cq95); (try clear cq43); omega)
                · skip
                  refine g_iload rfl rfl ?_
                  refine g_iload_n rfl rfl ?_
                  refine g_icmp_eq rfl (fun cq63 => ?_) (fun cq63 => ?_)
                  · skip
                    refine g_iconst rfl ?_
                    refine g_istore (l1 := [(6, aI 0), (5, aI ((gAft S p i : Int))), (4, aI ((i : Int))), (0, aO (some (c + 11))), (1, aI ((p : Int))), (2, aI ((a : Int))), (3, aI ((b : Int)))]) rfl rfl ?_
                    refine g_iload rfl rfl ?_
                    refine g_if_eq_t rfl (by (try clear cq95); (try clear cq43); omega) ?_
                    refine g_iinc (l1 := [(4, aI ((i : Int) + 1)), (6, aI 0), (5, aI ((gAft S p i : Int))), (0, aO (some (c + 11))), (1, aI ((p : Int))), (2, aI ((a : Int))), (3, aI ((b : Int)))]) rfl rfl (by (try clear cq95); (try clear cq43); omega) (by (try clear cq95); (try clear cq43); omega) rfl ?_
                    refine g_goto rfl ?_
                    refine g_ls [0, 3, 4, 5, 6] rfl rfl ?_
                    exact ih3 (i + 1) (by (try clear cq95); (try clear cq43); omega) (by exact fun k h1 => if e : k = i then by
                                                                                                                                                                                                                                                                                                                                                                                                                    subst e
                                                                                                                                                                                                                                                                                                                                                                                                                    refine ⟨fun z => ?_, fun z => ?_⟩
                                                                                                                                                                                                                                                                                                                                                                                                                    · first
                                                                                                                                                                                                                                                                                                                                                                                                                        | (exact cq43 z.2)
                                                                                                                                                                                                                                                                                                                                                                                                                        | (have z1 := z.1; clear z; (try clear cq95); (try clear cq43); omega)
                                                                                                                                                                                                                                                                                                                                                                                                                    · first
                                                                                                                                                                                                                                                                                                                                                                                                                        | (exact cq95 z.2)
                                                                                                                                                                                                                                                                                                                                                                                                                        | (have z1 := z.1; clear z; (try clear cq95); (try clear cq43); omega)
                                                                                                                                                                                                                                                                                                                                                                                                                  else hg k (by (try clear cq95); (try clear cq43); omega)) (by (try clear cq95); (try clear cq43); omega)
                  · skip
                    refine g_iload rfl rfl ?_
                    refine g_iload_n rfl rfl ?_
                    refine g_icmp_eq rfl (fun cq69 => ?_) (fun cq69 => ?_)
                    · skip
                      refine g_iconst rfl ?_
                      refine g_istore (l1 := [(6, aI 0), (5, aI ((gAft S p i : Int))), (4, aI ((i : Int))), (0, aO (some (c + 11))), (1, aI ((p : Int))), (2, aI ((a : Int))), (3, aI ((b : Int)))]) rfl rfl ?_
                      refine g_iload rfl rfl ?_
                      refine g_if_eq_t rfl (by (try clear cq95); (try clear cq43); omega) ?_
                      refine g_iinc (l1 := [(4, aI ((i : Int) + 1)), (6, aI 0), (5, aI ((gAft S p i : Int))), (0, aO (some (c + 11))), (1, aI ((p : Int))), (2, aI ((a : Int))), (3, aI ((b : Int)))]) rfl rfl (by (try clear cq95); (try clear cq43); omega) (by (try clear cq95); (try clear cq43); omega) rfl ?_
                      refine g_goto rfl ?_
                      refine g_ls [0, 3, 4, 5, 6] rfl rfl ?_
                      exact ih3 (i + 1) (by (try clear cq95); (try clear cq43); omega) (by exact fun k h1 => if e : k = i then by
                                                                                                                                                                                                                                                                                                                                                                                                                    subst e
                                                                                                                                                                                                                                                                                                                                                                                                                    refine ⟨fun z => ?_, fun z => ?_⟩
                                                                                                                                                                                                                                                                                                                                                                                                                    · first
                                                                                                                                                                                                                                                                                                                                                                                                                        | (exact cq43 z.2)
                                                                                                                                                                                                                                                                                                                                                                                                                        | (have z1 := z.1; clear z; (try clear cq95); (try clear cq43); omega)
                                                                                                                                                                                                                                                                                                                                                                                                                    · first
                                                                                                                                                                                                                                                                                                                                                                                                                        | (exact cq95 z.2)
                                                                                                                                                                                                                                                                                                                                                                                                                        | (have z1 := z.1; clear z; (try clear cq95); (try clear cq43); omega)
                                                                                                                                                                                                                                                                                                                                                                                                                  else hg k (by (try clear cq95); (try clear cq43); omega)) (by (try clear cq95); (try clear cq43); omega)
                    · skip
                      refine g_iconst rfl ?_
                      refine g_goto rfl ?_
                      refine g_istore (l1 := [(6, aI 1), (5, aI ((gAft S p i : Int))), (4, aI ((i : Int))), (0, aO (some (c + 11))), (1, aI ((p : Int))), (2, aI ((a : Int))), (3, aI ((b : Int)))]) rfl rfl ?_
                      refine g_iload rfl rfl ?_
                      refine g_if_eq_f rfl (by (try clear cq95); (try clear cq43); omega) ?_
                      refine g_aload_n rfl rfl ?_
                      refine g_iload_n rfl rfl ?_
                      refine g_iload_n rfl rfl ?_
                      refine g_iload_n rfl rfl ?_
                      refine g_iload rfl rfl ?_
                      refine g_iload rfl rfl ?_
                      refine g_callVI [aI ((p : Int)), aI ((a : Int)), aI ((b : Int)), aI ((i : Int)), aI ((gAft S p i : Int))] [] rfl rfl rfl rfl (Nat.le_of_ble_eq_true rfl) (cs.kd 11 (by omega) rfl) (x_pgMeet (by omega) cs V xg ok p (by omega) a (by omega) b (by omega) i (by omega) (gAft S p i) (by omega)) ?_
                      rintro r11 hx11 ⟨ehx11, rfl⟩
                      rw [ehx11]
                      clear ehx11 hx11
                      refine g_b_eq rfl (fun cq95 => ?_) (fun cq95 => ?_)
                      · skip
                        refine g_iinc (l1 := [(4, aI ((i : Int) + 1)), (6, aI 1), (5, aI ((gAft S p i : Int))), (0, aO (some (c + 11))), (1, aI ((p : Int))), (2, aI ((a : Int))), (3, aI ((b : Int)))]) rfl rfl (by (try clear cq95); (try clear cq43); omega) (by (try clear cq95); (try clear cq43); omega) rfl ?_
                        refine g_goto rfl ?_
                        refine g_ls [0, 3, 4, 5, 6] rfl rfl ?_
                        exact ih3 (i + 1) (by (try clear cq95); (try clear cq43); omega) (by exact fun k h1 => if e : k = i then by
                                                                                                                                                                                                                                                                                                                                                                                                                    subst e
                                                                                                                                                                                                                                                                                                                                                                                                                    refine ⟨fun z => ?_, fun z => ?_⟩
                                                                                                                                                                                                                                                                                                                                                                                                                    · first
                                                                                                                                                                                                                                                                                                                                                                                                                        | (exact cq43 z.2)
                                                                                                                                                                                                                                                                                                                                                                                                                        | (have z1 := z.1; clear z; (try clear cq95); (try clear cq43); omega)
                                                                                                                                                                                                                                                                                                                                                                                                                    · first
                                                                                                                                                                                                                                                                                                                                                                                                                        | (exact cq95 z.2)
                                                                                                                                                                                                                                                                                                                                                                                                                        | (have z1 := z.1; clear z; (try clear cq95); (try clear cq43); omega)
                                                                                                                                                                                                                                                                                                                                                                                                                  else hg k (by (try clear cq95); (try clear cq43); omega)) (by (try clear cq95); (try clear cq43); omega)
                      · skip
                        refine g_iconst rfl ?_
                        refine g_zret rfl (by (try clear cq95); (try clear cq43); omega) ?_
                        refine ⟨rfl, (if_neg (fun z => ?_)).symm⟩
                        exact ((bt_iff.mp z).1 i (by (try clear cq95); (try clear cq43); omega)).2 ⟨⟨by (try clear cq95); (try clear cq43); omega, by (try clear cq95); (try clear cq43); omega, by (try clear cq95); (try clear cq43); omega, by (try clear cq95); (try clear cq43); omega⟩, cq95⟩
            · skip
              refine g_iconst rfl ?_
              refine g_zret rfl (by (try clear cq95); (try clear cq43); omega) ?_
              refine ⟨rfl, (if_neg (fun z => ?_)).symm⟩
              exact ((bt_iff.mp z).1 i (by (try clear cq95); (try clear cq43); omega)).1 ⟨⟨by (try clear cq95); (try clear cq43); omega, by (try clear cq95); (try clear cq43); omega⟩, cq43⟩
  refine g_iconst rfl ?_
  refine g_istore (l1 := [(4, aI 0), (0, aO (some (c + 11))), (1, aI ((p : Int))), (2, aI ((a : Int))), (3, aI ((b : Int)))]) rfl rfl ?_
  exact l3 _ 0 (by (try clear cq95); (try clear cq43); omega) (by exact fun k h1 => by omega) (Nat.lt_succ_self _)
