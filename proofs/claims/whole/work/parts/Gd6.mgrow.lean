/-! the reference's figures: growing: printed by wip/whole/if_.py (If) -/
def stp4 (p : Int × Int) (w : Nat) : Int × Int := (p.1 + (if w = 0 then 1 else if w = 1 then -1 else 0), p.2 + (if w = 2 then 1 else if w = 3 then -1 else 0))
def gwN (f k w : Nat) : List Nat := if w = 0 then gw0 f k else if w = 1 then gw1 f k else if w = 2 then gw2 f k else gw3 f k
theorem gr4_w {f k x : Nat} : x ∈ gr4 f k ↔ ∃ w, w < 4 ∧ x ∈ gwN f k w := by
  unfold gr4
  rw [List.mem_append, List.mem_append, List.mem_append]
  constructor
  · rintro (h | h | h | h)
    · exact ⟨0, by omega, h⟩
    · exact ⟨1, by omega, h⟩
    · exact ⟨2, by omega, h⟩
    · exact ⟨3, by omega, h⟩
  · rintro ⟨w, hw, h⟩
    rcases (show w = 0 ∨ w = 1 ∨ w = 2 ∨ w = 3 by omega) with e | e | e | e <;> subst e
    · exact Or.inl h
    · exact Or.inr (Or.inl h)
    · exact Or.inr (Or.inr (Or.inl h))
    · exact Or.inr (Or.inr (Or.inr h))
def tkB (P : List (Int × Int)) (x y : Int) (j : Nat) : Bool := (P.take j).any (fun p => decide (p.1 = x) && decide (p.2 = y))
theorem tkB_succ {P : List (Int × Int)} {x y : Int} {j : Nat} (hj : j < P.length) : tkB P x y (j + 1) = (tkB P x y j || (decide ((P.getD j pzz).1 = x) && decide ((P.getD j pzz).2 = y))) := by
  unfold tkB
  rw [take_gD P pzz hj, List.any_append]
  simp
theorem tk_a {P : List (Int × Int)} {x y : Int} {j : Nat} (hj : j < P.length) (h : tkB P x y j = true) : tkB P x y (j + 1) = true := by
  rw [tkB_succ hj, h]
  rfl
theorem tk_b {P : List (Int × Int)} {x y : Int} {j : Nat} (hj : j < P.length) (h1 : (P.getD j pzz).1 = x) (h2 : (P.getD j pzz).2 = y) : tkB P x y (j + 1) = true := by
  rw [tkB_succ hj, decide_eq_true h1, decide_eq_true h2, Bool.and_true, Bool.or_true]
theorem tk_n {P : List (Int × Int)} {x y : Int} {j : Nat} (hj : j < P.length) (h : ¬ tkB P x y j = true) (h1 : ¬((P.getD j pzz).1 = x ∧ (P.getD j pzz).2 = y)) : ¬ tkB P x y (j + 1) = true := by
  rw [tkB_succ hj, Bool.or_eq_true, Bool.and_eq_true, decide_eq_true_eq, decide_eq_true_eq]
  intro q
  rcases q with q | q
  · exact h q
  · exact h1 q
theorem tkB_all {P : List (Int × Int)} {x y : Int} {j : Nat} (hj : P.length ≤ j) : tkB P x y j = true ↔ (x, y) ∈ P := by
  unfold tkB
  rw [List.take_of_length_le hj, List.any_eq_true]
  constructor
  · rintro ⟨p, hp, e⟩
    rw [Bool.and_eq_true, decide_eq_true_eq, decide_eq_true_eq] at e
    rw [show (x, y) = p from Prod.ext e.1.symm e.2.symm]
    exact hp
  · intro h
    exact ⟨(x, y), h, by rw [decide_eq_true rfl, decide_eq_true rfl]; rfl⟩
theorem nz_bit {f M : Nat} (h : Nat.beq (Nat.land f M) 0 = false) : ∃ k, f.testBit k = true ∧ M.testBit k = true := by
  refine Classical.byContradiction (fun q => ?_)
  have e : f &&& M = 0 := by
    refine nat_bits (fun i => ?_)
    rw [Nat.testBit_and, Bool.and_eq_true, Nat.zero_testBit]
    exact ⟨fun r => absurd ⟨i, r.1, r.2⟩ q, fun r => by cases r⟩
  have h2 : Nat.land f M ≠ 0 := Nat.ne_of_beq_eq_false h
  exact h2 e
theorem bx7_box {f : Nat} (h : bx7 f = true) : (∀ k, f.testBit k = true → k < 64 ∧ k % 8 ≤ 6 ∧ k / 8 ≤ 6) ∧ (∃ k, f.testBit k = true ∧ k / 8 = 0) ∧ ∃ k, f.testBit k = true ∧ k % 8 = 0 := by
  unfold bx7 at h
  rw [Bool.and_eq_true, Bool.and_eq_true, Bool.not_eq_true', Bool.not_eq_true'] at h
  refine ⟨bx_one (Nat.eq_of_beq_eq_true h.1) (by decide) (by decide +kernel), ?_, ?_⟩
  · obtain ⟨k, h1, h2⟩ := nz_bit h.2.1
    refine ⟨k, h1, ?_⟩
    have : k < 8 := by
      rcases Nat.lt_or_ge k 8 with q | q
      · exact q
      · have := Nat.testBit_lt_two_pow (show 255 < 2 ^ k from Nat.lt_of_lt_of_le (by decide : 255 < 2 ^ 8) (Nat.pow_le_pow_right (by omega) q))
        rw [this] at h2
        cases h2
    omega
  · obtain ⟨k, h1, h2⟩ := nz_bit h.2.2
    have h64 := (bx_one (Nat.eq_of_beq_eq_true h.1) (by decide) (u := 6) (v := 6) (by decide +kernel) k h1).1
    refine ⟨k, h1, ?_⟩
    have key : ∀ k < 64, Nat.testBit 72340172838076673 k = true → k % 8 = 0 := by decide +kernel
    exact key k h64 h2
theorem tXY_0 (l : List (Int × Int)) : l.map (tXY 0 false) = l := by
  have : l.map (tXY 0 false) = l.map id := List.map_congr_left (fun p _ => rfl)
  rw [this, List.map_id]
theorem celP_in {f : Nat} {x y : Int} : (x, y) ∈ celP f ↔ ∃ j, j < 64 ∧ f.testBit j = true ∧ ((j % 8 : Nat) : Int) = x ∧ ((j / 8 : Nat) : Int) = y := by
  unfold celP
  rw [List.mem_map]
  constructor
  · rintro ⟨j, hj, e⟩
    have := cel_mem.mp hj
    exact ⟨j, this.1, this.2, congrArg Prod.fst e, congrArg Prod.snd e⟩
  · rintro ⟨j, h1, h2, h3, h4⟩
    exact ⟨j, cel_mem.mpr ⟨h1, h2⟩, Prod.ext h3 h4⟩
theorem shp_push {f : Nat} (h7 : bx7 f = true) {x y : Int} {s : Nat} (hx : -1 ≤ x ∧ x ≤ 7) (hy : -1 ≤ y ∧ y ≤ 7) (hs : (s : Int) = -(min 0 x) - 8 * (min 0 y)) : shp (celP f ++ [(x, y)]) 0 false = f <<< s ||| 2 ^ (8 * y + x + s).toNat := by
  obtain ⟨hb, ⟨k0, e0, r0⟩, k1, e1, cq1⟩ := bx7_box h7
  unfold shp
  rw [tXY_0]
  have hX : loI 100 (fun p => p.1) (celP f ++ [(x, y)]) = min 0 x := by
    have g := loI_le (fun p => p.1) (celP f ++ [(x, y)]) 100
    have g1 := g.2 (((k1 % 8 : Nat) : Int), ((k1 / 8 : Nat) : Int)) (List.mem_append_left _ (celP_in.mpr ⟨k1, (hb k1 e1).1, e1, rfl, rfl⟩))
    have g2 := g.2 (x, y) (List.mem_append_right _ (List.mem_singleton.mpr rfl))
    (try dsimp only at g1 g2)
    rcases loI_at (fun p => p.1) (celP f ++ [(x, y)]) 100 with e | ⟨p, hp, e⟩
    · omega
    · rcases List.mem_append.mp hp with hp | hp
      · have := celP_b hp
        (try dsimp only at e)
        omega
      · rw [List.mem_singleton] at hp
        rw [hp] at e
        (try dsimp only at e)
        omega
  have hY : loI 100 (fun p => p.2) (celP f ++ [(x, y)]) = min 0 y := by
    have g := loI_le (fun p => p.2) (celP f ++ [(x, y)]) 100
    have g1 := g.2 (((k0 % 8 : Nat) : Int), ((k0 / 8 : Nat) : Int)) (List.mem_append_left _ (celP_in.mpr ⟨k0, (hb k0 e0).1, e0, rfl, rfl⟩))
    have g2 := g.2 (x, y) (List.mem_append_right _ (List.mem_singleton.mpr rfl))
    (try dsimp only at g1 g2)
    rcases loI_at (fun p => p.2) (celP f ++ [(x, y)]) 100 with e | ⟨p, hp, e⟩
    · omega
    · rcases List.mem_append.mp hp with hp | hp
      · have := celP_b hp
        (try dsimp only at e)
        omega
      · rw [List.mem_singleton] at hp
        rw [hp] at e
        (try dsimp only at e)
        omega
  unfold gm
  rw [hX, hY]
  refine nat_bits (fun i => ?_)
  rw [gmB_bit, Nat.testBit_or, Bool.or_eq_true, Nat.testBit_shiftLeft, Bool.and_eq_true, decide_eq_true_eq, Nat.testBit_two_pow, decide_eq_true_eq, Nat.zero_testBit]
  constructor
  · rintro (h | ⟨p, hp, h⟩)
    · cases h
    · rcases List.mem_append.mp hp with hp | hp
      · obtain ⟨j, j64, jb, ex, ey⟩ := celP_in.mp (show (p.1, p.2) ∈ celP f from hp)
        refine Or.inl ⟨by omega, ?_⟩
        rw [show i - s = j by omega]
        exact jb
      · rw [List.mem_singleton] at hp
        rw [hp] at h
        (try dsimp only at h)
        exact Or.inr (by omega)
  · rintro (⟨h1, h2⟩ | h)
    · have hb2 := hb _ h2
      refine Or.inr ⟨((((i - s) % 8 : Nat) : Int), (((i - s) / 8 : Nat) : Int)), List.mem_append_left _ (celP_in.mpr ⟨i - s, hb2.1, h2, rfl, rfl⟩), ?_⟩
      dsimp only
      omega
    · refine Or.inr ⟨(x, y), List.mem_append_right _ (List.mem_singleton.mpr rfl), ?_⟩
      dsimp only
      omega
/-- one way from a cell -/
theorem way_eq {f : Nat} (h7 : bx7 f = true) {k : Nat} (hk : f.testBit k = true) {w : Nat} (hw : w < 4) {x y : Int} (hxy : (x, y) = stp4 (((k % 8 : Nat) : Int), ((k / 8 : Nat) : Int)) w) : ((x, y) ∈ celP f → gwN f k w = []) ∧ ((x, y) ∉ celP f → gwN f k w = [shp (celP f ++ [(x, y)]) 0 false]) ∧ (-1 ≤ x ∧ x ≤ 7) ∧ (-1 ≤ y ∧ y ≤ 7) ∧ ((0 ≤ x ∧ x ≤ 6) ∨ (0 ≤ y ∧ y ≤ 6)) := by
  have hb := (bx7_box h7).1
  have hkb := hb k hk
  have ex := congrArg Prod.fst hxy
  have ey := congrArg Prod.snd hxy
  unfold stp4 at ex ey
  (try dsimp only at ex ey)
  rcases (show w = 0 ∨ w = 1 ∨ w = 2 ∨ w = 3 by omega) with e | e | e | e <;> subst e
  · simp only [if_true, Nat.zero_ne_one, if_false] at ex ey
    have ex1 : x = ((k % 8 : Nat) : Int) + 1 := ex
    have ey1 : y = ((k / 8 : Nat) : Int) := by rw [ey]; simp
    refine ⟨fun hin => ?_, fun hin => ?_, by omega, by omega, by omega⟩
    · obtain ⟨j, j64, jb, e1, e2⟩ := celP_in.mp hin
      show gw0 f k = []
      unfold gw0
      rw [if_pos (by rw [show k + 1 = j by omega]; exact jb)]
    · rw [shp_push h7 (s := 0) (by omega) (by omega) (by omega)]
      show gw0 f k = _
      unfold gw0
      rw [if_neg (fun q => hin (celP_in.mpr ⟨k + 1, (hb _ q).1, q, by omega, by omega⟩)), show (8 * y + x + ((0 : Nat) : Int)).toNat = k + 1 by omega, Nat.shiftLeft_zero]
  · have ex1 : x = ((k % 8 : Nat) : Int) + -1 := ex
    have ey1 : y = ((k / 8 : Nat) : Int) + 0 := ey
    show (_ → gw1 f k = []) ∧ (_ → gw1 f k = _) ∧ _
    unfold gw1
    by_cases q0 : k % 8 = 0
    · rw [if_pos q0]
      refine ⟨fun hin => ?_, fun hin => ?_, by omega, by omega, by omega⟩
      · obtain ⟨j, j64, jb, e1, e2⟩ := celP_in.mp hin
        omega
      · rw [shp_push h7 (s := 1) (by omega) (by omega) (by omega), show (8 * y + x + ((1 : Nat) : Int)).toNat = k by omega, Nat.shiftLeft_eq]
    · rw [if_neg q0]
      refine ⟨fun hin => ?_, fun hin => ?_, by omega, by omega, by omega⟩
      · obtain ⟨j, j64, jb, e1, e2⟩ := celP_in.mp hin
        rw [if_pos (by rw [show k - 1 = j by omega]; exact jb)]
      · rw [shp_push h7 (s := 0) (by omega) (by omega) (by omega), if_neg (fun q => hin (celP_in.mpr ⟨k - 1, (hb _ q).1, q, by omega, by omega⟩)), show (8 * y + x + ((0 : Nat) : Int)).toNat = k - 1 by omega, Nat.shiftLeft_zero]
  · have ex1 : x = ((k % 8 : Nat) : Int) + 0 := ex
    have ey1 : y = ((k / 8 : Nat) : Int) + 1 := ey
    show (_ → gw2 f k = []) ∧ (_ → gw2 f k = _) ∧ _
    unfold gw2
    refine ⟨fun hin => ?_, fun hin => ?_, by omega, by omega, by omega⟩
    · obtain ⟨j, j64, jb, e1, e2⟩ := celP_in.mp hin
      rw [if_pos (by rw [show k + 8 = j by omega]; exact jb)]
    · rw [shp_push h7 (s := 0) (by omega) (by omega) (by omega), if_neg (fun q => hin (celP_in.mpr ⟨k + 8, (hb _ q).1, q, by omega, by omega⟩)), show (8 * y + x + ((0 : Nat) : Int)).toNat = k + 8 by omega, Nat.shiftLeft_zero]
  · have ex1 : x = ((k % 8 : Nat) : Int) + 0 := ex
    have ey1 : y = ((k / 8 : Nat) : Int) + -1 := ey
    show (_ → gw3 f k = []) ∧ (_ → gw3 f k = _) ∧ _
    unfold gw3
    by_cases q0 : k < 8
    · rw [if_pos q0]
      refine ⟨fun hin => ?_, fun hin => ?_, by omega, by omega, by omega⟩
      · obtain ⟨j, j64, jb, e1, e2⟩ := celP_in.mp hin
        omega
      · rw [shp_push h7 (s := 8) (by omega) (by omega) (by omega), show (8 * y + x + ((8 : Nat) : Int)).toNat = k by omega, Nat.shiftLeft_eq]
    · rw [if_neg q0]
      refine ⟨fun hin => ?_, fun hin => ?_, by omega, by omega, by omega⟩
      · obtain ⟨j, j64, jb, e1, e2⟩ := celP_in.mp hin
        rw [if_pos (by rw [show k - 8 = j by omega]; exact jb)]
      · rw [shp_push h7 (s := 0) (by omega) (by omega) (by omega), if_neg (fun q => hin (celP_in.mpr ⟨k - 8, (hb _ q).1, q, by omega, by omega⟩)), show (8 * y + x + ((0 : Nat) : Int)).toNat = k - 8 by omega, Nat.shiftLeft_zero]
/-- what came of the cells so far -/
def DN (f k w x : Nat) : Prop := ∃ k2 w2, (k2 < k ∨ (k2 = k ∧ w2 < w)) ∧ w2 < 4 ∧ k2 < (cel f).length ∧ x ∈ gwN f ((cel f).getD k2 0) w2
theorem DN_0 {f x : Nat} : ¬ DN f 0 0 x := by
  rintro ⟨k2, w2, h, -⟩
  omega
theorem DN_w {f k w x : Nat} (hw : w < 4) (hk : k < (cel f).length) : DN f k (w + 1) x ↔ DN f k w x ∨ x ∈ gwN f ((cel f).getD k 0) w := by
  constructor
  · rintro ⟨k2, w2, h1, h2, h3, h4⟩
    by_cases e : k2 = k ∧ w2 = w
    · rw [e.1, e.2] at h4
      exact Or.inr h4
    · exact Or.inl ⟨k2, w2, by omega, h2, h3, h4⟩
  · rintro (⟨k2, w2, h1, h2, h3, h4⟩ | h)
    · exact ⟨k2, w2, by omega, h2, h3, h4⟩
    · exact ⟨k, w, by omega, hw, hk, h⟩
theorem DN_k {f k x : Nat} : DN f k 4 x ↔ DN f (k + 1) 0 x := by
  constructor
  · rintro ⟨k2, w2, h1, h2, h3, h4⟩
    exact ⟨k2, w2, by omega, h2, h3, h4⟩
  · rintro ⟨k2, w2, h1, h2, h3, h4⟩
    exact ⟨k2, w2, by omega, h2, h3, h4⟩
theorem DN_gro {f k w x : Nat} (h : DN f k w x) : x ∈ gro f := by
  obtain ⟨k2, w2, h1, h2, h3, h4⟩ := h
  exact List.mem_flatMap.mpr ⟨_, getD_inN h3, gr4_w.mpr ⟨w2, h2, h4⟩⟩
theorem DN_end {f x : Nat} : DN f (cel f).length 0 x ↔ x ∈ gro f := by
  constructor
  · exact DN_gro
  · intro h
    obtain ⟨c, hc, hx⟩ := List.mem_flatMap.mp h
    obtain ⟨k2, hk, e⟩ := in_getD hc
    obtain ⟨w, hw, hx2⟩ := gr4_w.mp hx
    exact ⟨k2, w, by omega, hw, hk, by rw [e]; exact hx2⟩
theorem GM.fr {V V1 : Nat → Nat → Int} {o : Nat} {G : List Nat} (g : GM V o G) (h : V1 (o + 20) = V (o + 20)) : GM V1 o G := by
  unfold GM
  rw [h]
  exact g
theorem srt_len {G T : List Nat} (hG : SrtG G) (h : ∀ x ∈ G, x ∈ T) : G.length ≤ T.length := ndp_len hG.nd h
theorem CL.push {V : Nat → Nat → Int} {o n : Nat} {P : List (Int × Int)} (c : CL V o P) (hn : P.length = n) (h8 : n < 8) (x y : Int) : CL (vset (vset V (o + 21) n x) (o + 22) n y) o (P ++ [(x, y)]) := by
  subst hn
  refine ⟨by rw [List.length_append]; simp; omega, fun i hi => ?_⟩
  rw [List.length_append, List.length_singleton] at hi
  rw [List.getD_eq_getElem?_getD, List.getElem?_append]
  by_cases e : i = P.length
  · subst e
    rw [if_neg (by omega), Nat.sub_self, vset_ne _ _ _ _ (by omega), vset_eq, vset_eq]
    exact ⟨rfl, rfl⟩
  · rw [if_pos (by omega), vset_ne _ _ _ _ (by omega), vset_ne _ _ _ _ (by omega), vset_ne _ _ _ _ (by omega), vset_ne _ _ _ _ (by omega), ← List.getD_eq_getElem?_getD]
    exact c.2 i (by omega)
theorem push_box {f : Nat} (h7 : bx7 f = true) {x y : Int} (hx : -1 ≤ x ∧ x ≤ 7) (hy : -1 ≤ y ∧ y ≤ 7) (hxy : (0 ≤ x ∧ x ≤ 6) ∨ (0 ≤ y ∧ y ≤ 6)) : BoxP (celP f ++ [(x, y)]) := by
  have hb := (bx7_box h7).1
  have hc : ∀ p ∈ celP f, (0 ≤ p.1 ∧ p.1 ≤ 6) ∧ 0 ≤ p.2 ∧ p.2 ≤ 6 := by
    intro p hp
    obtain ⟨j, j64, jb, ex, ey⟩ := celP_in.mp (show (p.1, p.2) ∈ celP f from hp)
    have := hb j jb
    omega
  rcases hxy with q | q
  · refine ⟨0, min 0 y, 6, 7, by omega, by omega, by omega, by omega, by omega, by omega, by omega, by omega, fun p hp => ?_⟩
    rcases List.mem_append.mp hp with hp | hp
    · have := hc p hp
      omega
    · rw [List.mem_singleton] at hp
      rw [hp]
      dsimp only
      omega
  · refine ⟨min 0 x, 0, 7, 6, by omega, by omega, by omega, by omega, by omega, by omega, by omega, by omega, fun p hp => ?_⟩
    rcases List.mem_append.mp hp with hp | hp
    · have := hc p hp
      omega
    · rw [List.mem_singleton] at hp
      rw [hp]
      dsimp only
      omega
theorem gro_len : ∀ (G T : List Nat), SrtG G → (∀ x ∈ G, x ∈ T) → T.length ≤ 2725 → G.length < 3000 := by
  intro G T hG h hT
  have := srt_len hG h
  omega
theorem bx7_bnd {f : Nat} (h7 : bx7 f = true) {i : Nat} (hi : i < (celP f).length) : (0 ≤ ((celP f).getD i pzz).1 ∧ ((celP f).getD i pzz).1 ≤ 6) ∧ 0 ≤ ((celP f).getD i pzz).2 ∧ ((celP f).getD i pzz).2 ≤ 6 := by
  obtain ⟨j, j64, jb, ex, ey⟩ := celP_in.mp (show (((celP f).getD i pzz).1, ((celP f).getD i pzz).2) ∈ celP f from getD_in hi)
  have := (bx7_box h7).1 j jb
  omega
set_option maxRecDepth 100000 in
theorem m_growFig {w : aW} {d : Nat} (hd : 4 ≤ d) {h : aH} {o : Nat} (ms : MS h o) (V : Nat → Nat → Int) (f s : Nat) (h7 : bx7 f = true) (hs : (cel f).length = s) (hs7 : s ≤ 7) (G : List Nat) (gm : GM V o G) (T : List Nat) (hT3 : T.length ≤ 2725) (hG : ∀ x ∈ G, x ∈ T) (hT : ∀ x ∈ gro f, x ∈ T) : WP w d 377 [aO (some o), aJ ((f : Int)), aI ((s : Int)), aI ((G.length : Int))] (hw h V) (RI (fun r h1 => ∃ V1 R, h1 = hw h V1 ∧ (∀ a, a ≠ o + 20 → a ≠ o + 21 → a ≠ o + 22 → V1 a = V a) ∧ GM V1 o R ∧ (∀ x, x ∈ R ↔ x ∈ G ∨ x ∈ gro f) ∧ r = (R.length : Int))) := by
  obtain ⟨d, rfl⟩ : ∃ d1, d = d1 + 1 := ⟨d - 1, by omega⟩
  refine WP.enter (cd := cd_X12_growFigure) rfl ?_
  have hlP : (celP f).length = s := by rw [celP_len, hs]
  have hls : largs 0 [aO (some o), aJ ((f : Int)), aI ((s : Int)), aI ((G.length : Int))] = [(0, aO (some o)), (1, aJ ((f : Int))), (3, aI ((s : Int))), (4, aI ((G.length : Int)))] := rfl
  rw [hls]
  clear hls
  have l7 : ∀ (fuel : Nat) (k : Nat) (V1 : Nat → Nat → Int) (G1 : List Nat), (k ≤ s) → (∀ a, a ≠ o + 20 → a ≠ o + 21 → a ≠ o + 22 → V1 a = V a) → (GM V1 o G1) → (∀ x, x ∈ G1 ↔ x ∈ G ∨ DN f k 0 x) → s - k < fuel → Wk w d cd_X12_growFigure 7 [(6, aI ((k : Int))), (5, aI ((G1.length : Int))), (0, aO (some o)), (1, aJ ((f : Int))), (3, aI ((s : Int)))] [] (hw h V1) (RI (fun r h1 => ∃ V1 R, h1 = hw h V1 ∧ (∀ a, a ≠ o + 20 → a ≠ o + 21 → a ≠ o + 22 → V1 a = V a) ∧ GM V1 o R ∧ (∀ x, x ∈ R ↔ x ∈ G ∨ x ∈ gro f) ∧ r = (R.length : Int))) := by
    intro fuel
    induction fuel with
    | zero => intros; omega
    | succ fuel ih7 =>
      intro k V1 G1 hk hf1 gm1 hm1 hfuel
      have l16 : ∀ (fuel : Nat) (u : Nat) (V2 : Nat → Nat → Int) (G2 : List Nat), (k < s) → (u ≤ 4) → (∀ a, a ≠ o + 20 → a ≠ o + 21 → a ≠ o + 22 → V2 a = V a) → (GM V2 o G2) → (∀ x, x ∈ G2 ↔ x ∈ G ∨ DN f k u x) → 4 - u < fuel → Wk w d cd_X12_growFigure 16 [(7, aI ((u : Int))), (6, aI ((k : Int))), (5, aI ((G2.length : Int))), (0, aO (some o)), (1, aJ ((f : Int))), (3, aI ((s : Int)))] [] (hw h V2) (RI (fun r h1 => ∃ V1 R, h1 = hw h V1 ∧ (∀ a, a ≠ o + 20 → a ≠ o + 21 → a ≠ o + 22 → V1 a = V a) ∧ GM V1 o R ∧ (∀ x, x ∈ R ↔ x ∈ G ∨ x ∈ gro f) ∧ r = (R.length : Int))) := by
        intro fuel
        induction fuel with
        | zero => intros; omega
        | succ fuel ih16 =>
          intro u V2 G2 hks hw4 hf2 gm2 hm2 hfuel
          have hg3 : G2.length < 3000 := gro_len G2 T gm2.1 (fun x hx => ((hm2 x).mp hx).elim (hG x) (fun r => hT x (DN_gro r))) hT3
          have j88 : ∀ (x y : Int) (V3 : Nat → Nat → Int), (u < 4) → (∀ a, a ≠ o + 21 → a ≠ o + 22 → V3 a = V2 a) → (CL V3 o (celP f)) → (GM V3 o G2) → ((x, y) = stp4 ((celP f).getD k pzz) u) → Wk w d cd_X12_growFigure 88 [(9, aI y), (8, aI x), (7, aI ((u : Int))), (6, aI ((k : Int))), (5, aI ((G2.length : Int))), (0, aO (some o)), (1, aJ ((f : Int))), (3, aI ((s : Int)))] [] (hw h V3) (RI (fun r h1 => ∃ V1 R, h1 = hw h V1 ∧ (∀ a, a ≠ o + 20 → a ≠ o + 21 → a ≠ o + 22 → V1 a = V a) ∧ GM V1 o R ∧ (∀ x, x ∈ R ↔ x ∈ G ∨ x ∈ gro f) ∧ r = (R.length : Int))) := by
            intro x y V3 hw3 hf3 cl3 gm3 hxy
            have hl3 := cl3.1
            have hcm : (cel f).getD k 0 ∈ cel f := getD_inN (by omega)
            have wy := way_eq h7 (cel_mem.mp hcm).2 hw3 (by rw [hxy, celP_at (by omega)])
            have l94 : ∀ (fuel : Nat) (j : Nat), (j ≤ s) → s - j < fuel → Wk w d cd_X12_growFigure 94 [(11, aI ((j : Int))), (10, aI (if tkB (celP f) x y j = true then 1 else 0)), (9, aI y), (8, aI x), (7, aI ((u : Int))), (6, aI ((k : Int))), (5, aI ((G2.length : Int))), (0, aO (some o)), (1, aJ ((f : Int))), (3, aI ((s : Int)))] [] (hw h V3) (RI (fun r h1 => ∃ V1 R, h1 = hw h V1 ∧ (∀ a, a ≠ o + 20 → a ≠ o + 21 → a ≠ o + 22 → V1 a = V a) ∧ GM V1 o R ∧ (∀ x, x ∈ R ↔ x ∈ G ∨ x ∈ gro f) ∧ r = (R.length : Int))) := by
              intro fuel
              induction fuel with
              | zero => intros; omega
              | succ fuel ih94 =>
                intro j hj hfuel
                have j134 : (j < s) → Wk w d cd_X12_growFigure 134 [(11, aI ((j : Int))), (10, aI (if tkB (celP f) x y j = true then 1 else 0)), (9, aI y), (8, aI x), (7, aI ((u : Int))), (6, aI ((k : Int))), (5, aI ((G2.length : Int))), (0, aO (some o)), (1, aJ ((f : Int))), (3, aI ((s : Int)))] [aI (if tkB (celP f) x y (j + 1) = true then 1 else 0)] (hw h V3) (RI (fun r h1 => ∃ V1 R, h1 = hw h V1 ∧ (∀ a, a ≠ o + 20 → a ≠ o + 21 → a ≠ o + 22 → V1 a = V a) ∧ GM V1 o R ∧ (∀ x, x ∈ R ↔ x ∈ G ∨ x ∈ gro f) ∧ r = (R.length : Int))) := by
                  intro hj2
                  refine g_istore (l1 := [(10, aI (if tkB (celP f) x y (j + 1) = true then 1 else 0)), (11, aI ((j : Int))), (9, aI y), (8, aI x), (7, aI ((u : Int))), (6, aI ((k : Int))), (5, aI ((G2.length : Int))), (0, aO (some o)), (1, aJ ((f : Int))), (3, aI ((s : Int)))]) rfl rfl ?_
                  refine g_iinc (l1 := [(11, aI ((j : Int) + 1)), (10, aI (if tkB (celP f) x y (j + 1) = true then 1 else 0)), (9, aI y), (8, aI x), (7, aI ((u : Int))), (6, aI ((k : Int))), (5, aI ((G2.length : Int))), (0, aO (some o)), (1, aJ ((f : Int))), (3, aI ((s : Int)))]) rfl rfl (by omega) (by omega) rfl ?_
                  refine g_goto rfl ?_
                  exact ih94 (j + 1) (by omega) (by omega)
                refine g_iload rfl rfl ?_
                refine g_iload_n rfl rfl ?_
                refine g_icmp_ge rfl (fun cq97 => ?_) (fun cq97 => ?_)
                · skip
                  refine g_iload rfl rfl ?_
                  refine g_b_ne rfl (fun cq144 => ?_) (fun cq144 => ?_)
                  · skip
                    first
                      | (have hyi : (x, y) ∈ celP f := (tkB_all (by omega)).mp cq144
                         have hmO : ∀ x2, x2 ∈ G2 ↔ x2 ∈ G ∨ DN f k (u + 1) x2 := by
                           intro x2
                           rw [DN_w hw3 (by omega), wy.1 hyi, hm2]
                           simp)
                      | (have hfN : ∀ a, a ≠ o + 20 → a ≠ o + 21 → a ≠ o + 22 → V6 a = V a := by
                           intro a q1 q2 q3
                           rw [hf6 a q1, eV5]
                           funext z
                           rw [vset_ne _ _ _ _ (by omega), vset_ne _ _ _ _ (by omega), hf3 a q2 q3, hf2 a q1 q2 q3]
                         have hmN : ∀ x2, x2 ∈ R ↔ x2 ∈ G ∨ DN f k (u + 1) x2 := by
                           intro x2
                           rw [DN_w hw3 (by omega), wy.2.1 hni, hm6, hm2, List.mem_singleton, or_assoc])
                    refine g_iinc (l1 := [(7, aI ((u : Int) + 1)), (11, aI ((j : Int))), (10, aI (if tkB (celP f) x y j = true then 1 else 0)), (9, aI y), (8, aI x), (6, aI ((k : Int))), (5, aI ((G2.length : Int))), (0, aO (some o)), (1, aJ ((f : Int))), (3, aI ((s : Int)))]) rfl rfl (by omega) (by omega) rfl ?_
                    refine g_goto rfl ?_
                    refine g_ls [0, 5, 6, 7, 8, 9] rfl rfl ?_
                    exact ih16 (u + 1) _ _ (by omega) (by omega) (by first | exact hfN | exact (fun a q1 q2 q3 => by rw [hf3 a q2 q3, hf2 a q1 q2 q3])) (by first | exact gm6 | exact gm3) (by first | exact hmN | exact hmO) (by omega)
                  · skip
                    have hni : (x, y) ∉ celP f := fun q => cq144 ((tkB_all (by omega)).mpr q)
                    refine g_aload_n rfl rfl ?_
                    refine g_getR rfl ms.1 (mr_cellX ms) ?_
                    refine g_iload_n rfl rfl ?_
                    refine g_iload rfl rfl ?_
                    refine g_iast (i := s) rfl (mt_cellX ms) (by omega) (by omega) ?_
                    refine g_hp (h2 := hw h (vset V3 (o + 21) s x)) rfl ?_
                    refine g_aload_n rfl rfl ?_
                    refine g_getR rfl ms.1 (mr_cellY ms) ?_
                    refine g_iload_n rfl rfl ?_
                    refine g_iload rfl rfl ?_
                    refine g_iast (i := s) rfl (mt_cellY ms) (by omega) (by omega) ?_
                    obtain ⟨V5, eV5⟩ : ∃ W, W = vset (vset V3 (o + 21) s x) (o + 22) s y := ⟨_, rfl⟩
                    refine g_hp (h2 := hw h V5) (by rw [eV5]; rfl) ?_
                    have cl5 : CL V5 o (celP f ++ [(x, y)]) := by rw [eV5]; exact cl3.push hlP (by omega) x y
                    have gm5 : GM V5 o G2 := by rw [eV5]; exact gm3.fr (by funext z; rw [vset_ne _ _ _ _ (by omega), vset_ne _ _ _ _ (by omega)])
                    refine g_aload_n rfl rfl ?_
                    refine g_aload_n rfl rfl ?_
                    refine g_iload_n rfl rfl ?_
                    refine g_iconst rfl ?_
                    refine g_iadd rfl (by omega) (by omega) ?_
                    refine g_iconst rfl ?_
                    refine g_iconst rfl ?_
                    refine g_callVJ [aI (((s : Int)) + 1), aI 0, aI 0] [aO (some o)] rfl rfl rfl rfl (Nat.le_of_ble_eq_true rfl) ms.1 (m_shape (by omega) ms V5 (celP f ++ [(x, y)]) cl5 (s + 1) (by rw [List.length_append, hlP]; rfl) (push_box h7 wy.2.2.1 wy.2.2.2.1 wy.2.2.2.2) 0 false) ?_
                    rintro _ _ ⟨rfl, rfl⟩
                    refine g_iload rfl rfl ?_
                    refine g_callVI [aJ (((shp (celP f ++ [(x, y)]) 0 false : Nat) : Int)), aI ((G2.length : Int))] [] rfl rfl rfl rfl (Nat.le_of_ble_eq_true rfl) ms.1 (m_addFig (by omega) ms V5 G2 gm5 hg3 (shp (celP f ++ [(x, y)]) 0 false)) ?_
                    rintro _ _ ⟨V6, R, rfl, hf6, gm6, hm6, rfl⟩
                    refine g_istore (l1 := [(5, aI ((R.length : Int))), (11, aI ((j : Int))), (10, aI (if tkB (celP f) x y j = true then 1 else 0)), (9, aI y), (8, aI x), (7, aI ((u : Int))), (6, aI ((k : Int))), (0, aO (some o)), (1, aJ ((f : Int))), (3, aI ((s : Int)))]) rfl rfl ?_
                    first
                      | (have hyi : (x, y) ∈ celP f := (tkB_all (by omega)).mp cq144
                         have hmO : ∀ x2, x2 ∈ G2 ↔ x2 ∈ G ∨ DN f k (u + 1) x2 := by
                           intro x2
                           rw [DN_w hw3 (by omega), wy.1 hyi, hm2]
                           simp)
                      | (have hfN : ∀ a, a ≠ o + 20 → a ≠ o + 21 → a ≠ o + 22 → V6 a = V a := by
                           intro a q1 q2 q3
                           rw [hf6 a q1, eV5]
                           funext z
                           rw [vset_ne _ _ _ _ (by omega), vset_ne _ _ _ _ (by omega), hf3 a q2 q3, hf2 a q1 q2 q3]
                         have hmN : ∀ x2, x2 ∈ R ↔ x2 ∈ G ∨ DN f k (u + 1) x2 := by
                           intro x2
                           rw [DN_w hw3 (by omega), wy.2.1 hni, hm6, hm2, List.mem_singleton, or_assoc])
                    refine g_iinc (l1 := [(7, aI ((u : Int) + 1)), (5, aI ((R.length : Int))), (11, aI ((j : Int))), (10, aI (if tkB (celP f) x y j = true then 1 else 0)), (9, aI y), (8, aI x), (6, aI ((k : Int))), (0, aO (some o)), (1, aJ ((f : Int))), (3, aI ((s : Int)))]) rfl rfl (by omega) (by omega) rfl ?_
                    refine g_goto rfl ?_
                    refine g_ls [0, 6, 1, 7, 8, 9] rfl rfl ?_
                    exact ih16 (u + 1) _ _ (by omega) (by omega) (by first | exact hfN | exact (fun a q1 q2 q3 => by rw [hf3 a q2 q3, hf2 a q1 q2 q3])) (by first | exact gm6 | exact gm3) (by first | exact hmN | exact hmO) (by omega)
                · skip
                  refine g_iload rfl rfl ?_
                  refine g_b_ne rfl (fun cq102 => ?_) (fun cq102 => ?_)
                  · skip
                    refine g_iconst rfl ?_
                    refine g_goto rfl ?_
                    refine g_top (v2 := aI (if tkB (celP f) x y (j + 1) = true then 1 else 0)) (congrArg aI (bi_t (by first | exact tk_a (by omega) cq102 | exact tk_b (by omega) (by omega) (by omega) | exact tk_n (by omega) cq102 (fun q => by omega)))) ?_
                    exact j134 (by omega)
                  · skip
                    refine g_aload_n rfl rfl ?_
                    refine g_getR rfl ms.1 (mr_cellX ms) ?_
                    refine g_iload rfl rfl ?_
                    refine g_iald (i := j) rfl (mt_cellX ms) (by omega) (by omega) ?_
                    refine g_top (v2 := aI (((celP f).getD j pzz).1)) (congrArg aI (by exact (cl3.2 j (by omega)).1)) ?_
                    refine g_iload rfl rfl ?_
                    refine g_icmp_ne rfl (fun cq114 => ?_) (fun cq114 => ?_)
                    · skip
                      refine g_iconst rfl ?_
                      refine g_top (v2 := aI (if tkB (celP f) x y (j + 1) = true then 1 else 0)) (congrArg aI (bi_f (by first | exact tk_a (by omega) cq102 | exact tk_b (by omega) (by omega) (by omega) | exact tk_n (by omega) cq102 (fun q => by omega)))) ?_
                      exact j134 (by omega)
                    · skip
                      refine g_aload_n rfl rfl ?_
                      refine g_getR rfl ms.1 (mr_cellY ms) ?_
                      refine g_iload rfl rfl ?_
                      refine g_iald (i := j) rfl (mt_cellY ms) (by omega) (by omega) ?_
                      refine g_top (v2 := aI (((celP f).getD j pzz).2)) (congrArg aI (by exact (cl3.2 j (by omega)).2)) ?_
                      refine g_iload rfl rfl ?_
                      refine g_icmp_ne rfl (fun cq126 => ?_) (fun cq126 => ?_)
                      · skip
                        refine g_iconst rfl ?_
                        refine g_top (v2 := aI (if tkB (celP f) x y (j + 1) = true then 1 else 0)) (congrArg aI (bi_f (by first | exact tk_a (by omega) cq102 | exact tk_b (by omega) (by omega) (by omega) | exact tk_n (by omega) cq102 (fun q => by omega)))) ?_
                        exact j134 (by omega)
                      · skip
                        refine g_iconst rfl ?_
                        refine g_goto rfl ?_
                        refine g_top (v2 := aI (if tkB (celP f) x y (j + 1) = true then 1 else 0)) (congrArg aI (bi_t (by first | exact tk_a (by omega) cq102 | exact tk_b (by omega) (by omega) (by omega) | exact tk_n (by omega) cq102 (fun q => by omega)))) ?_
                        exact j134 (by omega)
            refine g_iconst rfl ?_
            refine g_top (v2 := aI (if tkB (celP f) x y 0 = true then 1 else 0)) (congrArg aI (by show (0 : Int) = if tkB (celP f) x y 0 = true then 1 else 0; unfold tkB; simp)) ?_
            refine g_istore (l1 := [(10, aI (if tkB (celP f) x y 0 = true then 1 else 0)), (9, aI y), (8, aI x), (7, aI ((u : Int))), (6, aI ((k : Int))), (5, aI ((G2.length : Int))), (0, aO (some o)), (1, aJ ((f : Int))), (3, aI ((s : Int)))]) rfl rfl ?_
            refine g_iconst rfl ?_
            refine g_istore (l1 := [(11, aI 0), (10, aI (if tkB (celP f) x y 0 = true then 1 else 0)), (9, aI y), (8, aI x), (7, aI ((u : Int))), (6, aI ((k : Int))), (5, aI ((G2.length : Int))), (0, aO (some o)), (1, aJ ((f : Int))), (3, aI ((s : Int)))]) rfl rfl ?_
            exact l94 _ 0 (by omega) (Nat.lt_succ_self _)
          refine g_iload rfl rfl ?_
          refine g_iconst rfl ?_
          refine g_icmp_ge rfl (fun cq19 => ?_) (fun cq19 => ?_)
          · skip
            refine g_iinc (l1 := [(6, aI ((k : Int) + 1)), (7, aI ((u : Int))), (5, aI ((G2.length : Int))), (0, aO (some o)), (1, aJ ((f : Int))), (3, aI ((s : Int)))]) rfl rfl (by omega) (by omega) rfl ?_
            refine g_goto rfl ?_
            refine g_ls [0, 2, 3, 4, 5] rfl rfl ?_
            exact ih7 (k + 1) _ _ (by omega) (by exact hf2) (by exact gm2) (by exact fun x => by rw [← DN_k, show (4 : Nat) = u by omega]; exact hm2 x) (by omega)
          · skip
            refine g_aload_n rfl rfl ?_
            refine g_lload_n rfl rfl ?_
            refine g_callVN [aJ ((f : Int))] [] rfl rfl rfl rfl (Nat.le_of_ble_eq_true rfl) ms.1 (m_cellsOf (by omega) ms V2 f (by omega)) ?_
            rintro _ ⟨V3, rfl, hf3, cl3⟩
            have gm3 : GM V3 o G2 := gm2.fr (hf3 _ (by omega) (by omega))
            have hl3 := cl3.1
            refine g_aload_n rfl rfl ?_
            refine g_getR rfl ms.1 (mr_cellX ms) ?_
            refine g_iload rfl rfl ?_
            have hB3 := bx7_bnd h7 (i := k) (by omega)
            refine g_iald (i := k) rfl (mt_cellX ms) (by omega) (by omega) ?_
            refine g_top (v2 := aI (((celP f).getD k pzz).1)) (congrArg aI (by exact (cl3.2 k (by omega)).1)) ?_
            refine g_iload rfl rfl ?_
            refine g_if_ne rfl (fun cq36 => ?_) (fun cq36 => ?_)
            · skip
              refine g_iload rfl rfl ?_
              refine g_iconst rfl ?_
              refine g_icmp_ne rfl (fun cq46 => ?_) (fun cq46 => ?_)
              · skip
                refine g_iconst rfl ?_
                refine g_iadd rfl (by omega) (by omega) ?_
                refine g_istore (l1 := [(8, aI ((((celP f).getD k pzz).1) + 0)), (7, aI ((u : Int))), (6, aI ((k : Int))), (5, aI ((G2.length : Int))), (0, aO (some o)), (1, aJ ((f : Int))), (3, aI ((s : Int)))]) rfl rfl ?_
                refine g_aload_n rfl rfl ?_
                refine g_getR rfl ms.1 (mr_cellY ms) ?_
                refine g_iload rfl rfl ?_
                refine g_iald (i := k) rfl (mt_cellY ms) (by omega) (by omega) ?_
                refine g_top (v2 := aI (((celP f).getD k pzz).2)) (congrArg aI (by exact (cl3.2 k (by omega)).2)) ?_
                refine g_iload rfl rfl ?_
                refine g_iconst rfl ?_
                refine g_icmp_ne rfl (fun cq67 => ?_) (fun cq67 => ?_)
                · skip
                  refine g_iload rfl rfl ?_
                  refine g_iconst rfl ?_
                  refine g_icmp_ne rfl (fun cq77 => ?_) (fun cq77 => ?_)
                  · skip
                    refine g_iconst rfl ?_
                    refine g_iadd rfl (by omega) (by omega) ?_
                    refine g_istore (l1 := [(9, aI ((((celP f).getD k pzz).2) + 0)), (8, aI ((((celP f).getD k pzz).1) + 0)), (7, aI ((u : Int))), (6, aI ((k : Int))), (5, aI ((G2.length : Int))), (0, aO (some o)), (1, aJ ((f : Int))), (3, aI ((s : Int)))]) rfl rfl ?_
                    exact j88 _ _ _ (by omega) (by exact hf3) (by exact cl3) (by exact gm3) (by first | (exfalso; omega) | (unfold stp4; refine Prod.ext ?_ ?_ <;> dsimp only <;> (repeat' split) <;> omega))
                  · skip
                    refine g_iconst rfl ?_
                    refine g_goto rfl ?_
                    refine g_iadd rfl (by omega) (by omega) ?_
                    refine g_istore (l1 := [(9, aI ((((celP f).getD k pzz).2) + ((-1)))), (8, aI ((((celP f).getD k pzz).1) + 0)), (7, aI ((u : Int))), (6, aI ((k : Int))), (5, aI ((G2.length : Int))), (0, aO (some o)), (1, aJ ((f : Int))), (3, aI ((s : Int)))]) rfl rfl ?_
                    exact j88 _ _ _ (by omega) (by exact hf3) (by exact cl3) (by exact gm3) (by first | (exfalso; omega) | (unfold stp4; refine Prod.ext ?_ ?_ <;> dsimp only <;> (repeat' split) <;> omega))
                · skip
                  refine g_iconst rfl ?_
                  refine g_goto rfl ?_
                  refine g_iadd rfl (by omega) (by omega) ?_
                  refine g_istore (l1 := [(9, aI ((((celP f).getD k pzz).2) + 1)), (8, aI ((((celP f).getD k pzz).1) + 0)), (7, aI ((u : Int))), (6, aI ((k : Int))), (5, aI ((G2.length : Int))), (0, aO (some o)), (1, aJ ((f : Int))), (3, aI ((s : Int)))]) rfl rfl ?_
                  exact j88 _ _ _ (by omega) (by exact hf3) (by exact cl3) (by exact gm3) (by first | (exfalso; omega) | (unfold stp4; refine Prod.ext ?_ ?_ <;> dsimp only <;> (repeat' split) <;> omega))
              · skip
                refine g_iconst rfl ?_
                refine g_goto rfl ?_
                refine g_iadd rfl (by omega) (by omega) ?_
                refine g_istore (l1 := [(8, aI ((((celP f).getD k pzz).1) + ((-1)))), (7, aI ((u : Int))), (6, aI ((k : Int))), (5, aI ((G2.length : Int))), (0, aO (some o)), (1, aJ ((f : Int))), (3, aI ((s : Int)))]) rfl rfl ?_
                refine g_aload_n rfl rfl ?_
                refine g_getR rfl ms.1 (mr_cellY ms) ?_
                refine g_iload rfl rfl ?_
                refine g_iald (i := k) rfl (mt_cellY ms) (by omega) (by omega) ?_
                refine g_top (v2 := aI (((celP f).getD k pzz).2)) (congrArg aI (by exact (cl3.2 k (by omega)).2)) ?_
                refine g_iload rfl rfl ?_
                refine g_iconst rfl ?_
                refine g_icmp_ne rfl (fun cq67 => ?_) (fun cq67 => ?_)
                · skip
                  refine g_iload rfl rfl ?_
                  refine g_iconst rfl ?_
                  refine g_icmp_ne rfl (fun cq77 => ?_) (fun cq77 => ?_)
                  · skip
                    refine g_iconst rfl ?_
                    refine g_iadd rfl (by omega) (by omega) ?_
                    refine g_istore (l1 := [(9, aI ((((celP f).getD k pzz).2) + 0)), (8, aI ((((celP f).getD k pzz).1) + ((-1)))), (7, aI ((u : Int))), (6, aI ((k : Int))), (5, aI ((G2.length : Int))), (0, aO (some o)), (1, aJ ((f : Int))), (3, aI ((s : Int)))]) rfl rfl ?_
                    exact j88 _ _ _ (by omega) (by exact hf3) (by exact cl3) (by exact gm3) (by first | (exfalso; omega) | (unfold stp4; refine Prod.ext ?_ ?_ <;> dsimp only <;> (repeat' split) <;> omega))
                  · skip
                    refine g_iconst rfl ?_
                    refine g_goto rfl ?_
                    refine g_iadd rfl (by omega) (by omega) ?_
                    refine g_istore (l1 := [(9, aI ((((celP f).getD k pzz).2) + ((-1)))), (8, aI ((((celP f).getD k pzz).1) + ((-1)))), (7, aI ((u : Int))), (6, aI ((k : Int))), (5, aI ((G2.length : Int))), (0, aO (some o)), (1, aJ ((f : Int))), (3, aI ((s : Int)))]) rfl rfl ?_
                    exact j88 _ _ _ (by omega) (by exact hf3) (by exact cl3) (by exact gm3) (by first | (exfalso; omega) | (unfold stp4; refine Prod.ext ?_ ?_ <;> dsimp only <;> (repeat' split) <;> omega))
                · skip
                  refine g_iconst rfl ?_
                  refine g_goto rfl ?_
                  refine g_iadd rfl (by omega) (by omega) ?_
                  refine g_istore (l1 := [(9, aI ((((celP f).getD k pzz).2) + 1)), (8, aI ((((celP f).getD k pzz).1) + ((-1)))), (7, aI ((u : Int))), (6, aI ((k : Int))), (5, aI ((G2.length : Int))), (0, aO (some o)), (1, aJ ((f : Int))), (3, aI ((s : Int)))]) rfl rfl ?_
                  exact j88 _ _ _ (by omega) (by exact hf3) (by exact cl3) (by exact gm3) (by first | (exfalso; omega) | (unfold stp4; refine Prod.ext ?_ ?_ <;> dsimp only <;> (repeat' split) <;> omega))
            · skip
              refine g_iconst rfl ?_
              refine g_goto rfl ?_
              refine g_iadd rfl (by omega) (by omega) ?_
              refine g_istore (l1 := [(8, aI ((((celP f).getD k pzz).1) + 1)), (7, aI ((u : Int))), (6, aI ((k : Int))), (5, aI ((G2.length : Int))), (0, aO (some o)), (1, aJ ((f : Int))), (3, aI ((s : Int)))]) rfl rfl ?_
              refine g_aload_n rfl rfl ?_
              refine g_getR rfl ms.1 (mr_cellY ms) ?_
              refine g_iload rfl rfl ?_
              refine g_iald (i := k) rfl (mt_cellY ms) (by omega) (by omega) ?_
              refine g_top (v2 := aI (((celP f).getD k pzz).2)) (congrArg aI (by exact (cl3.2 k (by omega)).2)) ?_
              refine g_iload rfl rfl ?_
              refine g_iconst rfl ?_
              refine g_icmp_ne rfl (fun cq67 => ?_) (fun cq67 => ?_)
              · skip
                refine g_iload rfl rfl ?_
                refine g_iconst rfl ?_
                refine g_icmp_ne rfl (fun cq77 => ?_) (fun cq77 => ?_)
                · skip
                  refine g_iconst rfl ?_
                  refine g_iadd rfl (by omega) (by omega) ?_
                  refine g_istore (l1 := [(9, aI ((((celP f).getD k pzz).2) + 0)), (8, aI ((((celP f).getD k pzz).1) + 1)), (7, aI ((u : Int))), (6, aI ((k : Int))), (5, aI ((G2.length : Int))), (0, aO (some o)), (1, aJ ((f : Int))), (3, aI ((s : Int)))]) rfl rfl ?_
                  exact j88 _ _ _ (by omega) (by exact hf3) (by exact cl3) (by exact gm3) (by first | (exfalso; omega) | (unfold stp4; refine Prod.ext ?_ ?_ <;> dsimp only <;> (repeat' split) <;> omega))
                · skip
                  refine g_iconst rfl ?_
                  refine g_goto rfl ?_
                  refine g_iadd rfl (by omega) (by omega) ?_
                  refine g_istore (l1 := [(9, aI ((((celP f).getD k pzz).2) + ((-1)))), (8, aI ((((celP f).getD k pzz).1) + 1)), (7, aI ((u : Int))), (6, aI ((k : Int))), (5, aI ((G2.length : Int))), (0, aO (some o)), (1, aJ ((f : Int))), (3, aI ((s : Int)))]) rfl rfl ?_
                  exact j88 _ _ _ (by omega) (by exact hf3) (by exact cl3) (by exact gm3) (by first | (exfalso; omega) | (unfold stp4; refine Prod.ext ?_ ?_ <;> dsimp only <;> (repeat' split) <;> omega))
              · skip
                refine g_iconst rfl ?_
                refine g_goto rfl ?_
                refine g_iadd rfl (by omega) (by omega) ?_
                refine g_istore (l1 := [(9, aI ((((celP f).getD k pzz).2) + 1)), (8, aI ((((celP f).getD k pzz).1) + 1)), (7, aI ((u : Int))), (6, aI ((k : Int))), (5, aI ((G2.length : Int))), (0, aO (some o)), (1, aJ ((f : Int))), (3, aI ((s : Int)))]) rfl rfl ?_
                exact j88 _ _ _ (by omega) (by exact hf3) (by exact cl3) (by exact gm3) (by first | (exfalso; omega) | (unfold stp4; refine Prod.ext ?_ ?_ <;> dsimp only <;> (repeat' split) <;> omega))
      refine g_iload rfl rfl ?_
      refine g_iload_n rfl rfl ?_
      refine g_icmp_ge rfl (fun cq10 => ?_) (fun cq10 => ?_)
      · skip
        refine g_iload rfl rfl ?_
        refine g_iret rfl ?_
        refine ⟨V1, G1, rfl, hf1, gm1, fun x => ?_, rfl⟩
        rw [hm1, show k = (cel f).length by omega, DN_end]
      · skip
        refine g_iconst rfl ?_
        refine g_istore (l1 := [(7, aI 0), (6, aI ((k : Int))), (5, aI ((G1.length : Int))), (0, aO (some o)), (1, aJ ((f : Int))), (3, aI ((s : Int)))]) rfl rfl ?_
        exact l16 _ 0 V1 G1 (by omega) (by omega) (by exact hf1) (by exact gm1) (by exact hm1) (Nat.lt_succ_self _)
  refine g_iload rfl rfl ?_
  refine g_istore (l1 := [(5, aI ((G.length : Int))), (0, aO (some o)), (1, aJ ((f : Int))), (3, aI ((s : Int))), (4, aI ((G.length : Int)))]) rfl rfl ?_
  refine g_iconst rfl ?_
  refine g_istore (l1 := [(6, aI 0), (5, aI ((G.length : Int))), (0, aO (some o)), (1, aJ ((f : Int))), (3, aI ((s : Int))), (4, aI ((G.length : Int)))]) rfl rfl ?_
  refine g_ls [0, 1, 2, 3, 4] rfl rfl ?_
  exact l7 _ 0 V G (by omega) (by exact fun a _ _ _ => rfl) (by exact gm) (by exact fun x => ⟨fun q => Or.inl q, fun q => q.elim id (fun r => absurd r DN_0)⟩) (Nat.lt_succ_self _)
