/-! holes: the class's way and the reference's come to the same cells (Id) -/
theorem ndp_len : ∀ {l m : List Nat}, l.Nodup → (∀ x ∈ l, x ∈ m) → l.length ≤ m.length := by
  intro l
  induction l with
  | nil => intro m _ _; exact Nat.zero_le _
  | cons a t ih =>
    intro m hl h
    obtain ⟨s, u, e⟩ := List.append_of_mem (h a List.mem_cons_self)
    rw [List.nodup_cons] at hl
    have := ih (m := s ++ u) hl.2 (fun x hx => by
      have hm := h x (List.mem_cons_of_mem _ hx)
      rw [e] at hm
      rcases List.mem_append.mp hm with hm | hm
      · exact List.mem_append_left _ hm
      · rcases List.mem_cons.mp hm with hm | hm
        · rw [hm] at hx; exact absurd hx hl.1
        · exact List.mem_append_right _ hm)
    rw [e, List.length_append, List.length_cons, List.length_cons]
    rw [List.length_append] at this
    omega
def brd (k : Nat) : Prop := k < 10 ∨ 90 ≤ k ∨ k % 10 = 0 ∨ k % 10 = 9
def Cld (f : Nat) (C : Nat → Prop) : Prop := ∀ k, 11 ≤ k → k < 89 → 0 < k % 10 → k % 10 < 9 → f.testBit (8 * (k / 10 - 1) + k % 10 - 1) = false → (C (k - 1) ∨ C (k + 1) ∨ C (k - 10) ∨ C (k + 10)) → C k
/-- the cells of the frame that are outside -/
def Rch (f k : Nat) : Prop := ∀ C : Nat → Prop, (∀ j < 100, brd j → C j) → Cld f C → C k
noncomputable def rcN (f k : Nat) : Nat := ((List.range k).filter (fun k => bt (Rch f k))).length
noncomputable def hoR (f n : Nat) : Bool := decide (n + rcN f 100 < 100)
def Nb (k j : Nat) : Prop := (j = k + 1 ∧ k % 10 ≠ 9) ∨ (j + 1 = k ∧ k % 10 ≠ 0) ∨ j = k + 10 ∨ j + 10 = k
def HCl (R0 : Nat) (C : Nat → Prop) : Prop := ∀ k j, k < 100 → j < 100 → C k → Nb k j → R0.testBit j = false → C j
def HI (R0 : Nat) (s : Nat × List Nat) : Prop := s.2.Nodup ∧ (∀ k ∈ s.2, k < 100) ∧ (∀ k, s.1.testBit k = true ↔ R0.testBit k = true ∨ k ∈ s.2) ∧ (∀ k ∈ s.2, R0.testBit k = false) ∧ ∀ C : Nat → Prop, C 0 → HCl R0 C → ∀ k ∈ s.2, C k
theorem HI.rch {R0 : Nat} {s : Nat × List Nat} (h : HI R0 s) (hz : ∃ z, z < 100 ∧ R0.testBit z = true) {x y : Int} {j : Nat} (hj : 0 ≤ x ∧ x < 10 ∧ 0 ≤ y ∧ y < 10 → 10 * y.toNat + x.toNat = j) (hC : 0 ≤ x ∧ x < 10 ∧ 0 ≤ y ∧ y < 10 → ∀ C : Nat → Prop, C 0 → HCl R0 C → R0.testBit j = false → C j) : HI R0 (rchP s.1 s.2 x y) ∧ (0 ≤ x ∧ x < 10 ∧ 0 ≤ y ∧ y < 10 → (rchP s.1 s.2 x y).1.testBit j = true) ∧ (∃ N, (rchP s.1 s.2 x y).2 = s.2 ++ N) ∧ ∀ k, s.1.testBit k = true → (rchP s.1 s.2 x y).1.testBit k = true := by
  obtain ⟨h1, h2, h3, h4, h5⟩ := h
  have hlen : s.2.length < 100 := by
    obtain ⟨z, hz1, hz2⟩ := hz
    have := ndp_len (l := z :: s.2) (m := List.range 100) (by
      rw [List.nodup_cons]
      exact ⟨fun q => (by rw [h4 z q] at hz2; cases hz2), h1⟩) (fun x hx => by
      rw [List.mem_range]
      rcases List.mem_cons.mp hx with hx | hx
      · omega
      · exact h2 x hx)
    rw [List.length_cons, List.length_range] at this
    omega
  unfold rchP
  by_cases hin : 0 ≤ x ∧ x < 10 ∧ 0 ≤ y ∧ y < 10
  · have ej := hj hin
    rw [ej]
    by_cases hb : s.1.testBit j = true
    · rw [if_pos (Or.inr (Or.inr (Or.inr (Or.inr (Or.inr hb)))))]
      exact ⟨⟨h1, h2, h3, h4, h5⟩, fun _ => hb, ⟨[], (List.append_nil _).symm⟩, fun k hk => hk⟩
    · rw [if_neg (by
        rintro (q | q | q | q | q | q)
        · omega
        · omega
        · omega
        · omega
        · omega
        · exact hb q)]
      have nj : ¬(R0.testBit j = true ∨ j ∈ s.2) := fun q => hb ((h3 j).mpr q)
      have nj1 : R0.testBit j = false := by
        cases e : R0.testBit j with
        | false => rfl
        | true => exact absurd (Or.inl e) nj
      have tb : ∀ k, (s.1 ||| 2 ^ j).testBit k = true ↔ s.1.testBit k = true ∨ j = k := by
        intro k
        rw [Nat.testBit_or, Bool.or_eq_true, Nat.testBit_two_pow, decide_eq_true_eq]
      refine ⟨⟨?_, ?_, ?_, ?_, ?_⟩, fun _ => (tb j).mpr (Or.inr rfl), ⟨[j], rfl⟩, fun k hk => (tb k).mpr (Or.inl hk)⟩
      · show (s.2 ++ [j]).Nodup
        rw [List.nodup_append]
        refine ⟨h1, by simp, fun a ha b hb => ?_⟩
        rw [List.mem_singleton] at hb
        intro q
        exact nj (Or.inr (by rw [← hb, ← q]; exact ha))
      · intro k hk
        rcases List.mem_append.mp hk with hk | hk
        · exact h2 k hk
        · rw [List.mem_singleton] at hk; omega
      · intro k
        show (s.1 ||| 2 ^ j).testBit k = true ↔ R0.testBit k = true ∨ k ∈ s.2 ++ [j]
        rw [tb, h3, List.mem_append, List.mem_singleton, or_assoc]
        constructor
        · rintro (q | q | q)
          · exact Or.inl q
          · exact Or.inr (Or.inl q)
          · exact Or.inr (Or.inr q.symm)
        · rintro (q | q | q)
          · exact Or.inl q
          · exact Or.inr (Or.inl q)
          · exact Or.inr (Or.inr q.symm)
      · intro k hk
        rcases List.mem_append.mp hk with hk | hk
        · exact h4 k hk
        · rw [List.mem_singleton] at hk; rw [hk]; exact nj1
      · intro C c0 cl k hk
        rcases List.mem_append.mp hk with hk | hk
        · exact h5 C c0 cl k hk
        · rw [List.mem_singleton] at hk; rw [hk]; exact hC hin C c0 cl nj1
  · rw [if_pos (by
      by_cases q1 : x < 0
      · exact Or.inl q1
      by_cases q2 : y < 0
      · exact Or.inr (Or.inl q2)
      by_cases q3 : 10 ≤ x
      · exact Or.inr (Or.inr (Or.inl q3))
      by_cases q4 : 10 ≤ y
      · exact Or.inr (Or.inr (Or.inr (Or.inl q4)))
      exact absurd ⟨by omega, by omega, by omega, by omega⟩ hin)]
    exact ⟨⟨h1, h2, h3, h4, h5⟩, fun q => absurd q hin, ⟨[], (List.append_nil _).symm⟩, fun k hk => hk⟩
/-- what is reached from one more cell -/
theorem HI.four {R0 : Nat} {s : Nat × List Nat} (h : HI R0 s) (hz : ∃ z, z < 100 ∧ R0.testBit z = true) {cl : Nat} (hcl : cl ∈ s.2) : HI R0 (bfs4 s cl) ∧ (∀ j < 100, Nb cl j → (bfs4 s cl).1.testBit j = true) ∧ (∃ N, (bfs4 s cl).2 = s.2 ++ N) ∧ ∀ k, s.1.testBit k = true → (bfs4 s cl).1.testBit k = true := by
  have c100 : cl < 100 := h.2.1 cl hcl
  have cC : ∀ (C : Nat → Prop), C 0 → HCl R0 C → C cl := fun C c0 hc => h.2.2.2.2 C c0 hc cl hcl
  have g1 := h.rch hz (x := ((cl % 10 : Nat) : Int) + 1) (y := ((cl / 10 : Nat) : Int)) (j := cl + 1) (fun q => by omega) (fun q C c0 hc hb => hc cl (cl + 1) c100 (by omega) (cC C c0 hc) (Or.inl ⟨rfl, by omega⟩) hb)
  obtain ⟨s1, e1⟩ : ∃ r, r = rchP s.1 s.2 (((cl % 10 : Nat) : Int) + 1) ((cl / 10 : Nat) : Int) := ⟨_, rfl⟩
  rw [← e1] at g1
  have g2 := g1.1.rch hz (x := ((cl % 10 : Nat) : Int) - 1) (y := ((cl / 10 : Nat) : Int)) (j := cl - 1) (fun q => by omega) (fun q C c0 hc hb => hc cl (cl - 1) c100 (by omega) (cC C c0 hc) (Or.inr (Or.inl ⟨by omega, by omega⟩)) hb)
  obtain ⟨s2, e2⟩ : ∃ r, r = rchP s1.1 s1.2 (((cl % 10 : Nat) : Int) - 1) ((cl / 10 : Nat) : Int) := ⟨_, rfl⟩
  rw [← e2] at g2
  have g3 := g2.1.rch hz (x := ((cl % 10 : Nat) : Int)) (y := ((cl / 10 : Nat) : Int) + 1) (j := cl + 10) (fun q => by omega) (fun q C c0 hc hb => hc cl (cl + 10) c100 (by omega) (cC C c0 hc) (Or.inr (Or.inr (Or.inl rfl))) hb)
  obtain ⟨s3, e3⟩ : ∃ r, r = rchP s2.1 s2.2 ((cl % 10 : Nat) : Int) (((cl / 10 : Nat) : Int) + 1) := ⟨_, rfl⟩
  rw [← e3] at g3
  have g4 := g3.1.rch hz (x := ((cl % 10 : Nat) : Int)) (y := ((cl / 10 : Nat) : Int) - 1) (j := cl - 10) (fun q => by omega) (fun q C c0 hc hb => hc cl (cl - 10) c100 (by omega) (cC C c0 hc) (Or.inr (Or.inr (Or.inr (by omega)))) hb)
  have e4 : bfs4 s cl = rchP s3.1 s3.2 ((cl % 10 : Nat) : Int) (((cl / 10 : Nat) : Int) - 1) := by
    subst e3
    subst e2
    subst e1
    rfl
  rw [e4]
  obtain ⟨-, a1, ⟨N1, n1⟩, b1⟩ := g1
  obtain ⟨-, a2, ⟨N2, n2⟩, b2⟩ := g2
  obtain ⟨-, a3, ⟨N3, n3⟩, b3⟩ := g3
  obtain ⟨hi, a4, ⟨N4, n4⟩, b4⟩ := g4
  refine ⟨hi, fun j hj nb => ?_, ⟨N1 ++ (N2 ++ (N3 ++ N4)), by rw [n4, n3, n2, n1]; simp only [List.append_assoc]⟩, fun k hk => b4 k (b3 k (b2 k (b1 k hk)))⟩
  rcases nb with ⟨e, q⟩ | ⟨e, q⟩ | e | e
  · have := b4 _ (b3 _ (b2 _ (a1 (by omega))))
    rw [e]; exact this
  · have := b4 _ (b3 _ (a2 (by omega)))
    rw [show j = cl - 1 by omega]; exact this
  · have := b4 _ (a3 (by omega))
    rw [e]; exact this
  · have := a4 (by omega)
    rw [show j = cl - 10 by omega]; exact this
/-- the whole search -/
theorem HI.whole {R0 : Nat} (hz : ∃ z, z < 100 ∧ R0.testBit z = true) : ∀ (fuel i : Nat) (s : Nat × List Nat), HI R0 s → 100 ≤ fuel + i → (∀ k (hk : k < s.2.length), k < i → ∀ j < 100, Nb (s.2[k]) j → s.1.testBit j = true) → HI R0 (bfs fuel i s) ∧ (∃ N, (bfs fuel i s).2 = s.2 ++ N) ∧ ∀ k ∈ (bfs fuel i s).2, ∀ j < 100, Nb k j → (bfs fuel i s).1.testBit j = true := by
  intro fuel
  induction fuel with
  | zero =>
    intro i s h hi hp
    refine ⟨h, ⟨[], (List.append_nil _).symm⟩, fun k hk j hj nb => ?_⟩
    obtain ⟨m, hm, e⟩ := List.mem_iff_getElem.mp (show k ∈ s.2 from hk)
    have hlen := ndp_len (m := List.range 100) h.1 (fun x hx => List.mem_range.mpr (h.2.1 x hx))
    rw [List.length_range] at hlen
    exact hp m hm (by omega) j hj (by rw [e]; exact nb)
  | succ fuel ih =>
    intro i s h hi hp
    by_cases hl : i < s.2.length
    · have e : bfs (fuel + 1) i s = bfs fuel (i + 1) (bfs4 s (s.2.getD i 0)) := by
        show (if i < s.2.length then _ else _) = _
        rw [if_pos hl]
      have eg : s.2.getD i 0 = s.2[i] := by
        rw [List.getD_eq_getElem?_getD, List.getElem?_eq_getElem hl]
        rfl
      rw [e, eg]
      obtain ⟨g1, g2, ⟨N, g3⟩, g4⟩ := h.four hz (List.getElem_mem hl)
      have g5 := ih (i + 1) (bfs4 s s.2[i]) g1 (by omega) (fun k hk hki j hj nb => by
        by_cases ek : k = i
        · subst ek
          refine g2 j hj ?_
          have : (bfs4 s s.2[k]).2[k] = s.2[k] := by
            simp only [g3]
            rw [List.getElem_append_left hl]
          rw [← this]; exact nb
        · have hk2 : k < s.2.length := by omega
          refine g4 _ (hp k hk2 (by omega) j hj ?_)
          have : (bfs4 s s.2[i]).2[k] = s.2[k] := by
            simp only [g3]
            rw [List.getElem_append_left hk2]
          rw [← this]; exact nb)
      obtain ⟨g6, ⟨N2, g7⟩, g8⟩ := g5
      exact ⟨g6, ⟨N ++ N2, by rw [g7, g3, List.append_assoc]⟩, g8⟩
    · have e : bfs (fuel + 1) i s = s := by
        show (if i < s.2.length then _ else _) = _
        rw [if_neg hl]
      rw [e]
      refine ⟨h, ⟨[], (List.append_nil _).symm⟩, fun k hk j hj nb => ?_⟩
      obtain ⟨m, hm, e⟩ := List.mem_iff_getElem.mp hk
      exact hp m hm (by omega) j hj (by rw [e]; exact nb)
/-- the figure's cells in the frame -/
theorem holM_bit (lx : Int) (l : List Nat) (hl : ∀ c ∈ l, 0 ≤ ((c % 17 : Nat) : Int) - lx + 1 ∧ ((c % 17 : Nat) : Int) - lx + 1 < 10 ∧ c / 17 + 1 < 10) : ∀ (R k : Nat), (l.foldl (fun R c => (rchP R [] (((c % 17 : Nat) : Int) - lx + 1) (((c / 17 : Nat) : Int) + 1)).1) R).testBit k = true ↔ R.testBit k = true ∨ ∃ c ∈ l, 10 * (c / 17 + 1) + (((c % 17 : Nat) : Int) - lx + 1).toNat = k := by
  induction l with
  | nil => intro R k; exact ⟨fun h => Or.inl h, fun h => h.elim id (fun ⟨c, hc, _⟩ => by cases hc)⟩
  | cons a t ih =>
    intro R k
    rw [List.foldl_cons, ih (fun c hc => hl c (List.mem_cons_of_mem _ hc))]
    have ha := hl a List.mem_cons_self
    have key : (rchP R [] (((a % 17 : Nat) : Int) - lx + 1) (((a / 17 : Nat) : Int) + 1)).1.testBit k = true ↔ R.testBit k = true ∨ 10 * (a / 17 + 1) + (((a % 17 : Nat) : Int) - lx + 1).toNat = k := by
      have e : 10 * (((a / 17 : Nat) : Int) + 1).toNat + (((a % 17 : Nat) : Int) - lx + 1).toNat = 10 * (a / 17 + 1) + (((a % 17 : Nat) : Int) - lx + 1).toNat := by omega
      unfold rchP
      rw [e]
      by_cases hb : R.testBit (10 * (a / 17 + 1) + (((a % 17 : Nat) : Int) - lx + 1).toNat) = true
      · rw [if_pos (Or.inr (Or.inr (Or.inr (Or.inr (Or.inr hb)))))]
        constructor
        · intro q; exact Or.inl q
        · rintro (q | q)
          · exact q
          · rw [← q]; exact hb
      · rw [if_neg (by
          rintro (q | q | q | q | q | q)
          · omega
          · omega
          · omega
          · omega
          · simp at q
          · exact hb q)]
        show (R ||| 2 ^ _).testBit k = true ↔ _
        rw [Nat.testBit_or, Bool.or_eq_true, Nat.testBit_two_pow, decide_eq_true_eq]
    rw [key]
    constructor
    · rintro ((h | h) | ⟨c, hc, h⟩)
      · exact Or.inl h
      · exact Or.inr ⟨a, List.mem_cons_self, h⟩
      · exact Or.inr ⟨c, List.mem_cons_of_mem _ hc, h⟩
    · rintro (h | ⟨c, hc, h⟩)
      · exact Or.inl (Or.inl h)
      · rcases List.mem_cons.mp hc with hc | hc
        · rw [hc] at h; exact Or.inl (Or.inr h)
        · exact Or.inr ⟨c, hc, h⟩
theorem holL_at (ch : List Nat) : ∀ a : Int, (ch.foldl (fun a c => min a ((c % 17 : Nat) : Int)) a ≤ a ∧ ∀ c ∈ ch, ch.foldl (fun a c => min a ((c % 17 : Nat) : Int)) a ≤ ((c % 17 : Nat) : Int)) ∧ (ch.foldl (fun a c => min a ((c % 17 : Nat) : Int)) a = a ∨ ∃ c ∈ ch, ch.foldl (fun a c => min a ((c % 17 : Nat) : Int)) a = ((c % 17 : Nat) : Int)) := by
  induction ch with
  | nil => intro a; exact ⟨⟨Int.le_refl _, fun c hc => by cases hc⟩, Or.inl rfl⟩
  | cons x t ih =>
    intro a
    rw [List.foldl_cons]
    obtain ⟨⟨h1, h2⟩, h3⟩ := ih (min a ((x % 17 : Nat) : Int))
    refine ⟨⟨by omega, fun c hc => ?_⟩, ?_⟩
    · rcases List.mem_cons.mp hc with hc | hc
      · rw [hc]; omega
      · exact h2 c hc
    · rcases h3 with h3 | ⟨c, hc, h3⟩
      · by_cases q : a ≤ ((x % 17 : Nat) : Int)
        · exact Or.inl (by omega)
        · exact Or.inr ⟨x, List.mem_cons_self, by omega⟩
      · exact Or.inr ⟨c, List.mem_cons_of_mem _ hc, h3⟩
theorem fig_hole {ch : List Nat} {f lx : Nat} (F : FigOf ch f lx) (n : Nat) : holeB n ch = hoR f n := by
  obtain ⟨f1, f2, f3, f4, f5, f6⟩ := F
  obtain ⟨u, v, b1, b2, hx⟩ := Bx_box f5
  have hL : holL ch = (lx : Int) := by
    obtain ⟨⟨g1, g2⟩, g3⟩ := holL_at ch 17
    obtain ⟨c, hc, ec⟩ := f3
    have g4 := g2 c hc
    have g5 := f6 c hc
    unfold holL
    rcases g3 with g3 | ⟨d, hd, g3⟩
    · omega
    · have := f2 d hd
      omega
  have hbox : ∀ c ∈ ch, c / 17 ≤ 7 := by
    intro c hc
    have g := hx _ ((f1 _).mpr ⟨c, hc, rfl⟩)
    have := f2 c hc
    omega
  obtain ⟨R0, eR⟩ : ∃ R, R = holM ch (holL ch) ch := ⟨_, rfl⟩
  have hR : ∀ k, R0.testBit k = true ↔ ∃ c ∈ ch, 10 * (c / 17 + 1) + (c % 17 - lx + 1) = k := by
    intro k
    have g := holM_bit (lx : Int) ch (fun c hc => by have := f2 c hc; have := hbox c hc; omega) 0 k
    rw [eR, hL]
    refine g.trans ?_
    rw [Nat.zero_testBit]
    constructor
    · rintro (q | ⟨c, hc, q⟩)
      · cases q
      · have := f2 c hc
        exact ⟨c, hc, by omega⟩
    · rintro ⟨c, hc, q⟩
      have := f2 c hc
      exact Or.inr ⟨c, hc, by omega⟩
  have hRf : ∀ k, 11 ≤ k → k < 89 → 0 < k % 10 → k % 10 < 9 → (R0.testBit k = true ↔ f.testBit (8 * (k / 10 - 1) + k % 10 - 1) = true) := by
    intro k q1 q2 q3 q4
    rw [hR, f1]
    constructor
    · rintro ⟨c, hc, e⟩
      have := f2 c hc
      have := hbox c hc
      exact ⟨c, hc, by omega⟩
    · rintro ⟨c, hc, e⟩
      have := f2 c hc
      have := hbox c hc
      exact ⟨c, hc, by omega⟩
  have hRb : ∀ k, brd k → R0.testBit k = false := by
    intro k hk
    cases e : R0.testBit k with
    | false => rfl
    | true =>
      obtain ⟨c, hc, q⟩ := (hR k).mp e
      have := f2 c hc
      have := hbox c hc
      unfold brd at hk
      omega
  have hz : ∃ z, z < 100 ∧ R0.testBit z = true := by
    have := f2 8 f4
    exact ⟨_, by omega, (hR _).mpr ⟨8, f4, rfl⟩⟩
  have i0 : HI R0 (R0, []) := ⟨List.nodup_nil, fun k hk => (by cases hk), fun k => ⟨fun q => Or.inl q, fun q => q.elim id (fun r => by cases r)⟩, fun k hk => (by cases hk), fun C _ _ k hk => by cases hk⟩
  have i1 := i0.rch hz (x := 0) (y := 0) (j := 0) (fun _ => rfl) (fun _ C c0 _ _ => c0)
  have i2 := HI.whole hz 100 0 (rchP R0 [] 0 0) i1.1 (by omega) (fun k hk hk0 => by omega)
  obtain ⟨⟨q1, q2, q3, q4, q5⟩, ⟨N, q6⟩, q7⟩ := i2
  obtain ⟨Q, eQ⟩ : ∃ Q, Q = bfs 100 0 (rchP R0 [] 0 0) := ⟨_, rfl⟩
  rw [← eQ] at q1 q2 q3 q4 q5 q6 q7
  have cl : ∀ k ∈ Q.2, ∀ j < 100, Nb k j → R0.testBit j = false → j ∈ Q.2 := by
    intro k hk j hj nb hb
    rcases (q3 j).mp (q7 k hk j hj nb) with r | r
    · rw [r] at hb; cases hb
    · exact r
  have m0 : 0 ∈ Q.2 := by
    have t0 : (rchP R0 [] 0 0).1.testBit 0 = true := i1.2.1 (by omega)
    have b0 := hRb 0 (Or.inl (by omega))
    have hm : (0 : Nat) ∈ (rchP R0 [] 0 0).2 := by
      rcases (i1.1.2.2.1 0).mp t0 with r | r
      · rw [r] at b0; cases b0
      · exact r
    rw [q6]
    exact List.mem_append_left _ hm
  have bt1 : ∀ x, x < 10 → x ∈ Q.2 := by
    intro x
    induction x with
    | zero => intro _; exact m0
    | succ x ih => intro hx; exact cl x (ih (by omega)) (x + 1) (by omega) (Or.inl ⟨rfl, by omega⟩) (hRb _ (Or.inl (by omega)))
  have bt2 : ∀ y, y < 10 → 10 * y ∈ Q.2 := by
    intro y
    induction y with
    | zero => intro _; exact m0
    | succ y ih => intro hy; exact cl (10 * y) (ih (by omega)) (10 * (y + 1)) (by omega) (Or.inr (Or.inr (Or.inl (by omega)))) (hRb _ (Or.inr (Or.inr (Or.inl (by omega)))))
  have bt3 : ∀ y, y < 10 → 10 * y + 9 ∈ Q.2 := by
    intro y
    induction y with
    | zero => intro _; exact bt1 9 (by omega)
    | succ y ih => intro hy; exact cl (10 * y + 9) (ih (by omega)) (10 * (y + 1) + 9) (by omega) (Or.inr (Or.inr (Or.inl (by omega)))) (hRb _ (Or.inr (Or.inr (Or.inr (by omega)))))
  have bt4 : ∀ x, x < 10 → 90 + x ∈ Q.2 := by
    intro x
    induction x with
    | zero => intro _; exact bt2 9 (by omega)
    | succ x ih => intro hx; exact cl (90 + x) (ih (by omega)) (90 + (x + 1)) (by omega) (Or.inl ⟨by omega, by omega⟩) (hRb _ (Or.inr (Or.inl (by omega))))
  have bAll : ∀ j < 100, brd j → j ∈ Q.2 := by
    intro j hj hb
    unfold brd at hb
    rcases hb with r | r | r | r
    · exact bt1 j r
    · have := bt4 (j - 90) (by omega)
      rw [show 90 + (j - 90) = j by omega] at this
      exact this
    · have := bt2 (j / 10) (by omega)
      rw [show 10 * (j / 10) = j by omega] at this
      exact this
    · have := bt3 (j / 10) (by omega)
      rw [show 10 * (j / 10) + 9 = j by omega] at this
      exact this
  have fw : ∀ k ∈ Q.2, Rch f k := by
    intro k hk C hbC hcC
    have := q5 (fun j => j < 100 → C j) (fun _ => hbC 0 (by omega) (Or.inl (by omega))) (by
      intro a j ha hj hCa nb hb _
      have Ca := hCa ha
      by_cases br : brd j
      · exact hbC j hj br
      · unfold brd at br
        have r1 : 11 ≤ j ∧ j < 89 ∧ 0 < j % 10 ∧ j % 10 < 9 := by omega
        refine hcC j r1.1 r1.2.1 r1.2.2.1 r1.2.2.2 ?_ ?_
        · cases e : f.testBit (8 * (j / 10 - 1) + j % 10 - 1) with
          | false => rfl
          | true => rw [(hRf j r1.1 r1.2.1 r1.2.2.1 r1.2.2.2).mpr e] at hb; cases hb
        · rcases nb with ⟨e, _⟩ | ⟨e, _⟩ | e | e
          · exact Or.inl (by rw [show j - 1 = a by omega]; exact Ca)
          · exact Or.inr (Or.inl (by rw [e]; exact Ca))
          · exact Or.inr (Or.inr (Or.inl (by rw [show j - 10 = a by omega]; exact Ca)))
          · exact Or.inr (Or.inr (Or.inr (by rw [e]; exact Ca)))) k hk
    exact this (q2 k hk)
  have bw : ∀ k, k < 100 → Rch f k → k ∈ Q.2 := by
    intro k hk hr
    refine hr (fun j => j ∈ Q.2) bAll ?_
    intro j r1 r2 r3 r4 hb hn
    have hb2 : R0.testBit j = false := by
      cases e : R0.testBit j with
      | false => rfl
      | true => rw [(hRf j r1 r2 r3 r4).mp e] at hb; cases hb
    rcases hn with r | r | r | r
    · exact cl _ r j (by omega) (Or.inl ⟨by omega, by omega⟩) hb2
    · exact cl _ r j (by omega) (Or.inr (Or.inl ⟨rfl, by omega⟩)) hb2
    · exact cl _ r j (by omega) (Or.inr (Or.inr (Or.inl (by omega)))) hb2
    · exact cl _ r j (by omega) (Or.inr (Or.inr (Or.inr rfl))) hb2
  have hlen : rcN f 100 = Q.2.length := by
    unfold rcN
    refine Nat.le_antisymm (ndp_len (List.Pairwise.filter _ List.nodup_range) (fun x hx => ?_)) (ndp_len q1 (fun x hx => ?_))
    · rw [List.mem_filter, List.mem_range] at hx
      exact bw x hx.1 (bt_iff.mp hx.2)
    · rw [List.mem_filter, List.mem_range]
      exact ⟨q2 x hx, bt_iff.mpr (fw x hx)⟩
  unfold holeB hoR
  rw [← eR, ← eQ, hlen, Nat.add_comm]
