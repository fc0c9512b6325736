/-! the class's own constructor: where its parts lie: printed by wip/whole/s35.py -/
def xkl : List (Nat × Nat) := [(21, 8), (17, 2), (4, 400), (11, 5), (2, 200), (2, 200), (12, 1), (18, 5), (1, 100), (2, 400), (16, 3), (13, 6), (1, 144), (1, 144), (1, 12), (1, 12), (2, 144), (14, 10), (1, 286), (1, 286), (1, 286), (1, 121), (5, 60), (2, 286), (2, 286), (2, 286), (2, 286), (10, 14), (3, 153), (1, 64), (1, 8), (3, 100), (1, 100), (1, 32)]
def xrl : List (Nat × Nat × Nat) := [(1, 0, 2), (0, 0, 1), (3, 0, 4), (3, 1, 5), (0, 1, 3), (6, 0, 1), (0, 2, 6), (7, 0, 1), (7, 1, 6), (7, 2, 8), (7, 3, 9), (0, 3, 7), (10, 0, 1), (10, 1, 6), (10, 2, 7), (0, 4, 10), (11, 0, 12), (11, 1, 13), (11, 2, 14), (11, 3, 15), (11, 4, 16), (0, 5, 11), (17, 0, 18), (17, 1, 19), (17, 2, 20), (17, 3, 21), (17, 4, 22), (17, 5, 23), (17, 6, 24), (17, 7, 25), (17, 8, 26), (0, 6, 17), (27, 6, 28), (27, 7, 29), (27, 8, 30), (27, 9, 31), (27, 10, 32), (27, 11, 33), (0, 7, 27)]
def xE (j i : Nat) : Bool := (j == 3 && i == 4) || (j == 18 || (j == 19 || (j == 20 || (j == 21 || j == 33))))
def xN (j i : Nat) : Bool := j == 2 || (j == 22 || (j == 27 && decide (i < 2)))
theorem xr_apart : ∀ i < 39, ∀ j < 39, i ≠ j → (xrl.getD i (0, 0, 0)).1 ≠ (xrl.getD j (0, 0, 0)).1 ∨ (xrl.getD i (0, 0, 0)).2.1 ≠ (xrl.getD j (0, 0, 0)).2.1 := by decide +kernel
theorem xr_apart2 : ∀ i < 39, xN (xrl.getD i (0, 0, 0)).1 (xrl.getD i (0, 0, 0)).2.1 = false := by decide +kernel
/-- n cells are laid from c, r references, s slots; what is not told of is 0 or nothing -/
def Xs (h0 h : aH) (c n r s : Nat) : Prop :=
  hz h = c + n ∧ (∀ j < n, hT h (c + j) = xkl.getD j (0, 0)) ∧
  (∀ j < r, (xrl.getD j (0, 0, 0)).1 < n ∧ hR h (c + (xrl.getD j (0, 0, 0)).1) (xrl.getD j (0, 0, 0)).2.1 = some (c + (xrl.getD j (0, 0, 0)).2.2)) ∧
  (∀ j < n, ∀ i, xE j i = false → hV h (c + j) i = 0) ∧ (∀ j < n, ∀ i, xN j i = true → hR h (c + j) i = none) ∧
  (∀ b < c, hT h b = hT h0 b ∧ (∀ i, hV h b i = hV h0 b i) ∧ ∀ i, hR h b i = hR h0 b i) ∧ hs h = s
theorem Xs.new {h0 h : aH} {c n r s k m : Nat} (x : Xs h0 h c n r s) (e : xkl.getD n (0, 0) = (k, m)) : Xs h0 (hnew h k m) c (n + 1) r (s + m) := by
  obtain ⟨x1, x2, x3, x4, x5, x6, x7⟩ := x
  refine ⟨by rw [hz_new, x1]; omega, fun j hj => ?_, fun j hj => ⟨by have := (x3 j hj).1; omega, ?_⟩, fun j hj i hi => ?_, fun j hj i hi => ?_, fun b hb => ?_, by rw [hs_new, x7]⟩
  · rw [hT_new]
    by_cases ej : j = n
    · rw [if_pos (by omega), ej, e]
    · rw [if_neg (by omega)]; exact x2 j (by omega)
  · rw [hR_new, if_neg (by have := (x3 j hj).1; omega)]; exact (x3 j hj).2
  · rw [hV_new]
    split
    · rfl
    · exact x4 j (by omega) i hi
  · rw [hR_new]
    split
    · rfl
    · exact x5 j (by omega) i hi
  · rw [hT_new, if_neg (by omega)]
    refine ⟨(x6 b hb).1, fun i => ?_, fun i => ?_⟩
    · rw [hV_new, if_neg (by omega)]; exact (x6 b hb).2.1 i
    · rw [hR_new, if_neg (by omega)]; exact (x6 b hb).2.2 i
theorem Xs.put {h0 h : aH} {c n r s a v o f t : Nat} (x : Xs h0 h c n r s) (hr : r < 39) (e : xrl.getD r (0, 0, 0) = (o, f, t)) (ho : o < n) (ha : a = c + o) (hv : v = c + t) : Xs h0 (hput h a f (some v)) c n (r + 1) s := by
  obtain ⟨x1, x2, x3, x4, x5, x6, x7⟩ := x
  refine ⟨x1, x2, fun j hj => ?_, x4, fun j hj i hi => ?_, fun b hb => ⟨(x6 b hb).1, (x6 b hb).2.1, fun i => ?_⟩, x7⟩
  · by_cases ej : j = r
    · subst ej
      rw [e]
      refine ⟨ho, ?_⟩
      rw [hR_put, if_pos ⟨ha.symm, rfl⟩, hv]
    · have h1 := xr_apart j (by omega) r hr ej
      rw [e] at h1
      dsimp only at h1
      rw [hR_put, if_neg (by omega)]
      exact x3 j (by omega)
  · rw [hR_put, if_neg]
    · exact x5 j hj i hi
    · rintro ⟨h1, h2⟩
      have h3 := xr_apart2 r hr
      rw [e] at h3
      dsimp only at h3
      have h4 : j = o := by omega
      subst h4 h2
      rw [hi] at h3
      cases h3
  · rw [hR_put, if_neg (by omega)]; exact (x6 b hb).2.2 i
theorem Xs.putn {h0 h : aH} {c n r s a f o : Nat} (x : Xs h0 h c n r s) (hr : ∀ j < r, (xrl.getD j (0, 0, 0)).1 ≠ o) (ha : a = c + o) : Xs h0 (hput h a f none) c n r s := by
  obtain ⟨x1, x2, x3, x4, x5, x6, x7⟩ := x
  refine ⟨x1, x2, fun j hj => ?_, x4, fun j hj i hi => ?_, fun b hb => ⟨(x6 b hb).1, (x6 b hb).2.1, fun i => ?_⟩, x7⟩
  · rw [hR_put, if_neg (by have := hr j hj; omega)]; exact x3 j hj
  · rw [hR_put]
    split
    · rfl
    · exact x5 j hj i hi
  · rw [hR_put, if_neg (by omega)]; exact (x6 b hb).2.2 i
theorem Xs.set {h0 h : aH} {c n r s a f o : Nat} {v : Int} (x : Xs h0 h c n r s) (ha : a = c + o) (hv : v = 0 ∨ xE o f = true) : Xs h0 (hset h a f v) c n r s := by
  obtain ⟨x1, x2, x3, x4, x5, x6, x7⟩ := x
  refine ⟨x1, x2, x3, fun j hj i hi => ?_, x5, fun b hb => ⟨(x6 b hb).1, fun i => ?_, (x6 b hb).2.2⟩, x7⟩
  · rw [hV_set]
    split
    · rename_i h1
      rcases hv with hv | hv
      · exact hv
      · have h4 : j = o := by omega
        rw [h4, h1.2, hv] at hi
        cases hi
    · exact x4 j hj i hi
  · rw [hV_set, if_neg (by omega)]; exact (x6 b hb).2.1 i
/-- whether a row of arrays stands in the tables -/
def okL (o : Nat) (n r : Nat) (l : List (Nat × Nat × Nat)) : Bool := match l with
  | [] => true
  | q :: t => xkl.getD n (0, 0) == (q.1, q.2.1) && (xrl.getD r (0, 0, 0) == (o, q.2.2, n) && okL o (n + 1) (r + 1) t)
theorem Xs.mk {h0 : aH} {c o : Nat} (l : List (Nat × Nat × Nat)) : ∀ {h : aH} {n r s : Nat}, Xs h0 h c n r s → okL o n r l = true → o < n → r + l.length ≤ 39 → Xs h0 (mk h (c + o) l) c (n + l.length) (r + l.length) (s + (l.map (fun q => q.2.1)).sum) := by
  induction l with
  | nil => intro h n r s x _ _ _; exact x
  | cons q t ih =>
    intro h n r s x e ho hl
    unfold okL at e
    rw [Bool.and_eq_true, Bool.and_eq_true] at e
    obtain ⟨e1, e2, e3⟩ := e
    have e1 := eq_of_beq e1
    have e2 := eq_of_beq e2
    rw [List.length_cons] at hl
    have x1 := (x.new e1).put (a := c + o) (v := hz h) (by omega) e2 (by omega) rfl x.1
    have x2 := ih x1 e3 (by omega) (by omega)
    rw [List.length_cons, List.map_cons, List.sum_cons, Nat.add_comm t.length 1, ← Nat.add_assoc, ← Nat.add_assoc, ← Nat.add_assoc]
    exact x2
theorem Xs.mem {h0 h : aH} {c n r s : Nat} {V : Nat → Nat → Int} (x : Xs h0 h c n r s) (hV1 : ∀ b q, (∀ j, b = c + j → xE j q = false) → V b q = hV h b q) : Xs h0 (hw h V) c n r s := by
  obtain ⟨x1, x2, x3, x4, x5, x6, x7⟩ := x
  refine ⟨x1, x2, x3, fun j hj i hi => ?_, x5, fun b hb => ⟨(x6 b hb).1, fun i => ?_, (x6 b hb).2.2⟩, x7⟩
  · rw [hV_hw, hV1 _ _ (fun j1 h1 => by rw [show j1 = j by omega]; exact hi)]; exact x4 j hj i hi
  · rw [hV_hw, hV1 _ _ (fun j1 h1 => by omega)]; exact (x6 b hb).2.1 i
theorem Xs.kind {h0 h : aH} {c n r s : Nat} (x : Xs h0 h c n r s) (j : Nat) {k : Nat} (hj : j < n) (e : (xkl.getD j (0, 0)).1 = k) : (hT h (c + j)).1 = k := by rw [x.2.1 j hj]; exact e
theorem Xs.ref {h0 h : aH} {c n r s : Nat} (x : Xs h0 h c n r s) (j : Nat) {o f t : Nat} (hj : j < r) (e : xrl.getD j (0, 0, 0) = (o, f, t)) : hR h (c + o) f = some (c + t) := by have q := (x.2.2.1 j hj).2; rw [e] at q; exact q
