/-! the reference's wrap is a wrap -/
theorem nd_len {N : Nat} {l : List Nat} (hn : l.Nodup) (h : ∀ x ∈ l, x < N) : l.length ≤ N := by
  have := List.Nodup.length_le_of_subset (l₂ := List.range N) hn (fun x hx => List.mem_range.mpr (h x hx))
  rw [List.length_range] at this
  exact this
def DecL : List Nat → Prop
  | b :: a :: t => a < b ∧ DecL (a :: t)
  | _ => True
theorem DecL.lt : ∀ {l : List Nat} {b : Nat}, DecL (b :: l) → ∀ x ∈ l, x < b
  | [], _, _, x, hx => by cases hx
  | a :: t, b, h, x, hx => by
    rcases List.mem_cons.mp hx with e | e
    · rw [e]
      exact h.1
    · have := DecL.lt h.2 x e
      have := h.1
      omega
theorem DecL.tl {a : Nat} : ∀ {l : List Nat}, DecL (a :: l) → DecL l
  | [], _ => trivial
  | _ :: _, h => h.2
theorem DecL.nd : ∀ {l : List Nat}, DecL l → l.Nodup
  | [], _ => List.nodup_nil
  | b :: t, h => by
    rw [List.nodup_cons]
    exact ⟨fun z => by have := DecL.lt h b z; omega, DecL.nd h.tl⟩
theorem pop_dec {P : Nat → Int × Int} {r : Nat} : ∀ l, DecL l → DecL (popX P r l)
  | [], h => h
  | [a], h => h
  | b :: a :: t, h => by
    unfold popX
    split
    · exact pop_dec (a :: t) h.2
    · exact h
theorem ch_dec {P : Nat → Int × Int} : ∀ k, DecL (chX P k)
  | 0 => trivial
  | k + 1 => by
    have ih := pop_dec (P := P) (r := k) _ (ch_dec (P := P) k)
    have hm : ∀ x ∈ popX P k (chX P k), x < k := fun x hx => mem_ch k x (mem_pop _ x hx)
    show DecL (k :: popX P k (chX P k))
    cases e : popX P k (chX P k) with
    | nil => trivial
    | cons a t =>
      rw [e] at ih hm
      exact ⟨hm a (by simp), ih⟩
theorem allW_get {P : Nat → Int × Int} {N : Nat} : ∀ {l : List Nat}, AllW P N l → ∀ j, j + 1 < l.length → WyX P N (l.getD (j + 1) 0) (l.getD j 0)
  | [], _, j, hj => by simp at hj
  | [a], _, j, hj => by simp at hj
  | b :: a :: t, h, 0, _ => h.1
  | b :: a :: t, h, j + 1, hj => allW_get (l := a :: t) h.2 j (by simp only [List.length_cons] at hj ⊢; omega)
theorem getD_mem {l : List Nat} {j : Nat} (h : j < l.length) : l.getD j 0 ∈ l := by
  rw [List.getD_eq_getElem?_getD, List.getElem?_eq_getElem h]
  exact List.getElem_mem h
theorem mem_getD : ∀ {l : List Nat} {x : Nat}, x ∈ l → ∃ j < l.length, l.getD j 0 = x
  | [], x, h => by cases h
  | a :: t, x, h => by
    rcases List.mem_cons.mp h with e | e
    · exact ⟨0, by simp, e.symm⟩
    · obtain ⟨j, hj, ej⟩ := mem_getD e
      exact ⟨j + 1, by simp only [List.length_cons]; omega, ej⟩
theorem DecL.get : ∀ {l : List Nat}, DecL l → ∀ i j, i < j → j < l.length → l.getD j 0 < l.getD i 0
  | [], _, i, j, _, hj => by simp at hj
  | b :: t, h, 0, j + 1, _, hj => DecL.lt h _ (getD_mem (l := t) (j := j) (by simp only [List.length_cons] at hj; omega))
  | b :: t, h, i + 1, j + 1, hij, hj => DecL.get (l := t) h.tl i j (by omega) (by simp only [List.length_cons] at hj; omega)
/-- what a chain over all places is -/
theorem ch_sum {P : Nat → Int × Int} {N : Nat} (hP : ∀ i j, i < j → j < N → ltx (P i) (P j)) (hN : 3 ≤ N) : 2 ≤ (chX P N).length ∧ (chX P N).getD 0 0 = N - 1 ∧ (chX P N).getD ((chX P N).length - 1) 0 = 0 ∧ DecL (chX P N) ∧ AllW P N (chX P N) ∧ ∀ x ∈ chX P N, x < N := by
  obtain ⟨hA, t, et⟩ := chX_all hP (by omega)
  obtain ⟨k, rfl⟩ : ∃ k, N = k + 1 := ⟨N - 1, by omega⟩
  obtain ⟨l, el⟩ := chX_last (P := P) k
  have h0 : (chX P (k + 1)).getD 0 0 = k + 1 - 1 := by rw [et]; rfl
  have hl : (chX P (k + 1)).getD ((chX P (k + 1)).length - 1) 0 = 0 := by
    rw [el, List.length_append]
    show (l ++ [0]).getD (l.length + 1 - 1) 0 = 0
    rw [Nat.add_sub_cancel, List.getD_eq_getElem?_getD, List.getElem?_append_right (Nat.le_refl _), Nat.sub_self]
    rfl
  refine ⟨?_, h0, hl, ch_dec _, hA, mem_ch _⟩
  have hz := (ch_len P (k + 1)).2 (by omega)
  rcases Nat.lt_or_ge (chX P (k + 1)).length 2 with z | z
  · exfalso
    rw [show (chX P (k + 1)).length - 1 = 0 by omega] at hl
    omega
  · exact z
/-- a way of a chain over corners is the next -/
theorem nxt_of {S : aS} {p n N : Nat} {e : Nat → Nat} (hn : n = sGn S p) (h : OrP S p n N e) {P : Nat → Int × Int} {f : Nat → Nat} (hf : ∀ a < N, f a < N) (hsu : ∀ k < N, ∃ a < N, f a = k) (hT : ∀ a b c, tnx (P a) (P b) (P c) = gT S p (e (f a)) (e (f b)) (e (f c))) (hQ : ∀ a b, ((P b).1 - (P a).1) * ((P b).1 - (P a).1) + ((P b).2 - (P a).2) * ((P b).2 - (P a).2) = gQ S p (e (f a)) (e (f b))) (hne : ∀ a b, ltx (P a) (P b) → ¬ gSame S p (e (f a)) (e (f b))) {a b : Nat} (hb : b < N) (w : WyX P N a b) : Nxt S p (e (f a)) (e (f b)) := by
  refine ⟨by have := h.2.1 (f b) (hf b hb); omega, hne a b w.1, fun i hi _ => ?_⟩
  obtain ⟨k, hk, hs⟩ := h.2.2.2 i (by omega)
  obtain ⟨j, hj, ej⟩ := hsu k hk
  subst ej
  have g := w.2 j hj
  have eT : gT S p (e (f a)) (e (f b)) i = tnx (P a) (P b) (P j) := by
    rw [hT, gT_vv, gT_vv]
    rw [vv_same2 hs]
  have eQ : gQ S p (e (f a)) i = gQ S p (e (f a)) (e (f j)) := by
    rw [gQ_vv, gQ_vv, vv_same2 hs]
  unfold gdK
  rw [eT, eQ]
  rcases Int.lt_or_le 0 (tnx (P a) (P b) (P j)) with z | z
  · exact Or.inl z
  · have z0 : tnx (P a) (P b) (P j) = 0 := by omega
    obtain ⟨b1, b2⟩ := g.2 z0
    refine Or.inr ⟨z0, ?_⟩
    have q := btw_q w.1 z0 (b1.imp id (fun y => by rw [y])) (b2.imp id (fun y => by rw [y]))
    rw [hQ, hQ] at q
    exact q
/-- a place in the middle of both chains is none -/
theorem mid_no {x a b b2 : Int × Int} (ha : ltx a x) (hb : ltx x b) (hb2 : ltx x b2) (l0 : 0 < tnx a x b) (l4 : 0 ≤ tnx x b b2) (u1 : 0 ≤ tnx b2 x a) : False := by
  have e0 : tnx a x b = crx (sbx x a) (sbx b x) := tnx_1 _ _ _
  have e4 : tnx x b b2 = crx (sbx b x) (sbx b2 x) := rfl
  have e5 : tnx b2 x a = crx (sbx b2 x) (sbx x a) := by
    unfold tnx crx sbx
    dsimp only
    grind
  have t := crx_tr (u := sbx b x) (v := sbx b2 x) (w := sbx x a) (ltx_0 (Or.inl hb)) hb2 (ltx_0 (Or.inl ha)) (by omega) (by omega)
  have sw2 : crx (sbx b x) (sbx x a) = -crx (sbx x a) (sbx b x) := by
    unfold crx
    grind
  omega
/-- a way's next place stands off its line -/
theorem wy_pos {P : Nat → Int × Int} {N a b c : Nat} (hc : c < N) (w : WyX P N a b) (h : ltx (P b) (P c)) : 0 < tnx (P a) (P b) (P c) := by
  obtain ⟨g1, g2⟩ := w.2 c hc
  rcases Int.lt_or_le 0 (tnx (P a) (P b) (P c)) with z | z
  · exact z
  · exfalso
    rcases (g2 (by omega)).2 with y | y
    · exact ltx_irr (ltx_tr h y)
    · rw [y] at h
      exact ltx_irr h
def hullH (N : Nat) (e : Nat → Nat) (lo up : List Nat) (j : Nat) : Nat := if j < lo.length - 1 then e (lo.getD (lo.length - 1 - j) 0) else e (N - 1 - up.getD (up.length - 1 - (j - (lo.length - 1))) 0)
theorem OrP.ne {S : aS} {p i N : Nat} {e : Nat → Nat} (h : OrP S p i N e) {a b : Nat} (ha : a < N) (hb : b < N) (hne : a ≠ b) : ¬ gSame S p (e a) (e b) := by
  intro z
  unfold gSame at z
  rcases Nat.lt_or_gt_of_ne hne with y | y
  · have := h.2.2.1 a b y hb
    unfold lexL at this
    omega
  · have := h.2.2.1 b a y ha
    unfold lexL at this
    omega
theorem OrP.le {S : aS} {p N : Nat} {e : Nat → Nat} (h : OrP S p (sGn S p) N e) (hN : 0 < N) : gLe S p (e 0) := by
  refine ⟨h.2.1 0 hN, fun i hi z => ?_⟩
  obtain ⟨k, hk, hs⟩ := h.2.2.2 i hi
  unfold gSame at hs
  by_cases y : k = 0
  · subst y
    unfold lexL at z
    omega
  · have := h.2.2.1 0 k (by omega) hk
    unfold lexL at this z
    omega
/-- the two chains share no place but their ends -/
theorem ch_12 {S : aS} {p N : Nat} {e : Nat → Nat} (h : OrP S p (sGn S p) N e) (hN : 3 ≤ N) : (chX (pl S p e) N).length - 1 + ((chX (plU S p N e) N).length - 1) ≤ N := by
  obtain ⟨a1, a2, a3, a4, a5, a6⟩ := ch_sum (P := pl S p e) (fun i j hij hj => h.lt hij hj) hN
  obtain ⟨b1, b2, b3, b4, b5, b6⟩ := ch_sum (P := plU S p N e) (fun i j hij hj => h.ltU hij hj) hN
  generalize chX (pl S p e) N = lo at *
  generalize chX (plU S p N e) N = up at *
  have f1 : ∀ x ∈ lo, x < N := a6
  -- the first chain's places but the first one, the second chain's but its first (the other end)
  have key : ∀ i < lo.length - 1, ∀ j < up.length - 1, lo.getD i 0 ≠ N - 1 - up.getD j 0 := by
    intro i hi j hj z
    have hx1 : 0 < lo.getD i 0 := by
      have := a4.get i (lo.length - 1) (by omega) (by omega)
      omega
    have hu1 : 0 < up.getD j 0 := by
      have := b4.get j (up.length - 1) (by omega) (by omega)
      omega
    have hxN := a6 _ (getD_mem (show i < lo.length by omega))
    have huN := b6 _ (getD_mem (show j < up.length by omega))
    have hi0 : 0 < i := by
      rcases Nat.eq_zero_or_pos i with y | y
      · subst y
        omega
      · exact y
    obtain ⟨i, rfl⟩ : ∃ k, i = k + 1 := ⟨i - 1, by omega⟩
    have w1 := allW_get a5 (i + 1) (by omega)
    have w2 := allW_get a5 i (by omega)
    have u := allW_get b5 j (by omega)
    have hbN := a6 _ (getD_mem (show i < lo.length by omega))
    have haN := a6 _ (getD_mem (show i + 1 + 1 < lo.length by omega))
    have hcN := b6 _ (getD_mem (show j + 1 < up.length by omega))
    have l0 := wy_pos hbN w1 w2.1
    have l4 := (w2.2 (N - 1 - up.getD (j + 1) 0) (by omega)).1
    have u1 := (u.2 (N - 1 - lo.getD (i + 1 + 1) 0) (by omega)).1
    have eT : tnx (plU S p N e (up.getD (j + 1) 0)) (plU S p N e (up.getD j 0)) (plU S p N e (N - 1 - lo.getD (i + 1 + 1) 0)) = tnx (pl S p e (N - 1 - up.getD (j + 1) 0)) (pl S p e (lo.getD (i + 1) 0)) (pl S p e (lo.getD (i + 1 + 1) 0)) := by
      rw [tn_plU, tn_pl, z, show N - 1 - (N - 1 - lo.getD (i + 1 + 1) 0) = lo.getD (i + 1 + 1) 0 by omega]
    rw [eT] at u1
    have hd := b4.get j (j + 1) (by omega) (by omega)
    exact mid_no w1.1 w2.1 (h.lt (show lo.getD (i + 1) 0 < N - 1 - up.getD (j + 1) 0 by omega) (by omega)) l0 l4 u1
  have hnd : (lo.take (lo.length - 1) ++ (up.take (up.length - 1)).map (fun b => N - 1 - b)).Nodup := by
    rw [List.nodup_append]
    refine ⟨List.Nodup.sublist (List.take_sublist _ _) a4.nd, ?_, ?_⟩
    · refine List.pairwise_map.mpr ((List.Nodup.sublist (List.take_sublist _ _) b4.nd).imp_of_mem fun {x y} hx hy hxy z => hxy ?_)
      have := b6 x (List.mem_of_mem_take hx)
      have := b6 y (List.mem_of_mem_take hy)
      omega
    · intro x hx y hy z
      obtain ⟨b, hb, eb⟩ := List.mem_map.mp hy
      obtain ⟨i, hi, ei⟩ := mem_getD hx
      obtain ⟨j, hj, ej⟩ := mem_getD hb
      rw [List.length_take] at hi hj
      have ti : (lo.take (lo.length - 1)).getD i 0 = lo.getD i 0 := by
        rw [List.getD_eq_getElem?_getD, List.getD_eq_getElem?_getD, List.getElem?_take_of_lt (by omega)]
      have tj : (up.take (up.length - 1)).getD j 0 = up.getD j 0 := by
        rw [List.getD_eq_getElem?_getD, List.getD_eq_getElem?_getD, List.getElem?_take_of_lt (by omega)]
      refine key i (by omega) j (by omega) ?_
      rw [← ti, ← tj, ei, ej, z, ← eb]
  have hle := nd_len (N := N) hnd (fun x hx => by
    rcases List.mem_append.mp hx with y | y
    · exact a6 x (List.mem_of_mem_take y)
    · obtain ⟨b, hb, eb⟩ := List.mem_map.mp y
      omega)
  rw [List.length_append, List.length_map, List.length_take, List.length_take] at hle
  omega
theorem hull_ok {S : aS} {p N : Nat} {e : Nat → Nat} (h : OrP S p (sGn S p) N e) (hN : 3 ≤ N) (hn : sGn S p ≤ 12) : HullP S p (hullH N e (chX (pl S p e) N) (chX (plU S p N e) N)) ((chX (pl S p e) N).length + (chX (plU S p N e) N).length - 2) := by
  have h12 := ch_12 h hN
  obtain ⟨a1, a2, a3, a4, a5, a6⟩ := ch_sum (P := pl S p e) (fun i j hij hj => h.lt hij hj) hN
  obtain ⟨b1, b2, b3, b4, b5, b6⟩ := ch_sum (P := plU S p N e) (fun i j hij hj => h.ltU hij hj) hN
  have hNn := h.1
  have nl : ∀ {a b : Nat}, b < N → WyX (pl S p e) N a b → Nxt S p (e a) (e b) := fun {a b} hb w => nxt_of (f := id) rfl h (fun a ha => ha) (fun k hk => ⟨k, hk, rfl⟩) (fun a b c => rfl) (fun a b => rfl) (fun a b hl => by
    unfold ltx lxp sbx at hl
    (try unfold pl at hl)
    unfold gSame
    (try dsimp only [id] at hl ⊢)
    (try simp only [gx, gy] at hl ⊢)
    omega) hb w
  have nu : ∀ {a b : Nat}, b < N → WyX (plU S p N e) N a b → Nxt S p (e (N - 1 - a)) (e (N - 1 - b)) := fun {a b} hb w => nxt_of (f := fun a => N - 1 - a) rfl h (fun a ha => by omega) (fun k hk => ⟨N - 1 - k, by omega, by omega⟩) (fun a b c => tn_plU S p N e a b c) (fun a b => by
    unfold gQ plU
    dsimp only
    grind) (fun a b hl => by
    unfold ltx lxp sbx at hl
    (try unfold plU at hl)
    unfold gSame
    (try dsimp only at hl ⊢)
    (try simp only [gx, gy] at hl ⊢)
    omega) hb w
  generalize chX (pl S p e) N = lo at *
  generalize chX (plU S p N e) N = up at *
  have e0 : hullH N e lo up 0 = e 0 := by
    unfold hullH
    rw [if_pos (by omega), Nat.sub_zero, a3]
  -- from the first chain's end on, both ways of saying it agree
  have em : e (lo.getD 0 0) = e (N - 1 - up.getD (up.length - 1) 0) := by
    rw [a2, b3, Nat.sub_zero]
  have eL : ∀ j, j ≤ lo.length - 1 → hullH N e lo up j = e (lo.getD (lo.length - 1 - j) 0) := fun j hj => by
    unfold hullH
    by_cases z : j < lo.length - 1
    · rw [if_pos z]
    · obtain rfl : j = lo.length - 1 := by omega
      rw [if_neg z, Nat.sub_self, Nat.sub_zero, em]
  have eU : ∀ j, lo.length - 1 ≤ j → hullH N e lo up j = e (N - 1 - up.getD (up.length - 1 - (j - (lo.length - 1))) 0) := fun j hj => by
    unfold hullH
    rw [if_neg (by omega)]
  refine ⟨⟨by omega, by omega⟩, by rw [e0]; exact h.le (by omega), fun j hj => ?_, ?_, fun j h0 hj => ?_⟩
  · by_cases z : j < lo.length - 1
    · rw [eL j (by omega), eL (j + 1) (by omega)]
      have w := allW_get a5 (lo.length - 1 - (j + 1)) (by omega)
      rw [show lo.length - 1 - (j + 1) + 1 = lo.length - 1 - j by omega] at w
      exact nl (a6 _ (getD_mem (by omega))) w
    · rw [eU j (by omega), eU (j + 1) (by omega)]
      have w := allW_get b5 (up.length - 1 - (j + 1 - (lo.length - 1))) (by omega)
      rw [show up.length - 1 - (j + 1 - (lo.length - 1)) + 1 = up.length - 1 - (j - (lo.length - 1)) by omega] at w
      exact nu (b6 _ (getD_mem (by omega))) w
  · rw [e0, eU _ (by omega), show up.length - 1 - (lo.length + up.length - 2 - (lo.length - 1)) = 0 by omega, b2, Nat.sub_self]
    exact ⟨rfl, rfl⟩
  · rw [e0]
    by_cases z : j < lo.length - 1
    · rw [eL j (by omega)]
      have hq := a4.get (lo.length - 1 - j) (lo.length - 1) (by omega) (by omega)
      exact h.ne (a6 _ (getD_mem (by omega))) (by omega) (by omega)
    · rw [eU j (by omega)]
      have hq := b4.get 0 (up.length - 1 - (j - (lo.length - 1))) (by omega) (by omega)
      exact h.ne (by omega) (by omega) (by omega)
/-- two places: there and back -/
theorem hull_2 {S : aS} {p : Nat} {e : Nat → Nat} (h : OrP S p (sGn S p) 2 e) : HullP S p (fun j => e (j % 2)) 2 := by
  have hne : ¬ gSame S p (e 0) (e 1) := h.ne (by omega) (by omega) (by omega)
  have hne2 : ¬ gSame S p (e 1) (e 0) := h.ne (by omega) (by omega) (by omega)
  have two : ∀ i < sGn S p, gSame S p (e 0) i ∨ gSame S p (e 1) i := fun i hi => by
    obtain ⟨k, hk, hs⟩ := h.2.2.2 i hi
    rcases (show k = 0 ∨ k = 1 by omega) with z | z
    · rw [z] at hs
      exact Or.inl hs
    · rw [z] at hs
      exact Or.inr hs
  have gd : ∀ a b i, gSame S p b i → gdK S p a b i := fun a b i hs => by
    refine Or.inr ⟨?_, ?_⟩
    · rw [gT_vv, vv_same2 hs]
      unfold crx
      grind
    · rw [gQ_vv, gQ_vv, vv_same2 hs]
      exact Int.le_refl _
  refine ⟨⟨by omega, by omega⟩, h.le (by omega), fun j hj => ?_, ⟨rfl, rfl⟩, fun j h0 hj => ?_⟩
  · rcases (show j = 0 ∨ j = 1 by omega) with z | z
    · subst z
      exact ⟨h.2.1 1 (by omega), hne, fun i hi hs => gd _ _ _ ((two i hi).resolve_left hs)⟩
    · subst z
      exact ⟨h.2.1 0 (by omega), hne2, fun i hi hs => gd _ _ _ ((two i hi).resolve_right hs)⟩
  · obtain rfl : j = 1 := by omega
    exact hne2
/-- the wrap as the reference leaves it, in one form -/
def WrH (S : aS) (p : Nat) (V1 : Nat → Nat → Int) (o : Nat) (r : Int) : Prop := ∃ (H : Nat → Nat) (m : Nat), r = m ∧ (∀ j < m, V1 (o + 9) j = ((12 * p + H j : Nat) : Int) ∧ H j < sGn S p) ∧ ((m = 0 ∧ sGn S p = 0) ∨ (m = 1 ∧ gLe S p (H 0) ∧ ∀ i < sGn S p, gSame S p (H 0) i) ∨ HullP S p H m)
theorem wr_h {S : aS} {p : Nat} {V1 : Nat → Nat → Int} {o : Nat} {r : Int} (hn : sGn S p ≤ 12) (h : WrM S p V1 o r) : WrH S p V1 o r := by
  obtain ⟨N, e, hO, ⟨hN, hr, hv⟩ | ⟨hN, h1, h2, hr⟩⟩ := h
  · rcases (show N = 0 ∨ N = 1 ∨ N = 2 by omega) with z | z | z
    · subst z
      refine ⟨e, 0, hr, fun j hj => by omega, Or.inl ⟨rfl, ?_⟩⟩
      rcases Nat.eq_zero_or_pos (sGn S p) with y | y
      · exact y
      · obtain ⟨k, hk, -⟩ := hO.2.2.2 0 y
        omega
    · subst z
      refine ⟨e, 1, hr, fun j hj => ⟨hv j hj, hO.2.1 j hj⟩, Or.inr (Or.inl ⟨rfl, hO.le (by omega), fun i hi => ?_⟩)⟩
      obtain ⟨k, hk, hs⟩ := hO.2.2.2 i hi
      obtain rfl : k = 0 := by omega
      exact hs
    · subst z
      refine ⟨fun j => e (j % 2), 2, hr, fun j hj => ?_, Or.inr (Or.inr (hull_2 hO))⟩
      have ej : j % 2 = j := by omega
      show V1 (o + 9) j = ((12 * p + e (j % 2) : Nat) : Int) ∧ e (j % 2) < sGn S p
      rw [ej]
      exact ⟨hv j hj, hO.2.1 j hj⟩
  · have hh := hull_ok hO hN hn
    obtain ⟨a1, a2, a3, a4, a5, a6⟩ := ch_sum (P := pl S p e) (fun i j hij hj => hO.lt hij hj) hN
    obtain ⟨b1, b2, b3, b4, b5, b6⟩ := ch_sum (P := plU S p N e) (fun i j hij hj => hO.ltU hij hj) hN
    refine ⟨_, _, hr, fun j hj => ?_, Or.inr (Or.inr hh)⟩
    generalize chX (pl S p e) N = lo at *
    generalize chX (plU S p N e) N = up at *
    unfold hullH
    by_cases z : j < lo.length - 1
    · rw [if_pos z]
      have := h1 j (by omega)
      rw [Nat.zero_add] at this
      exact ⟨this, hO.2.1 _ (a6 _ (getD_mem (by omega)))⟩
    · rw [if_neg z]
      have := h2 (j - (lo.length - 1)) (by omega)
      rw [show lo.length - 1 + (j - (lo.length - 1)) = j by omega] at this
      exact ⟨this, hO.2.1 _ (by omega)⟩
/-- both wraps have one length, and their corners one place each -/
theorem wrap_both {S : aS} {p : Nat} {V1 : Nat → Nat → Int} {o : Nat} {r : Int} {f t : Nat} (h : WrH S p V1 o r) (hf : gLe S p f) (ht : gEnd S p f t) : r = t ∧ ∀ j < t, ∃ a k : Nat, V1 (o + 9) j = ((12 * p + a : Nat) : Int) ∧ a < sGn S p ∧ gIt S p f j = k ∧ k < sGn S p ∧ gSame S p k a := by
  obtain ⟨H, m, hr, hv, ⟨rfl, h0⟩ | ⟨rfl, hl, ha⟩ | hh⟩ := h
  · have := hf.1
    omega
  · have hs := le_same hf hl
    have e1 := wrap_one hf ht (fun i hi => by have := ha i hi; unfold gSame at *; omega)
    subst e1
    refine ⟨hr, fun j hj => ?_⟩
    obtain rfl : j = 0 := by omega
    exact ⟨H 0, f, (hv 0 (by omega)).1, hl.1, rfl, hf.1, hs⟩
  · obtain ⟨e1, e2⟩ := wrap_eq hf ht hh
    subst e1
    refine ⟨hr, fun j hj => ?_⟩
    obtain ⟨k, ek, hk, hs⟩ := e2 j hj
    exact ⟨H j, k, (hv j hj).1, (hv j hj).2, ek, hk, hs⟩
