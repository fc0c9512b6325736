/-! the leaves of the class's search, by the kernel (Ib) -/
def ac1 (ok : Bool) (t : Nat) (s : Nat × List Nat) : Nat × List Nat := if ok = true then (if s.1.testBit t = true then s else (s.1 ||| 2 ^ t, s.2 ++ [t])) else s
def nb4 (S cl : Nat) : Nat × List Nat :=
  ac1 (and (Nat.ble 1 (cl / 17)) (not (and (Nat.beq (cl / 17) 1) (Nat.blt (cl % 17) 8)))) (cl - 17)
    (ac1 (and (Nat.ble 1 (cl % 17)) (not (and (Nat.beq (cl / 17) 0) (Nat.blt (cl % 17) 9)))) (cl - 1)
      (ac1 (Nat.blt (cl / 17) 8) (cl + 17)
        (ac1 (and (Nat.blt (cl % 17) 16) (not (and (Nat.beq (cl / 17) 0) (Nat.blt (cl % 17) 7)))) (cl + 1) (S, []))))
theorem ac1_len (ok : Bool) (t : Nat) (s : Nat × List Nat) : (ac1 ok t s).2.length ≤ s.2.length + 1 := by
  unfold ac1
  split
  · split
    · omega
    · rw [List.length_append]; simp
  · omega
theorem ac1_mem {ok : Bool} {t : Nat} {s : Nat × List Nat} {x : Nat} (h : x ∈ (ac1 ok t s).2) : x ∈ s.2 ∨ (ok = true ∧ x = t) := by
  unfold ac1 at h
  split at h
  · next e =>
    split at h
    · exact Or.inl h
    · rcases List.mem_append.mp h with h | h
      · exact Or.inl h
      · exact Or.inr ⟨e, List.mem_singleton.mp h⟩
  · exact Or.inl h
theorem acP_ac1 {s : Nat × List Nat} {L : List Nat} {x y : Int} {ok : Bool} {t : Nat} (h1 : ok = true ↔ ¬(y < 0 ∨ (y = 0 ∧ x < 8) ∨ x < 0 ∨ 17 ≤ x ∨ 9 ≤ y)) (h2 : ok = true → 17 * y.toNat + x.toNat = t) (h3 : (L ++ s.2).length < 64) : acP s.1 (L ++ s.2) x y = ((ac1 ok t s).1, L ++ (ac1 ok t s).2) := by
  unfold acP ac1
  by_cases e : ok = true
  · have g := h1.mp e
    rw [h2 e, if_pos e]
    by_cases b : s.1.testBit t = true
    · rw [if_pos (Or.inr (Or.inr (Or.inr (Or.inr (Or.inr (Or.inr b)))))), if_pos b]
    · rw [if_neg, if_neg b]
      · show (s.1 ||| 2 ^ t, (L ++ s.2) ++ [t]) = (s.1 ||| 2 ^ t, L ++ (s.2 ++ [t]))
        rw [List.append_assoc]
      · intro q
        rcases q with q | q | q | q | q | q | q
        · exact g (Or.inl q)
        · exact g (Or.inr (Or.inl q))
        · exact g (Or.inr (Or.inr (Or.inl q)))
        · exact g (Or.inr (Or.inr (Or.inr (Or.inl q))))
        · exact g (Or.inr (Or.inr (Or.inr (Or.inr q))))
        · omega
        · exact b q
  · have g : y < 0 ∨ (y = 0 ∧ x < 8) ∨ x < 0 ∨ 17 ≤ x ∨ 9 ≤ y := Classical.byContradiction fun q => e (h1.mpr q)
    rw [if_neg e, if_pos]
    rcases g with g | g | g | g | g
    · exact Or.inl g
    · exact Or.inr (Or.inl g)
    · exact Or.inr (Or.inr (Or.inl g))
    · exact Or.inr (Or.inr (Or.inr (Or.inl g)))
    · exact Or.inr (Or.inr (Or.inr (Or.inr (Or.inl g))))
theorem an4_nb (S : Nat) (L : List Nat) (cl : Nat) (hcl : cl < 153) (hL : L.length + 4 ≤ 64) : an4 (S, L) cl = ((nb4 S cl).1, L ++ (nb4 S cl).2) := by
  have hy : cl / 17 < 9 := by omega
  have hx : cl % 17 < 17 := by omega
  have hd : 17 * (cl / 17) + cl % 17 = cl := by omega
  have H : ∀ r1 r2 r3 : Nat × List Nat, acP S L (((cl % 17 : Nat) : Int) + 1) ((cl / 17 : Nat) : Int) = r1 → acP r1.1 r1.2 ((cl % 17 : Nat) : Int) (((cl / 17 : Nat) : Int) + 1) = r2 → acP r2.1 r2.2 (((cl % 17 : Nat) : Int) - 1) ((cl / 17 : Nat) : Int) = r3 → an4 (S, L) cl = acP r3.1 r3.2 ((cl % 17 : Nat) : Int) (((cl / 17 : Nat) : Int) - 1) := by
    intro r1 r2 r3 e1 e2 e3
    subst e1
    subst e2
    subst e3
    rfl
  have o1 : (and (Nat.blt (cl % 17) 16) (not (and (Nat.beq (cl / 17) 0) (Nat.blt (cl % 17) 7)))) = true ↔ ¬(((cl / 17 : Nat) : Int) < 0 ∨ (((cl / 17 : Nat) : Int) = 0 ∧ ((cl % 17 : Nat) : Int) + 1 < 8) ∨ ((cl % 17 : Nat) : Int) + 1 < 0 ∨ 17 ≤ ((cl % 17 : Nat) : Int) + 1 ∨ 9 ≤ ((cl / 17 : Nat) : Int)) := by
    simp only [blt_dec, ble_dec, beq_dec, Bool.and_eq_true, Bool.not_eq_true', Bool.and_eq_false_iff, decide_eq_true_eq, decide_eq_false_iff_not]
    omega
  have o2 : (Nat.blt (cl / 17) 8) = true ↔ ¬(((cl / 17 : Nat) : Int) + 1 < 0 ∨ (((cl / 17 : Nat) : Int) + 1 = 0 ∧ ((cl % 17 : Nat) : Int) < 8) ∨ ((cl % 17 : Nat) : Int) < 0 ∨ 17 ≤ ((cl % 17 : Nat) : Int) ∨ 9 ≤ ((cl / 17 : Nat) : Int) + 1) := by
    simp only [blt_dec, decide_eq_true_eq]
    omega
  have o3 : (and (Nat.ble 1 (cl % 17)) (not (and (Nat.beq (cl / 17) 0) (Nat.blt (cl % 17) 9)))) = true ↔ ¬(((cl / 17 : Nat) : Int) < 0 ∨ (((cl / 17 : Nat) : Int) = 0 ∧ ((cl % 17 : Nat) : Int) - 1 < 8) ∨ ((cl % 17 : Nat) : Int) - 1 < 0 ∨ 17 ≤ ((cl % 17 : Nat) : Int) - 1 ∨ 9 ≤ ((cl / 17 : Nat) : Int)) := by
    simp only [blt_dec, ble_dec, beq_dec, Bool.and_eq_true, Bool.not_eq_true', Bool.and_eq_false_iff, decide_eq_true_eq, decide_eq_false_iff_not]
    omega
  have o4 : (and (Nat.ble 1 (cl / 17)) (not (and (Nat.beq (cl / 17) 1) (Nat.blt (cl % 17) 8)))) = true ↔ ¬(((cl / 17 : Nat) : Int) - 1 < 0 ∨ (((cl / 17 : Nat) : Int) - 1 = 0 ∧ ((cl % 17 : Nat) : Int) < 8) ∨ ((cl % 17 : Nat) : Int) < 0 ∨ 17 ≤ ((cl % 17 : Nat) : Int) ∨ 9 ≤ ((cl / 17 : Nat) : Int) - 1) := by
    simp only [blt_dec, ble_dec, beq_dec, Bool.and_eq_true, Bool.not_eq_true', Bool.and_eq_false_iff, decide_eq_true_eq, decide_eq_false_iff_not]
    omega
  have l1 := ac1_len (and (Nat.blt (cl % 17) 16) (not (and (Nat.beq (cl / 17) 0) (Nat.blt (cl % 17) 7)))) (cl + 1) (S, [])
  have e1 := acP_ac1 (s := (S, [])) (L := L) o1 (t := cl + 1) (fun _ => by omega) (by show (L ++ []).length < 64; rw [List.append_nil]; omega)
  unfold nb4
  generalize ac1 (and (Nat.blt (cl % 17) 16) (not (and (Nat.beq (cl / 17) 0) (Nat.blt (cl % 17) 7)))) (cl + 1) (S, []) = s1 at *
  have l2 := ac1_len (Nat.blt (cl / 17) 8) (cl + 17) s1
  have e2 := acP_ac1 (s := s1) (L := L) o2 (t := cl + 17) (fun _ => by omega) (by rw [List.length_append]; simp only [List.length_nil] at l1; omega)
  generalize ac1 (Nat.blt (cl / 17) 8) (cl + 17) s1 = s2 at *
  have l3 := ac1_len (and (Nat.ble 1 (cl % 17)) (not (and (Nat.beq (cl / 17) 0) (Nat.blt (cl % 17) 9)))) (cl - 1) s2
  have e3 := acP_ac1 (s := s2) (L := L) o3 (t := cl - 1) (fun q => by have := o3.mp q; omega) (by rw [List.length_append]; simp only [List.length_nil] at l1; omega)
  generalize ac1 (and (Nat.ble 1 (cl % 17)) (not (and (Nat.beq (cl / 17) 0) (Nat.blt (cl % 17) 9)))) (cl - 1) s2 = s3 at *
  have e4 := acP_ac1 (s := s3) (L := L) o4 (t := cl - 17) (fun q => by have := o4.mp q; omega) (by rw [List.length_append]; simp only [List.length_nil] at l1; omega)
  have e1' : acP S L (((cl % 17 : Nat) : Int) + 1) ((cl / 17 : Nat) : Int) = (s1.1, L ++ s1.2) := by
    have e := e1
    rw [show L ++ ((S, []) : Nat × List Nat).2 = L from List.append_nil L] at e
    exact e
  rw [H (s1.1, L ++ s1.2) (s2.1, L ++ s2.2) (s3.1, L ++ s3.2) e1' e2 e3]
  exact e4
theorem nb4_lt {S cl : Nat} (hcl : cl < 153) : ∀ x ∈ (nb4 S cl).2, x < 153 := by
  intro x hx
  unfold nb4 at hx
  rcases ac1_mem hx with hx | ⟨_, hx⟩
  · rcases ac1_mem hx with hx | ⟨_, hx⟩
    · rcases ac1_mem hx with hx | ⟨e, hx⟩
      · rcases ac1_mem hx with hx | ⟨e, hx⟩
        · cases hx
        · rw [Bool.and_eq_true, blt_dec, decide_eq_true_eq] at e
          omega
      · rw [blt_dec, decide_eq_true_eq] at e
        omega
    · omega
  · omega
theorem nb4_len (S cl : Nat) : (nb4 S cl).2.length ≤ 4 := by
  unfold nb4
  have h1 := ac1_len (and (Nat.blt (cl % 17) 16) (not (and (Nat.beq (cl / 17) 0) (Nat.blt (cl % 17) 7)))) (cl + 1) (S, [])
  generalize ac1 (and (Nat.blt (cl % 17) 16) (not (and (Nat.beq (cl / 17) 0) (Nat.blt (cl % 17) 7)))) (cl + 1) (S, []) = s1 at *
  have h2 := ac1_len (Nat.blt (cl / 17) 8) (cl + 17) s1
  generalize ac1 (Nat.blt (cl / 17) 8) (cl + 17) s1 = s2 at *
  have h3 := ac1_len (and (Nat.ble 1 (cl % 17)) (not (and (Nat.beq (cl / 17) 0) (Nat.blt (cl % 17) 9)))) (cl - 1) s2
  generalize ac1 (and (Nat.ble 1 (cl % 17)) (not (and (Nat.beq (cl / 17) 0) (Nat.blt (cl % 17) 9)))) (cl - 1) s2 = s3 at *
  have h4 := ac1_len (and (Nat.ble 1 (cl / 17)) (not (and (Nat.beq (cl / 17) 1) (Nat.blt (cl % 17) 8)))) (cl - 17) s3
  simp only [List.length_nil] at h1
  omega
/-- the figures that the search comes to, the last cell first -/
def lvW (F : List Nat → Nat → List Nat → List (List Nat)) (S : Nat) (ch : List Nat) : List Nat → List (List Nat)
  | [] => []
  | cl :: W => F (W ++ (nb4 S cl).2) (nb4 S cl).1 (cl :: ch) ++ lvW F S ch W
def lvs : Nat → List Nat → Nat → List Nat → List (List Nat)
  | 0, W, _, ch => W.map (fun cl => cl :: ch)
  | m + 1, W, S, ch => lvW (lvs m) S ch W
theorem smN_front (k : Nat) (f : Nat → Nat) : smN (k + 1) f = f 0 + smN k (fun j => f (j + 1)) := by
  induction k with
  | zero => show 0 + f 0 = f 0 + 0; omega
  | succ k ih =>
    have h : smN (k + 1 + 1) f = smN (k + 1) f + f (k + 1) := rfl
    have h2 : smN (k + 1) (fun j => f (j + 1)) = smN k (fun j => f (j + 1)) + f (k + 1) := rfl
    rw [h, ih, h2]
    omega
theorem smN_congr {k : Nat} {f g : Nat → Nat} (h : ∀ j < k, f j = g j) : smN k f = smN k g := by
  induction k with
  | zero => rfl
  | succ k ih =>
    show smN k f + f k = smN k g + g k
    rw [ih (fun j hj => h j (by omega)), h k (by omega)]
theorem allN_of {k : Nat} {f : Nat → Bool} (h : ∀ j < k, f j = true) : allN k f = true := by
  induction k with
  | zero => rfl
  | succ k ih =>
    show (allN k f && f k) = true
    rw [ih (fun j hj => h j (by omega)), h k (by omega)]
    rfl
theorem sm_drop (L : List Nat) (g : Nat → List Nat → Nat) (R : List Nat → Nat) (h0 : R [] = 0) (h1 : ∀ a t, R (a :: t) = g a t + R t) : ∀ k fr, L.length - fr = k → smN k (fun j => g (L.getD (fr + j) 0) (L.drop (fr + j + 1))) = R (L.drop fr) := by
  intro k
  induction k with
  | zero =>
    intro fr hk
    rw [List.drop_eq_nil_of_le (by omega), h0]
    rfl
  | succ k ih =>
    intro fr hk
    have hl : fr < L.length := by omega
    rw [List.drop_eq_getElem_cons hl, h1, smN_front]
    have e1 : L.getD (fr + 0) 0 = L[fr] := by
      rw [Nat.add_zero, List.getD_eq_getElem?_getD, List.getElem?_eq_getElem hl]
      rfl
    rw [e1, Nat.add_zero, ← ih (fr + 1) (by omega)]
    congr 1
    refine smN_congr (fun j _ => ?_)
    rw [show fr + (j + 1) = fr + 1 + j by omega]
theorem getD_lt {L : List Nat} (hL : ∀ x ∈ L, x < 153) {i : Nat} (hi : i < L.length) : L.getD i 0 < 153 := by
  rw [List.getD_eq_getElem?_getD, List.getElem?_eq_getElem hi]
  exact hL _ (List.getElem_mem hi)
theorem app_lt {L N : List Nat} (hL : ∀ x ∈ L, x < 153) (hN : ∀ x ∈ N, x < 153) : ∀ x ∈ L ++ N, x < 153 := by
  intro x hx
  rcases List.mem_append.mp hx with hx | hx
  · exact hL x hx
  · exact hN x hx
theorem cgr_lv (kd n : Nat) : ∀ (m : Nat) (L : List Nat) (S : Nat) (ch : List Nat) (fr : Nat), L.length + 4 * m ≤ 64 → (∀ x ∈ L, x < 153) → cgr kd n (m + 1) L S ch fr = (lvs m (L.drop fr) S ch.reverse).countP (fun c => wantB kd n c.reverse) := by
  intro m
  induction m with
  | zero =>
    intro L S ch fr hL hb
    have key := sm_drop L (fun cl _ => if wantB kd n (ch ++ [cl]) = true then 1 else 0) (fun W => (W.map (fun cl => cl :: ch.reverse)).countP (fun c => wantB kd n c.reverse)) rfl (by
      intro a t
      rw [List.map_cons, List.countP_cons, List.reverse_cons, List.reverse_reverse]
      omega) (L.length - fr) fr rfl
    exact key
  | succ m ih =>
    intro L S ch fr hL hb
    have key := sm_drop L (fun cl t => (lvs m (t ++ (nb4 S cl).2) (nb4 S cl).1 (cl :: ch.reverse)).countP (fun c => wantB kd n c.reverse)) (fun W => (lvW (lvs m) S ch.reverse W).countP (fun c => wantB kd n c.reverse)) rfl (by
      intro a t
      show (lvs m (t ++ (nb4 S a).2) (nb4 S a).1 (a :: ch.reverse) ++ lvW (lvs m) S ch.reverse t).countP _ = _
      rw [List.countP_append]) (L.length - fr) fr rfl
    refine Eq.trans ?_ key
    show smN (L.length - fr) _ = _
    refine smN_congr (fun j hj => ?_)
    rw [if_neg (by omega)]
    have hl : fr + j < L.length := by omega
    have hcl := getD_lt hb hl
    rw [an4_nb S L _ hcl (by omega)]
    have hn := nb4_len S (L.getD (fr + j) 0)
    show cgr kd n (m + 1) (L ++ (nb4 S (L.getD (fr + j) 0)).2) (nb4 S (L.getD (fr + j) 0)).1 (ch ++ [L.getD (fr + j) 0]) (fr + j + 1) = _
    rw [ih _ _ _ _ (by rw [List.length_append]; omega) (app_lt hb (nb4_lt hcl)), List.drop_append_of_le_length (by omega), List.reverse_append]
    rfl
theorem lvW_mem {F : List Nat → Nat → List Nat → List (List Nat)} {S : Nat} {ch : List Nat} (L : List Nat) (c : List Nat) : ∀ (k fr j : Nat), L.length - fr = k → fr + j < L.length → c ∈ F (L.drop (fr + j + 1) ++ (nb4 S (L.getD (fr + j) 0)).2) (nb4 S (L.getD (fr + j) 0)).1 (L.getD (fr + j) 0 :: ch) → c ∈ lvW F S ch (L.drop fr) := by
  intro k
  induction k with
  | zero => intro fr j hk hj; omega
  | succ k ih =>
    intro fr j hk hj hc
    have hl : fr < L.length := by omega
    rw [List.drop_eq_getElem_cons hl]
    show c ∈ F (L.drop (fr + 1) ++ (nb4 S L[fr]).2) (nb4 S L[fr]).1 (L[fr] :: ch) ++ lvW F S ch (L.drop (fr + 1))
    cases j with
    | zero =>
      have e1 : L.getD (fr + 0) 0 = L[fr] := by
        rw [Nat.add_zero, List.getD_eq_getElem?_getD, List.getElem?_eq_getElem hl]
        rfl
      rw [e1] at hc
      exact List.mem_append_left _ hc
    | succ j =>
      refine List.mem_append_right _ (ih (fr + 1) j (by omega) (by omega) ?_)
      rw [show fr + 1 + j = fr + (j + 1) by omega]
      exact hc
theorem cgK_lv (kd : Nat) : ∀ (m : Nat) (L : List Nat) (S : Nat) (ch : List Nat) (fr : Nat), L.length + 4 * m ≤ 64 → (∀ x ∈ L, x < 153) → (∀ c ∈ lvs m (L.drop fr) S ch.reverse, wantK kd c.reverse = true) → cgK kd (m + 1) L S ch fr = true := by
  intro m
  induction m with
  | zero =>
    intro L S ch fr hL hb hk
    show allN (L.length - fr) _ = true
    refine allN_of (fun j hj => ?_)
    rw [if_pos rfl]
    have hl : fr + j < L.length := by omega
    have := hk (L.getD (fr + j) 0 :: ch.reverse) (by
      show _ ∈ (L.drop fr).map (fun cl => cl :: ch.reverse)
      refine List.mem_map.mpr ⟨L.getD (fr + j) 0, ?_, rfl⟩
      rw [List.getD_eq_getElem?_getD, List.getElem?_eq_getElem hl]
      show L[fr + j] ∈ L.drop fr
      have e : (L.drop fr)[j]'(by rw [List.length_drop]; omega) = L[fr + j] := List.getElem_drop ..
      rw [← e]
      exact List.getElem_mem _)
    rw [List.reverse_cons, List.reverse_reverse] at this
    exact this
  | succ m ih =>
    intro L S ch fr hL hb hk
    show allN (L.length - fr) _ = true
    refine allN_of (fun j hj => ?_)
    rw [if_neg (by omega)]
    have hl : fr + j < L.length := by omega
    have hcl := getD_lt hb hl
    rw [an4_nb S L _ hcl (by omega)]
    have hn := nb4_len S (L.getD (fr + j) 0)
    show cgK kd (m + 1) (L ++ (nb4 S (L.getD (fr + j) 0)).2) (nb4 S (L.getD (fr + j) 0)).1 (ch ++ [L.getD (fr + j) 0]) (fr + j + 1) = true
    refine ih _ _ _ _ (by rw [List.length_append]; omega) (app_lt hb (nb4_lt hcl)) (fun c hc => ?_)
    rw [List.drop_append_of_le_length (by omega), List.reverse_append] at hc
    exact hk c (lvW_mem L c (L.length - fr) fr j rfl hl hc)
/-- a figure's bits, moved to the corner -/
def nrL (ch : List Nat) : Nat := ch.foldl (fun a c => if a ≤ c % 17 then a else c % 17) 17
def nrm (ch : List Nat) : Nat := ch.foldl (fun f c => f ||| 2 ^ (8 * (c / 17) + c % 17 - nrL ch)) 0
noncomputable def nrLk {α : Type} (ch : List Nat) (a : Nat) (k : Nat → α) : α :=
  List.rec (motive := fun _ => Nat → (Nat → α) → α) (fun a k => k a) (fun c _ ih a k => fcN (Nat.mod c 17) (fun x => stp (Nat.ble a x) (ih a k) (ih x k))) ch a k
theorem nrLk_eq {α : Type} (ch : List Nat) : ∀ (a : Nat) (k : Nat → α), nrLk ch a k = k (ch.foldl (fun a c => if a ≤ c % 17 then a else c % 17) a) := by
  induction ch with
  | nil => intro a k; rfl
  | cons c t ih =>
    intro a k
    have h : nrLk (c :: t) a k = fcN (Nat.mod c 17) (fun x => stp (Nat.ble a x) (nrLk t a k) (nrLk t x k)) := rfl
    rw [h, fcN_eq, stp_if, ble_dec, ih, ih, List.foldl_cons]
    show (if decide (a ≤ c % 17) = true then _ else _) = _
    by_cases q : a ≤ c % 17
    · rw [if_pos (decide_eq_true q), if_pos q]
    · rw [if_neg (by rw [decide_eq_true_eq]; exact q), if_neg q]
      rfl
/-- all within eight columns -/
noncomputable def nrMk (lx : Nat) (ch : List Nat) (f : Nat) (k : Nat → Bool) : Bool :=
  List.rec (motive := fun _ => Nat → (Nat → Bool) → Bool) (fun f k => k f) (fun c _ ih f k => stp (Nat.blt (Nat.mod c 17) (Nat.add lx 8)) (fcN (Nat.lor f (Nat.shiftLeft 1 (Nat.sub (Nat.add (Nat.mul 8 (Nat.div c 17)) (Nat.mod c 17)) lx))) (fun v => ih v k)) false) ch f k
theorem nrMk_eq (lx : Nat) (ch : List Nat) : ∀ (f : Nat) (k : Nat → Bool), nrMk lx ch f k = true → (∀ c ∈ ch, c % 17 < lx + 8) ∧ k (ch.foldl (fun f c => f ||| 2 ^ (8 * (c / 17) + c % 17 - lx)) f) = true := by
  induction ch with
  | nil => intro f k h; exact ⟨fun c hc => (by cases hc), h⟩
  | cons c t ih =>
    intro f k h
    have e : nrMk lx (c :: t) f k = stp (Nat.blt (Nat.mod c 17) (Nat.add lx 8)) (fcN (Nat.lor f (Nat.shiftLeft 1 (Nat.sub (Nat.add (Nat.mul 8 (Nat.div c 17)) (Nat.mod c 17)) lx))) (fun v => nrMk lx t v k)) false := rfl
    rw [e, stp_if, blt_dec] at h
    by_cases q : c % 17 < lx + 8
    · have q2 : decide (Nat.mod c 17 < Nat.add lx 8) = true := decide_eq_true q
      rw [if_pos q2, fcN_eq] at h
      obtain ⟨h1, h2⟩ := ih _ _ h
      refine ⟨fun x hx => ?_, ?_⟩
      · rcases List.mem_cons.mp hx with hx | hx
        · rw [hx]; exact q
        · exact h1 x hx
      · rw [List.foldl_cons]
        have e2 : Nat.lor f (Nat.shiftLeft 1 (Nat.sub (Nat.add (Nat.mul 8 (Nat.div c 17)) (Nat.mod c 17)) lx)) = f ||| 2 ^ (8 * (c / 17) + c % 17 - lx) := by
          show f ||| (1 <<< (8 * (c / 17) + c % 17 - lx)) = _
          rw [Nat.one_shiftLeft]
        rw [e2] at h2
        exact h2
    · have q2 : ¬ decide (Nat.mod c 17 < Nat.add lx 8) = true := fun r => q (of_decide_eq_true r)
      rw [if_neg q2] at h
      cases h
noncomputable def ack1 {α : Type} (ok : Bool) (t S : Nat) (N : List Nat) (k : Nat → List Nat → α) : α := stp ok (stp (btk S t) (k S N) (fcN (Nat.lor S (Nat.shiftLeft 1 t)) (fun S1 => lapk N [t] (fun N1 => k S1 N1)))) (k S N)
theorem ack1_eq {α : Type} (ok : Bool) (t S : Nat) (N : List Nat) (k : Nat → List Nat → α) : ack1 ok t S N k = k (ac1 ok t (S, N)).1 (ac1 ok t (S, N)).2 := by
  unfold ack1 ac1
  rw [stp_if, stp_if, btk_eq, fcN_eq, lapk_eq]
  by_cases e : ok = true
  · rw [if_pos e, if_pos e]
    by_cases b : S.testBit t = true
    · rw [if_pos b, if_pos b]
    · rw [if_neg b, if_neg b]
      show k (S ||| (1 <<< t)) (N ++ [t]) = _
      rw [Nat.one_shiftLeft]
  · rw [if_neg e, if_neg e]
noncomputable def nbk {α : Type} (S cl : Nat) (k : Nat → List Nat → α) : α :=
  fcN (Nat.mod cl 17) (fun x => fcN (Nat.div cl 17) (fun y =>
    fcN (Nat.add cl 1) (fun t1 => ack1 (and (Nat.blt x 16) (not (and (Nat.beq y 0) (Nat.blt x 7)))) t1 S [] (fun S N =>
      fcN (Nat.add cl 17) (fun t2 => ack1 (Nat.blt y 8) t2 S N (fun S N =>
        fcN (Nat.sub cl 1) (fun t3 => ack1 (and (Nat.ble 1 x) (not (and (Nat.beq y 0) (Nat.blt x 9)))) t3 S N (fun S N =>
          fcN (Nat.sub cl 17) (fun t4 => ack1 (and (Nat.ble 1 y) (not (and (Nat.beq y 1) (Nat.blt x 8)))) t4 S N k)))))))))
theorem nbk_eq {α : Type} (S cl : Nat) (k : Nat → List Nat → α) : nbk S cl k = k (nb4 S cl).1 (nb4 S cl).2 := by
  unfold nbk nb4
  simp only [fcN_eq, ack1_eq]
  rfl
/-- the leaves, one behind the other -/
noncomputable def lfk (m : Nat) : List Nat → Nat → List Nat → List Nat → (List Nat → Bool) → Bool :=
  Nat.rec (motive := fun _ => List Nat → Nat → List Nat → List Nat → (List Nat → Bool) → Bool)
    (fun W _ ch acc k => List.rec (motive := fun _ => List Nat → (List Nat → Bool) → Bool) (fun acc k => k acc) (fun cl _ ih acc k => nrLk (cl :: ch) 17 (fun lx => nrMk lx (cl :: ch) 0 (fun v => ih (v :: acc) k))) W acc k)
    (fun _ rc W S ch acc k => List.rec (motive := fun _ => List Nat → (List Nat → Bool) → Bool) (fun acc k => k acc) (fun cl W1 ih acc k => nbk S cl (fun S1 N => lapk W1 N (fun W2 => rc W2 S1 (cl :: ch) acc (fun acc => ih acc k)))) W acc k) m
theorem lfk_eq : ∀ (m : Nat) (W : List Nat) (S : Nat) (ch acc : List Nat) (k : List Nat → Bool), lfk m W S ch acc k = true → (∀ c ∈ lvs m W S ch, ∀ x ∈ c, x % 17 < nrL c + 8) ∧ k (((lvs m W S ch).map nrm).reverse ++ acc) = true := by
  intro m
  induction m with
  | zero =>
    intro W S ch
    induction W with
    | nil => intro acc k h; exact ⟨fun c hc => (by cases hc), h⟩
    | cons cl t ih =>
      intro acc k h
      have e : lfk 0 (cl :: t) S ch acc k = nrLk (cl :: ch) 17 (fun lx => nrMk lx (cl :: ch) 0 (fun v => lfk 0 t S ch (v :: acc) k)) := rfl
      rw [e, nrLk_eq] at h
      obtain ⟨h1, h2⟩ := nrMk_eq _ _ _ _ h
      obtain ⟨h3, h4⟩ := ih _ _ h2
      refine ⟨fun c hc => ?_, ?_⟩
      · rcases List.mem_cons.mp (show c ∈ (cl :: ch) :: lvs 0 t S ch from hc) with hc | hc
        · rw [hc]; exact h1
        · exact h3 c hc
      · have e2 : ((lvs 0 (cl :: t) S ch).map nrm).reverse ++ acc = ((lvs 0 t S ch).map nrm).reverse ++ (nrm (cl :: ch) :: acc) := by
          show ((((cl :: ch) :: lvs 0 t S ch).map nrm).reverse) ++ acc = _
          rw [List.map_cons, List.reverse_cons, List.append_assoc]
          rfl
        rw [e2]
        exact h4
  | succ m ihm =>
    intro W S ch
    induction W with
    | nil => intro acc k h; exact ⟨fun c hc => (by cases hc), h⟩
    | cons cl t ih =>
      intro acc k h
      have e : lfk (m + 1) (cl :: t) S ch acc k = nbk S cl (fun S1 N => lapk t N (fun W2 => lfk m W2 S1 (cl :: ch) acc (fun acc => lfk (m + 1) t S ch acc k))) := rfl
      rw [e, nbk_eq, lapk_eq] at h
      obtain ⟨h1, h2⟩ := ihm _ _ _ _ _ h
      obtain ⟨h3, h4⟩ := ih _ _ h2
      have e3 : lvs (m + 1) (cl :: t) S ch = lvs m (t ++ (nb4 S cl).2) (nb4 S cl).1 (cl :: ch) ++ lvs (m + 1) t S ch := rfl
      rw [e3]
      refine ⟨fun c hc => ?_, ?_⟩
      · rcases List.mem_append.mp hc with hc | hc
        · exact h1 c hc
        · exact h3 c hc
      · rw [List.map_append, List.reverse_append, List.append_assoc]
        exact h4
noncomputable def leafK (m d : Nat) (gs : List Nat) : Bool := lfk m [8] 256 [] [] (fun l => eqk (msk d l) gs)
theorem leafK_eq {m d : Nat} {gs : List Nat} (h : leafK m d gs = true) : (∀ c ∈ lvs m [8] 256 [], ∀ x ∈ c, x % 17 < nrL c + 8) ∧ ((lvs m [8] 256 []).map nrm).Perm gs := by
  obtain ⟨h1, h2⟩ := lfk_eq m [8] 256 [] [] _ h
  refine ⟨h1, ?_⟩
  have h3 := eqk_eq _ _ h2
  rw [← h3, List.append_nil]
  exact ((msk_perm d _).trans (List.reverse_perm _)).symm
set_option maxRecDepth 1000000 in
theorem leaf_1 : leafK 0 0 figL1 = true := by decide +kernel
set_option maxRecDepth 1000000 in
theorem leaf_2 : leafK 1 1 figL2 = true := by decide +kernel
set_option maxRecDepth 1000000 in
theorem leaf_3 : leafK 2 3 figL3 = true := by decide +kernel
set_option maxRecDepth 1000000 in
theorem leaf_4 : leafK 3 5 figL4 = true := by decide +kernel
set_option maxRecDepth 1000000 in
theorem leaf_5 : leafK 4 6 figL5 = true := by decide +kernel
set_option maxRecDepth 1000000 in
theorem leaf_6 : leafK 5 8 figL6 = true := by decide +kernel
set_option maxRecDepth 1000000 in
theorem leaf_7 : leafK 6 10 figL7 = true := by decide +kernel
set_option maxRecDepth 1000000 in
theorem leaf_8 : leafK 7 12 figL8 = true := by decide +kernel
theorem leaf_all {n : Nat} (h1 : 1 ≤ n) (h8 : n ≤ 8) : (∀ c ∈ lvs (n - 1) [8] 256 [], ∀ x ∈ c, x % 17 < nrL c + 8) ∧ ((lvs (n - 1) [8] 256 []).map nrm).Perm (figN n) := by
  obtain ⟨v1, v2, v3, v4, v5, v6, v7, v8⟩ := figN_v
  rcases (show n = 1 ∨ n = 2 ∨ n = 3 ∨ n = 4 ∨ n = 5 ∨ n = 6 ∨ n = 7 ∨ n = 8 by omega) with e | e | e | e | e | e | e | e <;> subst e
  · rw [v1]; exact leafK_eq leaf_1
  · rw [v2]; exact leafK_eq leaf_2
  · rw [v3]; exact leafK_eq leaf_3
  · rw [v4]; exact leafK_eq leaf_4
  · rw [v5]; exact leafK_eq leaf_5
  · rw [v6]; exact leafK_eq leaf_6
  · rw [v7]; exact leafK_eq leaf_7
  · rw [v8]; exact leafK_eq leaf_8
