/-! polynomials: rows by 286 places and by 1331, the same -/
abbrev pG (x : Nat) : Prop := x / 121 + x / 11 % 11 + x % 11 ≤ 10
def pC (t : Nat) : Nat := 121 * (pE t).1 + 11 * (pE t).2.1 + (pE t).2.2
def pK (x : Nat) : Nat := pI (x / 121) (x / 11 % 11) (x % 11)
def pD (t : Nat) : Nat := (pE t).1 + (pE t).2.1 + (pE t).2.2
def big (f : Nat → Int) (x : Nat) : Int := if pG x then f (pK x) else 0
theorem pE_K {x : Nat} (g : pG x) : pE (pK x) = (x / 121, x / 11 % 11, x % 11) := pE_pI g
theorem pK_lt {x : Nat} (g : pG x) : pK x < 286 := pI_lt g
theorem pC_K {x : Nat} (g : pG x) : pC (pK x) = x := by
  unfold pC
  rw [pE_K g]
  try dsimp only
  omega
theorem pD_K {x : Nat} (g : pG x) : pD (pK x) = x / 121 + x / 11 % 11 + x % 11 := by
  unfold pD
  rw [pE_K g]
theorem pC_at {i j k : Nat} (h : i + j + k ≤ 10) : (121 * i + 11 * j + k) / 121 = i ∧ (121 * i + 11 * j + k) / 11 % 11 = j ∧ (121 * i + 11 * j + k) % 11 = k := by omega
theorem pK_C {t : Nat} (h : t < 286) : pG (pC t) ∧ pK (pC t) = t ∧ pC t < 1331 := by
  obtain ⟨h1, h2⟩ := pI_pE t h
  obtain ⟨e1, e2, e3⟩ := pC_at h1
  unfold pG pK pC
  rw [e1, e2, e3]
  exact ⟨h1, h2, by omega⟩
theorem pD_C {t : Nat} (h : t < 286) : pC t / 121 = (pE t).1 ∧ pC t / 11 % 11 = (pE t).2.1 ∧ pC t % 11 = (pE t).2.2 := pC_at (pI_pE t h).1
theorem pC_inj {t u : Nat} (ht : t < 286) (hu : u < 286) (h : pC t = pC u) : t = u := by rw [← (pK_C ht).2.1, ← (pK_C hu).2.1, h]
theorem big_C {f : Nat → Int} {t : Nat} (h : t < 286) : big f (pC t) = f t := by
  unfold big
  rw [if_pos (pK_C h).1, (pK_C h).2.1]
/-- the place of a product of terms -/
def pA (p q : Nat) : Nat := pI ((pE p).1 + (pE q).1) ((pE p).2.1 + (pE q).2.1) ((pE p).2.2 + (pE q).2.2)
theorem pA_ok {p q : Nat} (h : pD p + pD q ≤ 10) : pA p q < 286 ∧ pC (pA p q) = pC p + pC q := by
  unfold pD at h
  have h1 : ((pE p).1 + (pE q).1) + ((pE p).2.1 + (pE q).2.1) + ((pE p).2.2 + (pE q).2.2) ≤ 10 := by omega
  refine ⟨pI_lt h1, ?_⟩
  unfold pC pA
  rw [pE_pI h1]
  try dsimp only
  omega
/-- going through places in their order -/
def itN {σ : Type} (st : Nat → σ → σ) : Nat → σ → σ
  | 0, s => s
  | n + 1, s => st n (itN st n s)
theorem itN_co {σ : Type} {st st2 : Nat → σ → σ} {s : σ} : ∀ n, (∀ t < n, ∀ u, st t u = st2 t u) → itN st n s = itN st2 n s
  | 0, _ => rfl
  | n + 1, h => by
    show st n (itN st n s) = st2 n (itN st2 n s)
    rw [itN_co n (fun t ht => h t (by omega)), h n (by omega)]
theorem itN_re {σ τ : Type} {st : Nat → σ → σ} {st2 : Nat → τ → τ} (R : σ → τ → Prop) {s : σ} {s2 : τ} (h0 : R s s2) : ∀ n, (∀ t < n, ∀ u v, R u v → R (st t u) (st2 t v)) → R (itN st n s) (itN st2 n s2)
  | 0, _ => h0
  | n + 1, h => h n (by omega) _ _ (itN_re R h0 n (fun t ht => h t (by omega)))
theorem itN_P {σ : Type} {st : Nat → σ → σ} (P : Nat → σ → Prop) {s : σ} (h0 : P 0 s) : ∀ n, (∀ t < n, ∀ u, P t u → P (t + 1) (st t u)) → P n (itN st n s)
  | 0, _ => h0
  | n + 1, h => h n (by omega) _ (itN_P P h0 n (fun t ht => h t (by omega)))
def cntN : Nat → Nat
  | 0 => 0
  | x + 1 => if pG x then cntN x + 1 else cntN x
def ckN : Nat → Nat → Nat → Bool
  | 0, _, a => Nat.beq a 286
  | f + 1, x, a => if pG x then Nat.beq (pK x) a && ckN f (x + 1) (a + 1) else ckN f (x + 1) a
set_option maxRecDepth 100000 in
theorem ckN_ok : ckN 1331 0 0 = true := by decide +kernel
theorem ckN_at : ∀ f x, ckN f x (cntN x) = true → cntN (x + f) = 286 ∧ ∀ y, x ≤ y → y < x + f → pG y → pK y = cntN y
  | 0, x, h => ⟨Nat.eq_of_beq_eq_true h, fun y h1 h2 => by omega⟩
  | f + 1, x, h => by
    unfold ckN at h
    by_cases g : pG x
    · rw [if_pos g, Bool.and_eq_true] at h
      have e : cntN (x + 1) = cntN x + 1 := if_pos g
      obtain ⟨h1, h2⟩ := ckN_at f (x + 1) (by rw [e]; exact h.2)
      refine ⟨by rw [show x + (f + 1) = x + 1 + f by omega]; exact h1, fun y q1 q2 q3 => ?_⟩
      by_cases z : y = x
      · rw [z]
        exact Nat.eq_of_beq_eq_true h.1
      · exact h2 y (by omega) (by omega) q3
    · rw [if_neg g] at h
      have e : cntN (x + 1) = cntN x := if_neg g
      obtain ⟨h1, h2⟩ := ckN_at f (x + 1) (by rw [e]; exact h)
      refine ⟨by rw [show x + (f + 1) = x + 1 + f by omega]; exact h1, fun y q1 q2 q3 => ?_⟩
      by_cases z : y = x
      · exact absurd (z ▸ q3) g
      · exact h2 y (by omega) (by omega) q3
theorem cnt_at {x : Nat} (hx : x < 1331) (g : pG x) : pC (cntN x) = x := by
  rw [← (ckN_at 1331 0 ckN_ok).2 x (by omega) (by omega) g, pC_K g]
theorem it_re {σ : Type} {st : Nat → σ → σ} {s : σ} : ∀ x, x ≤ 1331 → (∀ y < x, ¬ pG y → ∀ u, st y u = u) → itN st x s = itN (fun t => st (pC t)) (cntN x) s
  | 0, _, _ => rfl
  | x + 1, hx, h => by
    have ih := it_re (st := st) (s := s) x (by omega) (fun y hy => h y (by omega))
    show st x (itN st x s) = _
    by_cases g : pG x
    · have e : cntN (x + 1) = cntN x + 1 := if_pos g
      rw [e]
      show _ = st (pC (cntN x)) (itN (fun t => st (pC t)) (cntN x) s)
      rw [cnt_at (by omega) g, ih]
    · have e : cntN (x + 1) = cntN x := if_neg g
      rw [e, h x (by omega) g, ih]
theorem it_all {σ : Type} {st : Nat → σ → σ} {s : σ} (h : ∀ y < 1331, ¬ pG y → ∀ u, st y u = u) : itN st 1331 s = itN (fun t => st (pC t)) 286 s := by
  rw [it_re 1331 (Nat.le_refl _) h, show cntN 1331 = 286 from (ckN_at 1331 0 ckN_ok).1]
/-- small rows -/
def smX (f : Nat → Int) : Prop := ∀ t < 286, -67108864 ≤ f t ∧ f t ≤ 67108864
def smM (F : Nat → Int) : Prop := ∀ x < 1331, -67108864 ≤ F x ∧ F x ≤ 67108864
def BigR (F f : Nat → Int) : Prop := ∀ x < 1331, F x = big f x
theorem BigR.c {F f : Nat → Int} (h : BigR F f) {t : Nat} (ht : t < 286) : F (pC t) = f t := by rw [h _ (pK_C ht).2.2, big_C ht]
theorem BigR.z {F f : Nat → Int} (h : BigR F f) {x : Nat} (hx : x < 1331) (g : ¬ pG x) : F x = 0 := by
  rw [h x hx]
  exact if_neg g
theorem BigR.k {F f : Nat → Int} (h : BigR F f) {x : Nat} (hx : x < 1331) (g : pG x) : F x = f (pK x) := by
  rw [h x hx]
  exact if_pos g
theorem bigR_of {F f : Nat → Int} (h1 : ∀ t < 286, F (pC t) = f t) (h2 : ∀ x < 1331, ¬ pG x → F x = 0) : BigR F f := fun x hx => by
  unfold big
  by_cases g : pG x
  · rw [if_pos g, ← h1 _ (pK_lt g), pC_K g]
  · rw [if_neg g, h2 x hx g]
theorem BigR.sm {F f : Nat → Int} (h : BigR F f) : smM F ↔ smX f := by
  constructor
  · intro q t ht
    rw [← h.c ht]
    exact q _ (pK_C ht).2.2
  · intro q x hx
    by_cases g : pG x
    · rw [h.k hx g]
      exact q _ (pK_lt g)
    · rw [h.z hx g]
      omega
/-- products -/
def adA (s : Nat → Int) (t : Nat) (v : Int) : Nat → Int := fun u => if u = t then s u + v else s u
def mulI (f g : Nat → Int) (p : Nat) : Nat → (Nat → Int) → Nat → Int := itN (fun q s => if g q = 0 then s else adA s (pA p q) (f p * g q))
def mulS (f g : Nat → Int) : Nat → (Nat → Int) → Nat → Int := itN (fun p s => if f p = 0 then s else mulI f g p 286 s)
def mulX (f g : Nat → Int) : Nat → Int := mulS f g 286 (fun _ => 0)
def mulJ (F G : Nat → Int) (x : Nat) : Nat → (Nat → Int) → Nat → Int := itN (fun y s => if G y = 0 then s else adA s (x + y) (F x * G y))
def mulT (F G : Nat → Int) : Nat → (Nat → Int) → Nat → Int := itN (fun x s => if F x = 0 then s else mulJ F G x 1331 s)
def mulM (F G : Nat → Int) : Nat → Int := mulT F G 1331 (fun _ => 0)
def okX (f g : Nat → Int) : Prop := ∀ p < 286, ∀ q < 286, f p ≠ 0 → g q ≠ 0 → pD p + pD q ≤ 10
def dM (x : Nat) : Nat := x / 121 + x / 11 % 11 + x % 11
def okM (F G : Nat → Int) : Prop := ∀ x < 1331, ∀ y < 1331, F x ≠ 0 → G y ≠ 0 → dM x + dM y ≤ 10
theorem dM_C {t : Nat} (h : t < 286) : dM (pC t) = pD t := by
  obtain ⟨e1, e2, e3⟩ := pD_C h
  unfold dM pD
  rw [e1, e2, e3]
theorem ok_iff {F G f g : Nat → Int} (hF : BigR F f) (hG : BigR G g) : okM F G ↔ okX f g := by
  constructor
  · intro h p hp q hq h1 h2
    have := h (pC p) (pK_C hp).2.2 (pC q) (pK_C hq).2.2 (by rw [hF.c hp]; exact h1) (by rw [hG.c hq]; exact h2)
    rw [dM_C hp, dM_C hq] at this
    exact this
  · intro h x hx y hy h1 h2
    have gx : pG x := Decidable.byContradiction fun z => h1 (hF.z hx z)
    have gy : pG y := Decidable.byContradiction fun z => h2 (hG.z hy z)
    have := h (pK x) (pK_lt gx) (pK y) (pK_lt gy) (by rw [← hF.k hx gx]; exact h1) (by rw [← hG.k hy gy]; exact h2)
    rw [pD_K gx, pD_K gy] at this
    exact this
theorem ad_rel {s' s : Nat → Int} {p q : Nat} {v : Int} (h : BigR s' s) (hp : p < 286) (hq : q < 286) (hd : pD p + pD q ≤ 10) : BigR (adA s' (pC p + pC q) v) (adA s (pA p q) v) := by
  obtain ⟨a1, a2⟩ := pA_ok hd
  intro x hx
  unfold adA
  rw [← a2]
  by_cases e : x = pC (pA p q)
  · rw [if_pos e, h x hx, e, big_C a1, big_C a1, if_pos rfl]
  · rw [if_neg e, h x hx]
    unfold big
    by_cases g : pG x
    · rw [if_pos g, if_pos g]
      show s (pK x) = if pK x = pA p q then s (pK x) + v else s (pK x)
      rw [if_neg (fun z : pK x = pA p q => e (by rw [← z, pC_K g]))]
    · rw [if_neg g, if_neg g]
theorem mul_big {F G f g : Nat → Int} (hF : BigR F f) (hG : BigR G g) (hok : okX f g) : BigR (mulM F G) (mulX f g) := by
  unfold mulM mulT mulX mulS
  rw [it_all (fun y hy g u => if_pos (hF.z hy g))]
  refine itN_re BigR (fun x _ => ?_) 286 (fun p hp s' s hs => ?_)
  · unfold big
    split <;> rfl
  · try dsimp only
    rw [hF.c hp]
    by_cases e : f p = 0
    · rw [if_pos e, if_pos e]
      exact hs
    · rw [if_neg e, if_neg e]
      unfold mulJ mulI
      rw [it_all (fun y hy g u => if_pos (hG.z hy g))]
      refine itN_re BigR hs 286 (fun q hq u v huv => ?_)
      try dsimp only
      rw [hG.c hq, hF.c hp]
      by_cases e2 : g q = 0
      · rw [if_pos e2, if_pos e2]
        exact huv
      · rw [if_neg e2, if_neg e2]
        exact ad_rel huv hp hq (hok p hp q hq e e2)
/-- how far sums go -/
theorem mulI_at {f g : Nat → Int} {p : Nat} (hp : p < 286) (hok : okX f g) (hf : f p ≠ 0) {s : Nat → Int} : ∀ q, q ≤ 286 → ∀ t, mulI f g p q s t = s t ∨ ∃ q2 < q, t = pA p q2 ∧ g q2 ≠ 0 ∧ mulI f g p q s t = s t + f p * g q2
  | 0, _, t => Or.inl rfl
  | q + 1, hq, t => by
    have ih := mulI_at hp hok hf (s := s) q (by omega) t
    have e : mulI f g p (q + 1) s t = (if g q = 0 then mulI f g p q s else adA (mulI f g p q s) (pA p q) (f p * g q)) t := rfl
    rw [e]
    by_cases z : g q = 0
    · rw [if_pos z]
      rcases ih with ih | ⟨q2, h1, h2, h3, h4⟩
      · exact Or.inl ih
      · exact Or.inr ⟨q2, by omega, h2, h3, h4⟩
    · rw [if_neg z]
      unfold adA
      by_cases e2 : t = pA p q
      · rw [if_pos e2]
        rcases ih with ih | ⟨q2, h1, h2, h3, -⟩
        · exact Or.inr ⟨q, by omega, e2, z, by rw [ih]⟩
        · exfalso
          have a1 := (pA_ok (hok p hp q (by omega) hf z)).2
          have a2 := (pA_ok (hok p hp q2 (by omega) hf h3)).2
          rw [← e2] at a1
          rw [← h2] at a2
          have := pC_inj (t := q) (u := q2) (by omega) (by omega) (by omega)
          omega
      · rw [if_neg e2]
        rcases ih with ih | ⟨q2, h1, h2, h3, h4⟩
        · exact Or.inl ih
        · exact Or.inr ⟨q2, by omega, h2, h3, h4⟩
theorem mulJ_at {F G : Nat → Int} {x : Nat} {s : Nat → Int} : ∀ y, ∀ t, mulJ F G x y s t = s t ∨ ∃ y2 < y, t = x + y2 ∧ mulJ F G x y s t = s t + F x * G y2
  | 0, t => Or.inl rfl
  | y + 1, t => by
    have ih := mulJ_at (F := F) (G := G) (x := x) (s := s) y t
    have e : mulJ F G x (y + 1) s t = (if G y = 0 then mulJ F G x y s else adA (mulJ F G x y s) (x + y) (F x * G y)) t := rfl
    rw [e]
    by_cases z : G y = 0
    · rw [if_pos z]
      rcases ih with ih | ⟨y2, h1, h2, h3⟩
      · exact Or.inl ih
      · exact Or.inr ⟨y2, by omega, h2, h3⟩
    · rw [if_neg z]
      unfold adA
      by_cases e2 : t = x + y
      · rw [if_pos e2]
        rcases ih with ih | ⟨y2, h1, h2, -⟩
        · exact Or.inr ⟨y, by omega, e2, by rw [ih]⟩
        · omega
      · rw [if_neg e2]
        rcases ih with ih | ⟨y2, h1, h2, h3⟩
        · exact Or.inl ih
        · exact Or.inr ⟨y2, by omega, h2, h3⟩
theorem prod26 {x y : Int} (hx : -67108864 ≤ x ∧ x ≤ 67108864) (hy : -67108864 ≤ y ∧ y ≤ 67108864) : -4503599627370496 ≤ x * y ∧ x * y ≤ 4503599627370496 := mulq (a := 67108864) (b := 67108864) hx hy
theorem mulS_b {f g : Nat → Int} (hf : smX f) (hg : smX g) (hok : okX f g) : ∀ p : Nat, p ≤ 286 → ∀ t : Nat, -(4503599627370496 * (p : Int)) ≤ mulS f g p (fun _ => 0) t ∧ mulS f g p (fun _ => 0) t ≤ 4503599627370496 * (p : Int)
  | 0, _, t => by
    have : mulS f g 0 (fun _ => 0) t = 0 := rfl
    omega
  | p + 1, hp, t => by
    have ih := mulS_b hf hg hok p (by omega)
    have e : mulS f g (p + 1) (fun _ => 0) t = (if f p = 0 then mulS f g p (fun _ => 0) else mulI f g p 286 (mulS f g p (fun _ => 0))) t := rfl
    rw [e]
    by_cases z : f p = 0
    · rw [if_pos z]
      have := ih t
      omega
    · rw [if_neg z]
      have := ih t
      rcases mulI_at (by omega) hok z (s := mulS f g p (fun _ => 0)) 286 (by omega) t with h | ⟨q, h1, -, -, h⟩
      · omega
      · have m := prod26 (hf p (by omega)) (hg q (by omega))
        omega
theorem mulI_b {f g : Nat → Int} (hf : smX f) (hg : smX g) (hok : okX f g) {p : Nat} (hp : p < 286) (z : f p ≠ 0) {q : Nat} (hq : q ≤ 286) (t : Nat) : -(4503599627370496 * 286) ≤ mulI f g p q (mulS f g p (fun _ => 0)) t ∧ mulI f g p q (mulS f g p (fun _ => 0)) t ≤ 4503599627370496 * 286 := by
  have := mulS_b hf hg hok p (by omega) t
  rcases mulI_at hp hok z (s := mulS f g p (fun _ => 0)) q hq t with h | ⟨q2, h1, -, -, h⟩
  · omega
  · have m := prod26 (hf p hp) (hg q2 (by omega))
    omega
theorem mulT_b {F G : Nat → Int} (hf : smM F) (hg : smM G) : ∀ x : Nat, x ≤ 1331 → ∀ t : Nat, -(4503599627370496 * (x : Int)) ≤ mulT F G x (fun _ => 0) t ∧ mulT F G x (fun _ => 0) t ≤ 4503599627370496 * (x : Int)
  | 0, _, t => by
    have : mulT F G 0 (fun _ => 0) t = 0 := rfl
    omega
  | x + 1, hx, t => by
    have ih := mulT_b hf hg x (by omega)
    have e : mulT F G (x + 1) (fun _ => 0) t = (if F x = 0 then mulT F G x (fun _ => 0) else mulJ F G x 1331 (mulT F G x (fun _ => 0))) t := rfl
    rw [e]
    have := ih t
    by_cases z : F x = 0
    · rw [if_pos z]
      omega
    · rw [if_neg z]
      rcases mulJ_at (F := F) (G := G) (x := x) (s := mulT F G x (fun _ => 0)) 1331 t with h | ⟨y, h1, -, h⟩
      · omega
      · have m := prod26 (hf x (by omega)) (hg y h1)
        omega
theorem mulJ_b {F G : Nat → Int} (hf : smM F) (hg : smM G) {x : Nat} (hx : x < 1331) {y : Nat} (hy : y ≤ 1331) (t : Nat) : -(4503599627370496 * 1331) ≤ mulJ F G x y (mulT F G x (fun _ => 0)) t ∧ mulJ F G x y (mulT F G x (fun _ => 0)) t ≤ 4503599627370496 * 1331 := by
  have := mulT_b hf hg x (by omega) t
  rcases mulJ_at (F := F) (G := G) (x := x) (s := mulT F G x (fun _ => 0)) y t with h | ⟨y2, h1, -, h⟩
  · omega
  · have m := prod26 (hf x hx) (hg y2 (by omega))
    omega
/-- degrees -/
def dgX (f : Nat → Int) : Nat → Int := fun n => itN (fun t d => if f t = 0 then d else max d (pD t)) n (-1)
theorem dgX_b (f : Nat → Int) : ∀ n, -1 ≤ dgX f n ∧ (∀ t < n, f t ≠ 0 → (pD t : Int) ≤ dgX f n) ∧ (0 ≤ dgX f n → ∃ t < n, f t ≠ 0 ∧ (pD t : Int) = dgX f n)
  | 0 => ⟨by show (-1 : Int) ≤ -1; omega, fun t ht => by omega, fun h => by
    have h : (0 : Int) ≤ -1 := h
    omega⟩
  | n + 1 => by
    obtain ⟨h1, h2, h3⟩ := dgX_b f n
    have e : dgX f (n + 1) = if f n = 0 then dgX f n else max (dgX f n) (pD n) := rfl
    by_cases z : f n = 0
    · rw [if_pos z] at e
      rw [e]
      refine ⟨h1, fun t ht hf => h2 t ?_ hf, fun h => ?_⟩
      · rcases Nat.lt_or_ge t n with q | q
        · exact q
        · exact absurd (show t = n by omega) (fun y => hf (y ▸ z))
      · obtain ⟨t, ht, hh⟩ := h3 h
        exact ⟨t, by omega, hh⟩
    · rw [if_neg z] at e
      refine ⟨by omega, fun t ht hf => ?_, fun h => ?_⟩
      · by_cases y : t = n
        · subst y
          omega
        · have := h2 t (by omega) hf
          omega
      · rcases Int.lt_or_le (dgX f n) (pD n) with y | y
        · exact ⟨n, by omega, z, by omega⟩
        · obtain ⟨t, ht, hf, hh⟩ := h3 (by omega)
          exact ⟨t, by omega, hf, by omega⟩
theorem dgX_le (f : Nat → Int) (n : Nat) (hn : n ≤ 286) : dgX f n ≤ 10 := by
  rcases Int.lt_or_le (dgX f n) 0 with h | h
  · omega
  · obtain ⟨t, ht, -, e⟩ := (dgX_b f n).2.2 h
    have := (pI_pE t (by omega)).1
    unfold pD at e
    omega
theorem ok_deg {f g : Nat → Int} : okX f g ↔ ¬(0 ≤ dgX f 286 ∧ 0 ≤ dgX g 286 ∧ 10 < dgX f 286 + dgX g 286) := by
  obtain ⟨-, f2, f3⟩ := dgX_b f 286
  obtain ⟨-, g2, g3⟩ := dgX_b g 286
  constructor
  · rintro h ⟨h1, h2, h3⟩
    obtain ⟨p, hp, fp, ep⟩ := f3 h1
    obtain ⟨q, hq, gq, eq_⟩ := g3 h2
    have := h p hp q hq fp gq
    omega
  · intro h p hp q hq h1 h2
    have a := f2 p hp h1
    have b := g2 q hq h2
    omega
theorem mul_none {f g : Nat → Int} (h : dgX f 286 < 0 ∨ dgX g 286 < 0) : mulX f g = fun _ => 0 := by
  unfold mulX mulS
  refine itN_P (fun _ s => s = fun _ => (0 : Int)) rfl 286 (fun p hp s hs => ?_)
  try dsimp only
  by_cases z : f p = 0
  · rw [if_pos z]
    exact hs
  · rw [if_neg z]
    have a := (dgX_b f 286).2.1 p hp z
    unfold mulI
    refine itN_P (fun _ s => s = fun _ => (0 : Int)) hs 286 (fun q hq s2 hs2 => ?_)
    try dsimp only
    by_cases y : g q = 0
    · rw [if_pos y]
      exact hs2
    · have b := (dgX_b g 286).2.1 q hq y
      omega
theorem sm_none : smX (fun _ => 0) := fun t _ => by
  show -67108864 ≤ (0 : Int) ∧ (0 : Int) ≤ 67108864
  omega
