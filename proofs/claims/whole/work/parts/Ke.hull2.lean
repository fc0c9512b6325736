/-! the chain's ways are the next ones -/
theorem ltx_irr {a : Int × Int} : ¬ ltx a a := by
  unfold ltx lxp sbx
  dsimp only
  omega
/-- a way of the chain: all places to its left, those on its line between its ends -/
def WyX (P : Nat → Int × Int) (N a b : Nat) : Prop := ltx (P a) (P b) ∧ ∀ j < N, 0 ≤ tnx (P a) (P b) (P j) ∧ (tnx (P a) (P b) (P j) = 0 → (ltx (P a) (P j) ∨ j = a) ∧ (ltx (P j) (P b) ∨ j = b))
def AllW (P : Nat → Int × Int) (N : Nat) : List Nat → Prop
  | b :: a :: t => WyX P N a b ∧ AllW P N (a :: t)
  | _ => True
theorem allW {P : Nat → Int × Int} {N : Nat} (hP : ∀ i j, i < j → j < N → ltx (P i) (P j)) : ∀ (l : List Nat), ChO P N l → (match l with
    | [] => True
    | [b] => True
    | b :: a :: _ => (∀ j < N, j ≤ b) ∨ ∃ c, ltx (P b) (P c) ∧ (∀ j < N, 0 ≤ tnx (P b) (P c) (P j)) ∧ 0 < tnx (P a) (P b) (P c)) → AllW P N l
  | [], _, _ => trivial
  | [a], _, _ => trivial
  | b :: a :: t, h, ht => by
    have hbN := h.2.1
    have haN : a < N := ChO.lt h a (by simp)
    have tri : ∀ i j, i < N → j < N → ltx (P i) (P j) ∨ i = j ∨ ltx (P j) (P i) := fun i j hi hj => by
      rcases Nat.lt_trichotomy i j with z | z | z
      · exact Or.inl (hP i j z hj)
      · exact Or.inr (Or.inl z)
      · exact Or.inr (Or.inr (hP j i z hi))
    refine ⟨⟨h.1, fun j hj => ⟨h.2.2.1 j hj, fun h0 => ⟨?_, ?_⟩⟩⟩, ?_⟩
    · rcases tri a j haN hj with z | z | z
      · exact Or.inl z
      · exact Or.inr z.symm
      · exfalso
        cases t with
        | nil =>
          have hb : a < N ∧ ∀ j < N, ltx (P a) (P j) ∨ j = a := h.2.2.2.2
          rcases hb.2 j hj with y | y
          · exact ltx_irr (ltx_tr y z)
          · subst y
            exact ltx_irr z
        | cons c t =>
          have hc : 0 < tnx (P c) (P a) (P b) := h.2.2.2.1
          have hcc : ltx (P c) (P a) ∧ a < N ∧ (∀ j < N, 0 ≤ tnx (P c) (P a) (P j)) := ⟨h.2.2.2.2.1, h.2.2.2.2.2.1, h.2.2.2.2.2.2.1⟩
          have hg := hcc.2.2 j hj
          have e1 : crx (sbx (P a) (P j)) (sbx (P a) (P c)) = tnx (P c) (P a) (P j) := by
            unfold tnx crx sbx
            dsimp only
            grind
          have e2 : crx (sbx (P a) (P j)) (sbx (P b) (P a)) = tnx (P a) (P b) (P j) := by
            unfold tnx crx sbx
            dsimp only
            grind
          have h2 : 0 < crx (sbx (P a) (P c)) (sbx (P b) (P a)) := by
            rw [← tnx_1]
            exact hc
          have h3 := crx_tr2 (u := sbx (P a) (P j)) (v := sbx (P a) (P c)) (w := sbx (P b) (P a)) z hcc.1 (ltx_0 (Or.inl h.1)) (by omega) h2
          omega
    · rcases tri j b hj hbN with z | z | z
      · exact Or.inl z
      · exact Or.inr z
      · exfalso
        rcases ht with y | ⟨c, hbc, hg, hl⟩
        · have := y j hj
          rcases Nat.lt_or_ge j b with w | w
          · exact ltx_irr (ltx_tr (hP j b w hbN) z)
          · have e : j = b := by omega
            subst e
            exact ltx_irr z
        · have hj0 := hg j hj
          have e2 : crx (sbx (P b) (P a)) (sbx (P j) (P b)) = tnx (P a) (P b) (P j) := (tnx_1 _ _ _).symm
          have e3 : crx (sbx (P c) (P b)) (sbx (P j) (P b)) = tnx (P b) (P c) (P j) := by unfold tnx; rfl
          have h1 : 0 < crx (sbx (P b) (P a)) (sbx (P c) (P b)) := by
            rw [← tnx_1]
            exact hl
          have h3 := crx_tr1 (u := sbx (P b) (P a)) (v := sbx (P c) (P b)) (w := sbx (P j) (P b)) (ltx_0 (Or.inl h.1)) hbc z h1 (by omega)
          omega
    · refine allW hP (a :: t) h.2.2.2.2 ?_
      cases t with
      | nil => trivial
      | cons c t =>
        have hc : 0 < tnx (P c) (P a) (P b) := h.2.2.2.1
        exact Or.inr ⟨b, h.1, h.2.2.1, hc⟩
theorem chX_all {P : Nat → Int × Int} {N : Nat} (hP : ∀ i j, i < j → j < N → ltx (P i) (P j)) (hN : 0 < N) : AllW P N (chX P N) ∧ ∃ t, chX P N = (N - 1) :: t := by
  obtain ⟨k, rfl⟩ : ∃ k, N = k + 1 := ⟨N - 1, by omega⟩
  obtain ⟨h, t, e⟩ := ch_ok hP k (by omega)
  refine ⟨allW hP _ h ?_, t, e⟩
  rw [e]
  cases t with
  | nil => trivial
  | cons a t => exact Or.inl fun j hj => by omega
/-- the bottom of the chain is the first place -/
theorem chX_last {P : Nat → Int × Int} : ∀ k, ∃ l, chX P (k + 1) = l ++ [0]
  | 0 => ⟨[], rfl⟩
  | k + 1 => by
    obtain ⟨l, e⟩ := chX_last (P := P) k
    have key : ∀ l : List Nat, ∃ l2, popX P (k + 1) (l ++ [0]) = l2 ++ [0] := by
      intro l
      induction l with
      | nil => exact ⟨[], rfl⟩
      | cons b l ih =>
        cases l with
        | nil =>
          show ∃ l2, popX P (k + 1) (b :: 0 :: []) = l2 ++ [0]
          unfold popX
          split
          · exact ⟨[], rfl⟩
          · exact ⟨[b], rfl⟩
        | cons a l =>
          show ∃ l2, popX P (k + 1) (b :: a :: (l ++ [0])) = l2 ++ [0]
          unfold popX
          split
          · exact ih
          · exact ⟨b :: a :: l, rfl⟩
    obtain ⟨l2, e2⟩ := key l
    refine ⟨(k + 1) :: l2, ?_⟩
    show (k + 1) :: popX P (k + 1) (chX P (k + 1)) = _
    rw [e, e2]
    rfl
/-- between on a line: not farther -/
theorem btw_q {a b j : Int × Int} (hab : ltx a b) (h0 : tnx a b j = 0) (h1 : ltx a j ∨ j = a) (h2 : ltx j b ∨ j = b) : (j.1 - a.1) * (j.1 - a.1) + (j.2 - a.2) * (j.2 - a.2) ≤ (b.1 - a.1) * (b.1 - a.1) + (b.2 - a.2) * (b.2 - a.2) := by
  obtain ⟨a1, a2⟩ := a
  obtain ⟨b1, b2⟩ := b
  obtain ⟨j1, j2⟩ := j
  have g1 : lx0 (sbx (j1, j2) (a1, a2)) := ltx_0 (h1.imp id (fun e => e.symm))
  have g2 : lx0 (sbx (b1, b2) (j1, j2)) := ltx_0 h2
  unfold tnx crx sbx at h0
  unfold ltx lxp sbx at hab
  unfold lx0 sbx at g1 g2
  dsimp only at h0 hab g1 g2 ⊢
  have key : ∀ u1 u2 v1 v2 : Int, u1 * v2 - u2 * v1 = 0 → (0 < u1 ∨ u1 = 0 ∧ 0 < u2) → (0 < v1 ∨ v1 = 0 ∧ 0 ≤ v2) → (0 < u1 - v1 ∨ u1 - v1 = 0 ∧ 0 ≤ u2 - v2) → v1 * v1 + v2 * v2 ≤ u1 * u1 + u2 * u2 := by
    intro u1 u2 v1 v2 hc hu hv hw
    by_cases q : 0 < u1
    · have ha : u1.natAbs * v2.natAbs = u2.natAbs * v1.natAbs := by
        rw [← Int.natAbs_mul, ← Int.natAbs_mul]
        congr 1
        omega
      have hv1 : v1.natAbs ≤ u1.natAbs := by omega
      have hv2 : v2.natAbs ≤ u2.natAbs := by
        rcases Nat.lt_or_ge u2.natAbs v2.natAbs with z | z
        · exfalso
          have p1 : u1.natAbs * (u2.natAbs + 1) ≤ u1.natAbs * v2.natAbs := Nat.mul_le_mul_left _ z
          have p2 : u2.natAbs * v1.natAbs ≤ u2.natAbs * u1.natAbs := Nat.mul_le_mul_left _ hv1
          have p3 : u1.natAbs * (u2.natAbs + 1) = u2.natAbs * u1.natAbs + u1.natAbs := by grind
          omega
        · exact z
      have s1 := Nat.mul_le_mul hv1 hv1
      have s2 := Nat.mul_le_mul hv2 hv2
      have n1 : ∀ x : Int, ((x.natAbs * x.natAbs : Nat) : Int) = x * x := fun x => Int.natAbs_mul_self
      have m1 := n1 v1
      have m2 := n1 v2
      have m3 := n1 u1
      have m4 := n1 u2
      omega
    · obtain ⟨rfl, hu2⟩ : u1 = 0 ∧ 0 < u2 := by omega
      obtain rfl : v1 = 0 := by omega
      have s2 := Nat.mul_le_mul (show v2.natAbs ≤ u2.natAbs by omega) (show v2.natAbs ≤ u2.natAbs by omega)
      have n1 : ∀ x : Int, ((x.natAbs * x.natAbs : Nat) : Int) = x * x := fun x => Int.natAbs_mul_self
      have m2 := n1 v2
      have m4 := n1 u2
      omega
  exact key (b1 - a1) (b2 - a2) (j1 - a1) (j2 - a2) h0 hab g1 (by omega)
