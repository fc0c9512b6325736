/-! a chain of turns to the left: what it keeps (the hull's half) -/
def crx (a b : Int × Int) : Int := a.1 * b.2 - a.2 * b.1
def sbx (a b : Int × Int) : Int × Int := (a.1 - b.1, a.2 - b.2)
/-- before by x, then y -/
abbrev lxp (v : Int × Int) : Prop := 0 < v.1 ∨ (v.1 = 0 ∧ 0 < v.2)
abbrev lx0 (v : Int × Int) : Prop := 0 < v.1 ∨ (v.1 = 0 ∧ 0 ≤ v.2)
theorem plu (d u v w : Int × Int) : crx d v * crx u w = crx d u * crx v w + crx d w * crx u v := by
  unfold crx
  grind
/-- directions of one half go on from one to the next -/
theorem crx_tr {u v w : Int × Int} (hu : lx0 u) (hv : lxp v) (hw : lx0 w) (h1 : 0 ≤ crx u v) (h2 : 0 ≤ crx v w) : 0 ≤ crx u w := by
  obtain ⟨u1, u2⟩ := u
  obtain ⟨v1, v2⟩ := v
  obtain ⟨w1, w2⟩ := w
  unfold crx at h1 h2 ⊢
  unfold lx0 at hu hw
  unfold lxp at hv
  dsimp only at h1 h2 hu hv hw ⊢
  by_cases q : 0 < v1
  · have e : v1 * (u1 * w2 - u2 * w1) = u1 * (v1 * w2 - v2 * w1) + w1 * (u1 * v2 - u2 * v1) := by grind
    have p1 := Int.mul_nonneg (show 0 ≤ u1 by omega) h2
    have p2 := Int.mul_nonneg (show 0 ≤ w1 by omega) h1
    rcases Int.lt_or_le (u1 * w2 - u2 * w1) 0 with z | z
    · have := Int.mul_neg_of_pos_of_neg q z
      omega
    · exact z
  · obtain ⟨rfl, hv2⟩ : v1 = 0 ∧ 0 < v2 := by omega
    rw [Int.zero_mul, Int.zero_sub] at h2
    have hw1 : w1 = 0 := by
      rcases Int.lt_or_le 0 w1 with z | z
      · have := Int.mul_pos hv2 z
        omega
      · omega
    rw [hw1, Int.mul_zero, Int.sub_zero]
    exact Int.mul_nonneg (by omega) (by omega)
theorem crx_tr1 {u v w : Int × Int} (hu : lx0 u) (hv : lxp v) (hw : lxp w) (h1 : 0 < crx u v) (h2 : 0 ≤ crx v w) : 0 < crx u w := by
  obtain ⟨u1, u2⟩ := u
  obtain ⟨v1, v2⟩ := v
  obtain ⟨w1, w2⟩ := w
  unfold crx at h1 h2 ⊢
  unfold lx0 at hu
  unfold lxp at hv hw
  dsimp only at h1 h2 hu hv hw ⊢
  by_cases q : 0 < v1
  · have e : v1 * (u1 * w2 - u2 * w1) = u1 * (v1 * w2 - v2 * w1) + w1 * (u1 * v2 - u2 * v1) := by grind
    have p1 := Int.mul_nonneg (show 0 ≤ u1 by omega) h2
    rcases Int.lt_or_le 0 (u1 * w2 - u2 * w1) with z | z
    · exact z
    · exfalso
      have p3 := Int.mul_nonpos_of_nonneg_of_nonpos (Int.le_of_lt q) z
      by_cases w0 : 0 < w1
      · have p2 := Int.mul_pos w0 h1
        omega
      · obtain ⟨rfl, hw2⟩ : w1 = 0 ∧ 0 < w2 := by omega
        rw [Int.mul_zero, Int.sub_zero] at z
        have u0 : 0 < u1 := by
          rcases Int.lt_or_le 0 u1 with y | y
          · exact y
          · obtain ⟨rfl, hu2⟩ : u1 = 0 ∧ 0 ≤ u2 := by omega
            rw [Int.zero_mul, Int.zero_sub] at h1
            have := Int.mul_nonneg hu2 (Int.le_of_lt q)
            omega
        have := Int.mul_pos u0 hw2
        omega
  · obtain ⟨rfl, hv2⟩ : v1 = 0 ∧ 0 < v2 := by omega
    rw [Int.zero_mul, Int.zero_sub] at h2
    rw [Int.mul_zero, Int.sub_zero] at h1
    have hw1 : w1 = 0 := by
      rcases Int.lt_or_le 0 w1 with z | z
      · have := Int.mul_pos hv2 z
        omega
      · omega
    have u0 : 0 < u1 := by
      rcases Int.lt_or_le 0 u1 with y | y
      · exact y
      · obtain ⟨rfl, hu2⟩ : u1 = 0 ∧ 0 ≤ u2 := by omega
        rw [Int.zero_mul] at h1
        omega
    rw [hw1, Int.mul_zero, Int.sub_zero]
    exact Int.mul_pos u0 (by omega)
theorem crx_tr2 {u v w : Int × Int} (hu : lxp u) (hv : lxp v) (hw : lx0 w) (h1 : 0 ≤ crx u v) (h2 : 0 < crx v w) : 0 < crx u w := by
  -- turned round: w, v, u in the half that is mirrored
  have e : ∀ a b : Int × Int, crx (b.1, -b.2) (a.1, -a.2) = crx a b := fun a b => by
    unfold crx
    dsimp only
    grind
  obtain ⟨u1, u2⟩ := u
  obtain ⟨v1, v2⟩ := v
  obtain ⟨w1, w2⟩ := w
  unfold crx at h1 h2 ⊢
  unfold lx0 at hw
  unfold lxp at hu hv
  dsimp only at h1 h2 hu hv hw ⊢
  by_cases q : 0 < v1
  · have e : v1 * (u1 * w2 - u2 * w1) = u1 * (v1 * w2 - v2 * w1) + w1 * (u1 * v2 - u2 * v1) := by grind
    have p2 := Int.mul_nonneg (show 0 ≤ w1 by omega) h1
    rcases Int.lt_or_le 0 (u1 * w2 - u2 * w1) with z | z
    · exact z
    · exfalso
      have p3 := Int.mul_nonpos_of_nonneg_of_nonpos (Int.le_of_lt q) z
      by_cases u0 : 0 < u1
      · have p1 := Int.mul_pos u0 h2
        omega
      · obtain ⟨rfl, hu2⟩ : u1 = 0 ∧ 0 < u2 := by omega
        rw [Int.zero_mul, Int.zero_sub] at h1
        have := Int.mul_pos hu2 q
        omega
  · obtain ⟨rfl, hv2⟩ : v1 = 0 ∧ 0 < v2 := by omega
    rw [Int.zero_mul, Int.zero_sub] at h2
    have := Int.mul_nonneg (Int.le_of_lt hv2) (show 0 ≤ w1 by omega)
    omega
/-- the turn of three places -/
def tnx (a b c : Int × Int) : Int := crx (sbx b a) (sbx c a)
theorem tnx_1 (a b c : Int × Int) : tnx a b c = crx (sbx b a) (sbx c b) := by
  unfold tnx crx sbx
  dsimp only
  grind
abbrev ltx (a b : Int × Int) : Prop := lxp (sbx b a)
theorem ltx_tr {a b c : Int × Int} (h1 : ltx a b) (h2 : ltx b c) : ltx a c := by
  unfold ltx lxp sbx at *
  dsimp only at *
  omega
theorem ltx_0 {a b : Int × Int} (h : ltx a b ∨ a = b) : lx0 (sbx b a) := by
  unfold ltx lxp at h
  unfold lx0
  rcases h with h | h
  · omega
  · subst h
    unfold sbx
    dsimp only
    omega
/-- a stack of places (the last one first): each before the next, turns to the left, all places so far to the left of each way -/
def ChO (P : Nat → Int × Int) (k : Nat) (l : List Nat) : Prop := match l with
  | [] => False
  | [a] => a < k ∧ ∀ j < k, ltx (P a) (P j) ∨ j = a
  | b :: a :: t => ltx (P a) (P b) ∧ b < k ∧ (∀ j < k, 0 ≤ tnx (P a) (P b) (P j)) ∧ (match t with
    | [] => True
    | z :: _ => 0 < tnx (P z) (P a) (P b)) ∧ ChO P k (a :: t)
theorem ChO.lt {P : Nat → Int × Int} {k : Nat} : ∀ {l : List Nat}, ChO P k l → ∀ b ∈ l, b < k
  | [], h, _, _ => h.elim
  | [a], h, b, hb => by
    rw [List.mem_singleton] at hb
    subst hb
    exact h.1
  | b :: a :: t, h, c, hc => by
    rcases List.mem_cons.mp hc with e | e
    · subst e
      exact h.2.1
    · exact ChO.lt h.2.2.2.2 c e
/-- taking away while the turn is not to the left -/
def popX (P : Nat → Int × Int) (r : Nat) : List Nat → List Nat
  | [] => []
  | [a] => [a]
  | b :: a :: t => if tnx (P a) (P b) (P r) ≤ 0 then popX P r (a :: t) else b :: a :: t
def chX (P : Nat → Int × Int) : Nat → List Nat
  | 0 => []
  | k + 1 => k :: popX P k (chX P k)
theorem pop_ok {P : Nat → Int × Int} {k : Nat} (hP : ∀ i j, i < j → j ≤ k → ltx (P i) (P j)) : ∀ (l : List Nat) (b : Nat) (t : List Nat), l = b :: t → ChO P k l → (∀ j < k, ltx (P b) (P j) ∨ j = b → 0 ≤ tnx (P b) (P k) (P j)) →
    ∃ c t2, popX P k l = c :: t2 ∧ ChO P k (c :: t2) ∧ (∀ j < k, 0 ≤ tnx (P c) (P k) (P j)) ∧ (match t2 with
      | [] => True
      | z :: _ => 0 < tnx (P z) (P c) (P k))
  | [], b, t, e, h, _ => h.elim
  | [a], b, t, e, h, hI => by
    obtain ⟨rfl, rfl⟩ : a = b ∧ t = [] := by
      cases e
      exact ⟨rfl, rfl⟩
    refine ⟨a, [], rfl, h, fun j hj => hI j hj (h.2 j hj), trivial⟩
  | c :: a :: t0, b, t, e, h, hI => by
    obtain ⟨rfl, rfl⟩ : c = b ∧ t = a :: t0 := by
      cases e
      exact ⟨rfl, rfl⟩
    have hck := h.2.1
    have hcr : ltx (P c) (P k) := hP c k hck (Nat.le_refl _)
    have hac := h.1
    have hak : a < k := ChO.lt h a (by simp)
    have har : ltx (P a) (P k) := hP a k hak (Nat.le_refl _)
    by_cases q : tnx (P a) (P c) (P k) ≤ 0
    · have ep : popX P k (c :: a :: t0) = popX P k (a :: t0) := by
        conv => lhs; unfold popX
        rw [if_pos q]
      rw [ep]
      refine pop_ok hP (a :: t0) a t0 rfl h.2.2.2.2 fun j hj hja => ?_
      have hG := h.2.2.1 j hj
      by_cases w : ltx (P c) (P j) ∨ j = c
      · have hJ := hI j hj w
        rw [tnx_1] at hG hJ q
        have e1 : tnx (P a) (P k) (P j) = crx (sbx (P c) (P a)) (sbx (P j) (P c)) + crx (sbx (P k) (P c)) (sbx (P j) (P k)) - crx (sbx (P c) (P a)) (sbx (P k) (P c)) := by
          unfold tnx crx sbx
          dsimp only
          grind
        rw [e1]
        omega
      · have hv : lxp (sbx (P c) (P a)) := hac
        have hu : lx0 (sbx (P k) (P a)) := ltx_0 (Or.inl har)
        have hw : lx0 (sbx (P j) (P a)) := ltx_0 (hja.imp id (fun e => by rw [e]))
        have h1 : 0 ≤ crx (sbx (P k) (P a)) (sbx (P c) (P a)) := by
          have e1 : crx (sbx (P k) (P a)) (sbx (P c) (P a)) = -tnx (P a) (P c) (P k) := by
            unfold tnx crx
            grind
          omega
        exact crx_tr hu hv hw h1 hG
    · have ep : popX P k (c :: a :: t0) = c :: a :: t0 := by
        conv => lhs; unfold popX
        rw [if_neg q]
      refine ⟨c, a :: t0, ep, h, fun j hj => ?_, by omega⟩
      by_cases w : ltx (P c) (P j) ∨ j = c
      · exact hI j hj w
      · have hG := h.2.2.1 j hj
        have hjc : ltx (P j) (P c) := by
          rcases Nat.lt_trichotomy j c with z | z | z
          · exact hP j c z (by omega)
          · exact absurd (Or.inr z) w
          · exact absurd (Or.inl (hP c j z (by omega))) w
        have hu : lxp (sbx (P c) (P j)) := hjc
        have hv : lxp (sbx (P c) (P a)) := hac
        have hw : lx0 (sbx (P k) (P c)) := ltx_0 (Or.inl hcr)
        have h1 : 0 ≤ crx (sbx (P c) (P j)) (sbx (P c) (P a)) := by
          have e1 : crx (sbx (P c) (P j)) (sbx (P c) (P a)) = tnx (P a) (P c) (P j) := by
            unfold tnx crx sbx
            dsimp only
            grind
          omega
        have h2 : 0 < crx (sbx (P c) (P a)) (sbx (P k) (P c)) := by
          rw [← tnx_1]
          omega
        have h3 := crx_tr2 hu hv hw h1 h2
        have e3 : tnx (P c) (P k) (P j) = crx (sbx (P c) (P j)) (sbx (P k) (P c)) := by
          unfold tnx crx sbx
          dsimp only
          grind
        omega
/-- the new place is to the left of all ways that stay -/
theorem ch_new {P : Nat → Int × Int} {k : Nat} (hP : ∀ i j, i < j → j ≤ k → ltx (P i) (P j)) : ∀ (l : List Nat), ChO P k l → (match l with
    | c :: z :: _ => 0 < tnx (P z) (P c) (P k)
    | _ => True) → ChO P (k + 1) l
  | [], h, _ => h.elim
  | [a], h, _ => ⟨by have := h.1; omega, fun j hj => if e : j = k then Or.inl (by subst e; exact hP a j h.1 (Nat.le_refl _)) else h.2 j (by omega)⟩
  | b :: a :: t, h, hl => by
    have hq : 0 < tnx (P a) (P b) (P k) := hl
    clear hl
    refine ⟨h.1, by have := h.2.1; omega, fun j hj => if e : j = k then by subst e; omega else h.2.2.1 j (by omega), h.2.2.2.1, ch_new hP (a :: t) h.2.2.2.2 ?_⟩
    cases t with
    | nil => trivial
    | cons z t =>
      have ht : 0 < tnx (P z) (P a) (P b) := h.2.2.2.1
      show 0 < tnx (P z) (P a) (P k)
      have hza : ltx (P z) (P a) := h.2.2.2.2.1
      have hak : a < k := ChO.lt h a (by simp)
      rw [tnx_1] at ht hq ⊢
      have h2 : 0 < crx (sbx (P b) (P a)) (sbx (P k) (P a)) := by
        have e2 : crx (sbx (P b) (P a)) (sbx (P k) (P a)) = crx (sbx (P b) (P a)) (sbx (P k) (P b)) := by
          unfold crx sbx
          dsimp only
          grind
        omega
      exact crx_tr1 (u := sbx (P a) (P z)) (v := sbx (P b) (P a)) (w := sbx (P k) (P a)) (ltx_0 (Or.inl hza)) h.1 (hP a k hak (Nat.le_refl _)) ht (Int.le_of_lt h2)
theorem ch_ok {P : Nat → Int × Int} {N : Nat} (hP : ∀ i j, i < j → j < N → ltx (P i) (P j)) : ∀ k, k < N → ChO P (k + 1) (chX P (k + 1)) ∧ ∃ t, chX P (k + 1) = k :: t
  | 0, _ => (show ChO P 1 [0] ∧ ∃ t, [0] = 0 :: t from ⟨⟨Nat.zero_lt_one, fun j hj => Or.inr (by omega)⟩, [], rfl⟩)
  | k + 1, hk => by
    obtain ⟨ih, t, et⟩ := ch_ok hP k (by omega)
    have hP2 : ∀ i j, i < j → j ≤ k + 1 → ltx (P i) (P j) := fun i j h1 h2 => hP i j h1 (by omega)
    obtain ⟨c, t2, ep, h1, h2, h3⟩ := pop_ok hP2 (chX P (k + 1)) k t et ih (fun j hj w => by
      rcases w with w | w
      · exfalso
        rcases Nat.lt_trichotomy j k with z | z | z
        · have := ltx_tr w (hP j k z (by omega))
          unfold ltx lxp sbx at this
          dsimp only at this
          omega
        · subst z
          unfold ltx lxp sbx at w
          dsimp only at w
          omega
        · omega
      · subst w
        unfold tnx crx sbx
        dsimp only
        grind)
    have e : chX P (k + 1 + 1) = (k + 1) :: c :: t2 := by
      show (k + 1) :: popX P (k + 1) (chX P (k + 1)) = _
      rw [ep]
    rw [e]
    have hc : c < k + 1 := ChO.lt h1 c (by simp)
    have hn : ChO P (k + 1 + 1) (c :: t2) := ch_new hP2 (c :: t2) h1 (by
      cases t2 with
      | nil => trivial
      | cons z t => exact h3)
    refine ⟨⟨hP c (k + 1) hc hk, by omega, fun j hj => ?_, ?_, hn⟩, _, rfl⟩
    · by_cases z : j = k + 1
      · subst z
        unfold tnx crx
        grind
      · exact h2 j (by omega)
    · cases t2 with
      | nil => trivial
      | cons z t => exact h3
