/-! two wraps of one polygon are the same -/
theorem vv_same {S : aS} {p q k i : Nat} (h : gSame S p q k) : vv S p q i = vv S p k i := by
  unfold gSame at h
  unfold vv
  rw [h.1, h.2]
theorem vv_same2 {S : aS} {p q k i : Nat} (h : gSame S p k i) : vv S p q k = vv S p q i := by
  unfold gSame at h
  unfold vv
  rw [h.1, h.2]
theorem nxt_same {S : aS} {p q k q2 k2 : Nat} (h1 : gSame S p q q2) (h2 : gSame S p k k2) (hk2 : k2 < sGn S p) (h : Nxt S p q k) : Nxt S p q2 k2 := by
  obtain ⟨a1, a2, a3⟩ := h
  refine ⟨hk2, fun z => a2 ?_, fun i hi hn => ?_⟩
  · unfold gSame at *
    omega
  · have g := a3 i hi (fun z => hn (by unfold gSame at *; omega))
    unfold gdK at g ⊢
    rw [gT_vv, gQ_vv, gQ_vv] at g ⊢
    rw [← vv_same h1, ← vv_same h1, ← vv_same2 h2]
    exact g
def HullP (S : aS) (p : Nat) (H : Nat → Nat) (m : Nat) : Prop := (2 ≤ m ∧ m ≤ 12) ∧ gLe S p (H 0) ∧ (∀ j < m, Nxt S p (H j) (H (j + 1))) ∧ gSame S p (H m) (H 0) ∧ ∀ j, 0 < j → j < m → ¬ gSame S p (H j) (H 0)
theorem le_same {S : aS} {p f k : Nat} (h1 : gLe S p f) (h2 : gLe S p k) : gSame S p f k := by
  have a := h1.2 k h2.1
  have b := h2.2 f h1.1
  unfold lexL at a b
  unfold gSame
  omega
theorem it_hull {S : aS} {p f m : Nat} {H : Nat → Nat} (hf : gLe S p f) (hH : HullP S p H m) : ∀ j, j ≤ m → (j < m → ∃ k : Nat, gIt S p f j = k ∧ k < sGn S p ∧ gSame S p k (H j) ∧ ∃ d, HpD S p k d) ∧ (j = m → gIt S p f j < 0)
  | 0, _ => by
    refine ⟨fun _ => ⟨f, rfl, hf.1, le_same hf hH.2.1, _, hp_first hf⟩, fun e => ?_⟩
    have := hH.1.1
    omega
  | j + 1, hj => by
    obtain ⟨k, e, hk, hs, d, hd⟩ := (it_hull hf hH j (by omega)).1 (by omega)
    have hnx := hH.2.2.1 j (by omega)
    have hH1 : H (j + 1) < sGn S p := hnx.1
    have hn2 : Nxt S p k (H (j + 1)) := nxt_same (by unfold gSame at *; omega) ⟨rfl, rfl⟩ hH1 hnx
    have ek : (gIt S p f j).toNat = k := by omega
    have eu : gIt S p f (j + 1) = if gIt S p f j < 0 then -1 else if gNx S p (gIt S p f j).toNat (sGn S p) < 0 ∨ gSame S p (gNx S p (gIt S p f j).toNat (sGn S p)).toNat f then -1 else gNx S p (gIt S p f j).toNat (sGn S p) := rfl
    rw [if_neg (by omega), ek] at eu
    rcases gNx_ok hd (sGn S p) (Nat.le_refl _) with ⟨-, g⟩ | ⟨k2, e2, hk2, hs2, g2⟩
    · exact absurd (g _ hH1) hn2.2.1
    · have hx : Nxt S p k k2 := ⟨hk2, hs2, g2⟩
      have hsm := nxt_one hd hx hn2
      have e3 : (gNx S p k (sGn S p)).toNat = k2 := by omega
      rw [e3] at eu
      have h0 := le_same hf hH.2.1
      constructor
      · intro hlt
        have hne := hH.2.2.2.2 (j + 1) (by omega) hlt
        rw [if_neg (fun z => z.elim (fun y => by omega) (fun y => hne (by unfold gSame at *; omega)))] at eu
        exact ⟨k2, eu.trans e2, hk2, hsm, _, hp_next hk hx⟩
      · intro he
        have hm := hH.2.2.2.1
        rw [← he] at hm
        rw [if_pos (Or.inr (by unfold gSame at *; omega))] at eu
        omega
theorem wrap_eq {S : aS} {p f t m : Nat} {H : Nat → Nat} (hf : gLe S p f) (ht : gEnd S p f t) (hH : HullP S p H m) : t = m ∧ ∀ j < m, ∃ k : Nat, gIt S p f j = k ∧ k < sGn S p ∧ gSame S p k (H j) := by
  have h1 : ∀ j < m, ∃ k : Nat, gIt S p f j = k ∧ k < sGn S p ∧ gSame S p k (H j) := fun j hj => by
    obtain ⟨k, e, hk, hs, -⟩ := (it_hull hf hH j (by omega)).1 hj
    exact ⟨k, e, hk, hs⟩
  refine ⟨?_, h1⟩
  obtain ⟨a1, a2, a3⟩ := ht
  have hm := hH.1
  have hneg := (it_hull hf hH m (Nat.le_refl _)).2 rfl
  rcases Nat.lt_trichotomy t m with z | z | z
  · obtain ⟨k, e, -⟩ := h1 t z
    omega
  · exact z
  · have := a2 m z
    omega
/-- all corners at one place -/
theorem wrap_one {S : aS} {p f t : Nat} (hf : gLe S p f) (ht : gEnd S p f t) (ha : ∀ i < sGn S p, gSame S p f i) : t = 1 := by
  obtain ⟨a1, a2, a3⟩ := ht
  have e1 : gIt S p f 1 < 0 := by
    have e : gNx S p f (sGn S p) = -1 := by
      rcases gNx_ok (hp_first hf) (sGn S p) (Nat.le_refl _) with ⟨y, -⟩ | ⟨k, -, hk, hs, -⟩
      · exact y
      · exact absurd (ha k hk) hs
    have eu : gIt S p f 1 = if ((f : Nat) : Int) < 0 then -1 else if gNx S p ((f : Nat) : Int).toNat (sGn S p) < 0 ∨ gSame S p (gNx S p ((f : Nat) : Int).toNat (sGn S p)).toNat f then -1 else gNx S p ((f : Nat) : Int).toNat (sGn S p) := rfl
    rw [if_neg (by omega), Int.toNat_natCast, e, if_pos (Or.inl (by decide))] at eu
    omega
  have e0 : gIt S p f 0 = f := rfl
  rcases Nat.lt_trichotomy t 1 with z | z | z
  · have : t = 0 := by omega
    subst this
    omega
  · exact z
  · have := a2 1 z
    omega
