/-! the class's things: what they are in memory -/
def tpT (S : aS) (t : Int) : T3 := (sTp S t.toNat 0, sTp S t.toNat 1, sTp S t.toNat 2)
def tpR (S : aS) (t : Int) : T4 := (sTp S t.toNat 0, sTp S t.toNat 1, sTp S t.toNat 2, sTp S t.toNat 3)
abbrev sml (z : Int) : Prop := -1048576 ≤ z ∧ z ≤ 1048576
def OkT (S : aS) : Prop := sT S ≤ 100 ∧ ∀ i < sT S, (sTs S i = 0 ∨ sTs S i = 1 ∨ sTs S i = 2) ∧ ∀ k < 4, sml (sTp S i k)
def XT (h : aH) (c : Nat) (S : aS) : Prop := hV h (c + 7) 4 = sT S ∧ ∀ i < sT S, hV h (c + 8) i = sTs S i ∧ ∀ k < 4, hV h (c + 9) (4 * i + k) = sTp S i k
theorem OkT.p {S : aS} (ok : OkT S) {t : Int} (ht : 0 ≤ t ∧ t < sT S) {k : Nat} (hk : k < 4) : -2 ^ 20 ≤ sTp S t.toNat k ∧ sTp S t.toNat k ≤ 2 ^ 20 := by
  have h := (ok.2 t.toNat (by omega)).2 k hk
  unfold sml at h
  exact h
theorem Gr.xt {h h1 : aH} {c n : Nat} (g : Gr h h1 c n) (ci : CI h c) {S : aS} (x : XT h c S) : XT h1 c S := by
  have e : ∀ a, c + 1 < a → a < c + 67 → hV h1 a = hV h a := fun a q1 q2 => g.2.2.2.2.2.1 a (by have := ci.2.1; omega) (by omega) (Or.inr q2)
  refine ⟨by rw [e _ (by omega) (by omega)]; exact x.1, fun i hi => ⟨by rw [e _ (by omega) (by omega)]; exact (x.2 i hi).1, fun k hk => by rw [e _ (by omega) (by omega)]; exact (x.2 i hi).2 k hk⟩⟩
def addT (S : aS) (s : Int) (p : Nat → Int) : aS := (S.1, (sT S + 1, fun i => if i = sT S then s else sTs S i, fun i => if i = sT S then p else sTp S i), S.2.2)
/-- a thing brought down is kept, or there is no room -/
def keepT (S : aS) (s : Int) (R : T4) : Int × aS := if (sml R.1 ∧ sml R.2.1 ∧ sml R.2.2.1 ∧ sml R.2.2.2) ∧ sT S < 100 then ((sT S : Int), addT S s (fun k => if k = 0 then R.1 else if k = 1 then R.2.1 else if k = 2 then R.2.2.1 else R.2.2.2)) else (-4, S)
/-- the memory after a thing is kept -/
def keepV (c n : Nat) (V : Nat → Nat → Int) (s : Int) (R : T4) : Nat → Nat → Int := vset (vset (vset (vset (vset (vset V (c + 8) n s) (c + 9) (4 * n) R.1) (c + 9) (4 * n + 1) R.2.1) (c + 9) (4 * n + 2) R.2.2.1) (c + 9) (4 * n + 3) R.2.2.2) (c + 7) 4 ((n : Int) + 1)
theorem keepV_fr (c n : Nat) (V : Nat → Nat → Int) (s : Int) (R : T4) : ∀ a, a ≠ c + 7 → a ≠ c + 8 → a ≠ c + 9 → keepV c n V s R a = V a := fun a h1 h2 h3 => by
  funext j
  unfold keepV
  rw [vset_ne _ _ _ _ (by omega), vset_ne _ _ _ _ (by omega), vset_ne _ _ _ _ (by omega), vset_ne _ _ _ _ (by omega), vset_ne _ _ _ _ (by omega), vset_ne _ _ _ _ (by omega)]
theorem keepV_p (c n : Nat) (V : Nat → Nat → Int) (s : Int) (R : T4) {k : Nat} (hk : k < 4) : keepV c n V s R (c + 9) (4 * n + k) = if k = 0 then R.1 else if k = 1 then R.2.1 else if k = 2 then R.2.2.1 else R.2.2.2 := by
  unfold keepV
  rw [vset_ne _ _ _ _ (by omega)]
  have hc : k = 0 ∨ k = 1 ∨ k = 2 ∨ k = 3 := by omega
  rcases hc with rfl | rfl | rfl | rfl
  · rw [vset_ne _ _ _ _ (by omega), vset_ne _ _ _ _ (by omega), vset_ne _ _ _ _ (by omega)]
    show vset (vset V (c + 8) n s) (c + 9) (4 * n) R.1 (c + 9) (4 * n) = _
    rw [vset_eq]
    rfl
  · rw [vset_ne _ _ _ _ (by omega), vset_ne _ _ _ _ (by omega), vset_eq]; rfl
  · rw [vset_ne _ _ _ _ (by omega), vset_eq]; rfl
  · rw [vset_eq]; rfl
theorem XT.keep {h h1 : aH} {c : Nat} {S : aS} (x : XT h c S) {s : Int} {R : T4} (e : hV h1 = keepV c (sT S) (hV h) s R) : XT h1 c (addT S s (fun k => if k = 0 then R.1 else if k = 1 then R.2.1 else if k = 2 then R.2.2.1 else R.2.2.2)) := by
  refine ⟨by rw [e]; unfold keepV; rw [vset_eq]; show _ = ((sT S + 1 : Nat) : Int); omega, fun i hi => ?_⟩
  have hi : i < sT S + 1 := hi
  have es : sTs (addT S s (fun k => if k = 0 then R.1 else if k = 1 then R.2.1 else if k = 2 then R.2.2.1 else R.2.2.2)) i = if i = sT S then s else sTs S i := rfl
  have ep : sTp (addT S s (fun k => if k = 0 then R.1 else if k = 1 then R.2.1 else if k = 2 then R.2.2.1 else R.2.2.2)) i = if i = sT S then (fun k => if k = 0 then R.1 else if k = 1 then R.2.1 else if k = 2 then R.2.2.1 else R.2.2.2) else sTp S i := rfl
  by_cases q : i = sT S
  · refine ⟨?_, fun k hk => ?_⟩
    · rw [es, if_pos q, e, q]
      unfold keepV
      rw [vset_ne _ _ _ _ (by omega), vset_ne _ _ _ _ (by omega), vset_ne _ _ _ _ (by omega), vset_ne _ _ _ _ (by omega), vset_ne _ _ _ _ (by omega), vset_eq]
    · rw [ep, if_pos q, e, q, keepV_p _ _ _ _ _ hk]
  · refine ⟨?_, fun k hk => ?_⟩
    · rw [es, if_neg q, e]
      unfold keepV
      rw [vset_ne _ _ _ _ (by omega), vset_ne _ _ _ _ (by omega), vset_ne _ _ _ _ (by omega), vset_ne _ _ _ _ (by omega), vset_ne _ _ _ _ (by omega), vset_ne _ _ _ _ (by omega)]
      exact (x.2 i (by omega)).1
    · rw [ep, if_neg q, e]
      unfold keepV
      rw [vset_ne _ _ _ _ (by omega), vset_ne _ _ _ _ (by omega), vset_ne _ _ _ _ (by omega), vset_ne _ _ _ _ (by omega), vset_ne _ _ _ _ (by omega), vset_ne _ _ _ _ (by omega)]
      exact (x.2 i (by omega)).2 k hk
/-- what stays beside the things when one is kept -/
def KT (h h1 : aH) (c n : Nat) : Prop := ∃ h2 V, Gr h h2 c n ∧ h1 = hw h2 V ∧ ∀ a, a ≠ c + 7 → a ≠ c + 8 → a ≠ c + 9 → V a = hV h2 a
theorem addT_ok {S : aS} (ok : OkT S) {s : Int} {R : T4} (hs : s = 0 ∨ s = 1 ∨ s = 2) (hR : sml R.1 ∧ sml R.2.1 ∧ sml R.2.2.1 ∧ sml R.2.2.2) (hn : sT S < 100) : OkT (addT S s (fun k => if k = 0 then R.1 else if k = 1 then R.2.1 else if k = 2 then R.2.2.1 else R.2.2.2)) := by
  refine ⟨by show sT S + 1 ≤ 100; omega, fun i hi => ?_⟩
  have hi : i < sT S + 1 := hi
  show ((if i = sT S then s else sTs S i) = 0 ∨ (if i = sT S then s else sTs S i) = 1 ∨ (if i = sT S then s else sTs S i) = 2) ∧ ∀ k < 4, sml ((if i = sT S then (fun k => if k = 0 then R.1 else if k = 1 then R.2.1 else if k = 2 then R.2.2.1 else R.2.2.2) else sTp S i) k)
  by_cases q : i = sT S
  · rw [if_pos q, if_pos q]
    refine ⟨hs, fun k hk => ?_⟩
    have hc : k = 0 ∨ k = 1 ∨ k = 2 ∨ k = 3 := by omega
    rcases hc with rfl | rfl | rfl | rfl
    · exact hR.1
    · exact hR.2.1
    · exact hR.2.2.1
    · exact hR.2.2.2
  · rw [if_neg q, if_neg q]
    exact ok.2 i (by omega)
