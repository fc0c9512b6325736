/-! the reference keeps a number, by the picture -/
def FM (V V1 : Nat → Nat → Int) (o : Nat) : Prop := ∀ a i, ¬(a = o ∧ (i = 2 ∨ i = 5 ∨ i = 6 ∨ i = 31)) → a ≠ o + 2 → a ≠ o + 3 → V1 a i = V a i
theorem FM.refl (V : Nat → Nat → Int) (o : Nat) : FM V V o := fun _ _ _ _ _ => rfl
theorem FM.trans {V V1 V2 : Nat → Nat → Int} {o : Nat} (h : FM V V1 o) (g : FM V1 V2 o) : FM V V2 o := fun a i h1 h2 h3 => by rw [g a i h1 h2 h3, h a i h1 h2 h3]
theorem FM.own (V : Nat → Nat → Int) (o : Nat) {i : Nat} (hi : i = 5 ∨ i = 6 ∨ i = 31) (v : Int) : FM V (vset V o i v) o := fun a j h1 h2 h3 => by
  rw [vset_ne]
  rintro ⟨rfl, rfl⟩
  exact h1 ⟨rfl, Or.inr hi⟩
theorem NuOk.small {p : Int × Int} (h : NuOk p) : smallF p = true := by
  rw [smallF_iff]
  exact ⟨h.2.2.1, h.2.2.2.1, h.2.1⟩
theorem m_keepN {w : aW} {d : Nat} (hd : 1 ≤ d) {h : aH} {o : Nat} (ms : MS h o) (V : Nat → Nat → Int) {S : aS} (mn : MN V o S) (ok : OkN S) (p : Int × Int) (h5 : V o 5 = p.1) (h6 : V o 6 = p.2) (b : Int) (hb : b = if smallF p = true then 1 else 0) :
    WP w d 269 [aO (some o), aI b] (hw h V) (RI (fun r h1 => ∃ V1, h1 = hw h V1 ∧ MN V1 o (keepN S p).2 ∧ FM V V1 o ∧ r = (keepN S p).1)) := by
  refine (m_keepNumber hd ms V (sN S) mn.1 ok.1 b).imp ?_
  rintro _ h1 ⟨r, rfl, q⟩
  refine ⟨r, rfl, ?_⟩
  have hn := ok.1
  unfold keepN
  by_cases hs : smallF p = true ∧ sN S < 200
  · rw [if_pos hs]
    rw [if_pos hs.1] at hb
    rw [if_neg (by omega)] at q
    refine ⟨_, q.1, ⟨by rw [vset_eq]; rfl, fun i hi => ?_⟩, fun a i h1 h2 h3 => ?_, q.2⟩
    · have hi : i < sN S + 1 := hi
      have e : sNu (addN S p) i = if i = sN S then p else sNu S i := rfl
      rw [e, h5, h6]
      rw [vset_ne _ _ _ _ (show ¬(o + 2 = o ∧ i = 2) by omega), vset_ne _ _ _ _ (show ¬(o + 2 = o + 3 ∧ i = sN S) by omega), vset_ne _ _ _ _ (show ¬(o + 3 = o ∧ i = 2) by omega)]
      by_cases u : i = sN S
      · rw [if_pos u, u, vset_eq, vset_eq]
        exact ⟨rfl, rfl⟩
      · rw [if_neg u, vset_ne _ _ _ _ (show ¬(o + 2 = o + 2 ∧ i = sN S) by omega), vset_ne _ _ _ _ (show ¬(o + 3 = o + 3 ∧ i = sN S) by omega), vset_ne _ _ _ _ (show ¬(o + 3 = o + 2 ∧ i = sN S) by omega)]
        exact mn.2 i (by omega)
    · rw [vset_ne _ _ _ _ (show ¬(a = o ∧ i = 2) from fun u => h1 ⟨u.1, Or.inl u.2⟩), vset_ne _ _ _ _ (show ¬(a = o + 3 ∧ i = sN S) from fun u => h3 u.1), vset_ne _ _ _ _ (show ¬(a = o + 2 ∧ i = sN S) from fun u => h2 u.1)]
  · rw [if_neg hs]
    have hc : b = 0 ∨ sN S = 200 := by
      by_cases u : smallF p = true
      · right
        have : ¬ sN S < 200 := fun v => hs ⟨u, v⟩
        omega
      · left
        rw [hb, if_neg u]
    rw [if_pos hc] at q
    exact ⟨V, q.1, mn, FM.refl V o, q.2⟩
