/-! value of both sides in the one picture -/
theorem value_fr {S : aS} {a x y z : Int} : (valueF S a x y z).2.2 = S.2 := by
  unfold valueF
  split
  · rfl
  · unfold valueP
    split
    · rfl
    · exact keepN_fr
theorem jx_value {w : aW} {d : Nat} (hd : 60 ≤ d) {H : aH} {c : Nat} {S : aS} (g : IX w H c S) (ok : OkS S) (a x y z : Int) : WP w d 219 [aO (some c), aI a, aI x, aI y, aI z] H (RI (fun r H1 => r = (valueF S a x y z).1 ∧ IX w H1 c (valueF S a x y z).2 ∧ KX H H1 c)) := by
  obtain ⟨ρ, xp⟩ := g.2.2.1
  have q := f_value (w := w) (d := d) (by omega) g.cs (hV H) g.xe xp ok.2.2 g.xn ok.1.1 a x y z
  rw [hw_self] at q
  refine q.imp ?_
  rintro _ _ ⟨r, rfl, V1, rfl, f, x1, er⟩
  exact ⟨r, rfl, er, g.num f x1 value_fr⟩
theorem jm_value {w : aW} {d : Nat} (hd : 60 ≤ d) {H : aH} {o : Nat} {S : aS} (g : IM H o S) (ok : OkS S) (a x y z : Int) : WP w d 363 [aO (some o), aI a, aI x, aI y, aI z] H (RI (fun r H1 => r = (valueF S a x y z).1 ∧ IM H1 o (valueF S a x y z).2 ∧ KO H H1 o)) := by
  have q := m_value (w := w) (d := d) (by omega) g.1 (hV H) g.2.2.2.2 ok.2.2 g.2.1 ok.1.1 a x y z
  rw [hw_self] at q
  refine q.imp ?_
  rintro _ _ ⟨r, rfl, V1, rfl, x1, f, er⟩
  exact ⟨r, rfl, er, g.num f x1 value_fr⟩
