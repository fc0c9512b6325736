/-! the class's own layout, as it stays while it works -/
def CS (h : aH) (c : Nat) : Prop := (∀ j < 34, hT h (c + j) = xkl.getD j (0, 0)) ∧ ∀ i < 39, hR h (c + (xrl.getD i (0, 0, 0)).1) (xrl.getD i (0, 0, 0)).2.1 = some (c + (xrl.getD i (0, 0, 0)).2.2)
theorem CS.kd {h : aH} {c : Nat} (cs : CS h c) (j : Nat) (hj : j < 34) {k n : Nat} (e : xkl.getD j (0, 0) = (k, n)) : (hT h (c + j)).1 = k := by rw [cs.1 j hj, e]
theorem CS.ar {h : aH} {c : Nat} (cs : CS h c) (j : Nat) (hj : j < 34) {k n : Nat} (e : xkl.getD j (0, 0) = (k, n)) : hT h (c + j) = (k, n) := by rw [cs.1 j hj, e]
theorem CS.rf {h : aH} {c : Nat} (cs : CS h c) (i : Nat) (hi : i < 39) {o f t : Nat} (e : xrl.getD i (0, 0, 0) = (o, f, t)) : hR h (c + o) f = some (c + t) := by
  have := cs.2 i hi
  rw [e] at this
  exact this
theorem Xs.cs {h0 h : aH} {c s : Nat} (x : Xs h0 h c 34 39 s) : CS h c := ⟨x.2.1, fun i hi => (x.2.2.1 i hi).2⟩
theorem ed_low {n d1 : Int} (h0 : d1 ≠ 0) : (0 : Int) < (Int.gcd n d1 : Int) := by
  have := Int.gcd_pos_of_ne_zero_right n h0
  omega
