/-! the reference's rows of registers: points, lines, circles -/
def SLa (o p : Nat) : Prop := o + 24 ≤ p ∧ p ≤ o + 31
def SA (V : Nat → Nat → Int) (p a b c e : Nat) : Prop := V p 0 = (a : Int) ∧ V p 1 = (b : Int) ∧ V p 2 = (c : Int) ∧ V p 3 = (e : Int)
def SB (V : Nat → Nat → Int) (o p : Nat) (R : T4) (k : Nat) : Prop := ∃ a b c e, SA V p a b c e ∧ RB V o a R.1 k ∧ RB V o b R.2.1 k ∧ RB V o c R.2.2.1 k ∧ RB V o e R.2.2.2 k
/-- what stays while registers are taken and rows T written -/
def Gs (V V1 : Nat → Nat → Int) (o n : Nat) (T : Nat → Prop) : Prop := (∀ q, q ≠ o → q ≠ o + 1 → ¬ T q → V1 q = V q) ∧ (∀ f, f ≠ 1 → V1 o f = V o f) ∧ (V o 1 ≤ V1 o 1 ∧ V1 o 1 ≤ V o 1 + n) ∧ ∀ r z, RV V o r z → RV V1 o r z
theorem Gm.gs {V V1 : Nat → Nat → Int} {o n : Nat} (g : Gm V V1 o n) (T : Nat → Prop) : Gs V V1 o n T := ⟨fun q h1 h2 _ => g.1 q h1 h2, g.2.1, g.2.2.1, g.2.2.2⟩
theorem Gs.gm {V V1 : Nat → Nat → Int} {o n : Nat} (g : Gs V V1 o n (fun _ => False)) : Gm V V1 o n := ⟨fun q h1 h2 => g.1 q h1 h2 (fun x => x), g.2.1, g.2.2.1, g.2.2.2⟩
theorem Gs.rv {V V1 : Nat → Nat → Int} {o n : Nat} {T : Nat → Prop} (g : Gs V V1 o n T) {r : Nat} {z : Int} (x : RV V o r z) : RV V1 o r z := g.2.2.2 r z x
theorem Gs.rb {V V1 : Nat → Nat → Int} {o n : Nat} {T : Nat → Prop} (g : Gs V V1 o n T) {r : Nat} {z : Int} {k : Nat} (x : RB V o r z k) : RB V1 o r z k := ⟨g.rv x.1, x.2⟩
theorem Gs.trans {V V1 V2 : Nat → Nat → Int} {o n m : Nat} {T : Nat → Prop} (g : Gs V V1 o n T) (g2 : Gs V1 V2 o m T) : Gs V V2 o (n + m) T := ⟨fun q h1 h2 h3 => by rw [g2.1 q h1 h2 h3, g.1 q h1 h2 h3], fun f hf => by rw [g2.2.1 f hf, g.2.1 f hf], by have := g.2.2.1; have := g2.2.2.1; omega, fun r z x => g2.2.2.2 r z (g.2.2.2 r z x)⟩
theorem Gs.mono {V V1 : Nat → Nat → Int} {o n m : Nat} {T : Nat → Prop} (g : Gs V V1 o n T) (h : n ≤ m) : Gs V V1 o m T := ⟨g.1, g.2.1, by have := g.2.2.1; omega, g.2.2.2⟩
theorem Gs.wide {V V1 : Nat → Nat → Int} {o n : Nat} {T T2 : Nat → Prop} (g : Gs V V1 o n T) (h : ∀ q, T q → T2 q) : Gs V V1 o n T2 := ⟨fun q h1 h2 h3 => g.1 q h1 h2 (fun x => h3 (h q x)), g.2.1, g.2.2.1, g.2.2.2⟩
theorem Gs.refl (V : Nat → Nat → Int) (o : Nat) (T : Nat → Prop) : Gs V V o 0 T := ⟨fun _ _ _ _ => rfl, fun _ _ => rfl, by omega, fun _ _ x => x⟩
theorem Gm.sa {V V1 : Nat → Nat → Int} {o n p a b c e : Nat} (g : Gm V V1 o n) (hp : SLa o p) (f : SA V p a b c e) : SA V1 p a b c e := by
  unfold SLa at hp
  have q := g.1 p (by omega) (by omega)
  unfold SA
  rw [q]
  exact f
theorem Gs.sa {V V1 : Nat → Nat → Int} {o n p a b c e : Nat} {T : Nat → Prop} (g : Gs V V1 o n T) (hp : SLa o p) (hn : ¬ T p) (f : SA V p a b c e) : SA V1 p a b c e := by
  unfold SLa at hp
  have q := g.1 p (by omega) (by omega) hn
  unfold SA
  rw [q]
  exact f
theorem RB.up {V : Nat → Nat → Int} {o r : Nat} {z : Int} {j k : Nat} (x : RB V o r z j) (hk : j ≤ k) : RB V o r z k := ⟨x.1, bd_up hk x.2⟩
theorem SB.up {V : Nat → Nat → Int} {o p : Nat} {R : T4} {j k : Nat} (x : SB V o p R j) (hk : j ≤ k) : SB V o p R k := by
  obtain ⟨a, b, c, e, f, w1, w2, w3, w4⟩ := x
  exact ⟨a, b, c, e, f, w1.up hk, w2.up hk, w3.up hk, w4.up hk⟩
theorem MS.slot {h : aH} {o p : Nat} (ms : MS h o) (hp : SLa o p) : hT h p = (1, 4) := by
  unfold SLa at hp
  have hc : p = o + 24 ∨ p = o + 25 ∨ p = o + 26 ∨ p = o + 27 ∨ p = o + 28 ∨ p = o + 29 ∨ p = o + 30 ∨ p = o + 31 := by omega
  rcases hc with rfl | rfl | rfl | rfl | rfl | rfl | rfl | rfl
  · exact mt_one ms
  · exact mt_two ms
  · exact mt_three ms
  · exact mt_four ms
  · exact mt_five ms
  · exact mt_got ms
  · exact mt_limits ms
  · exact mt_sixth ms
/-- one cell of a row written -/
theorem Gs.cell {V : Nat → Nat → Int} {o p i : Nat} {v : Int} (hp : SLa o p) : Gs V (vset V p i v) o 0 (fun q => q = p) := by
  unfold SLa at hp
  have eo : vset V p i v o = V o := by funext j; rw [vset_ne _ _ _ _ (by omega)]
  have e1 : vset V p i v (o + 1) = V (o + 1) := by funext j; rw [vset_ne _ _ _ _ (by omega)]
  refine ⟨fun q _ _ h3 => by funext j; rw [vset_ne _ _ _ _ (by omega)], fun f _ => by rw [eo], by rw [eo]; omega, fun r z x => ?_⟩
  obtain ⟨k, h1, h2, h3, h4⟩ := x
  exact ⟨k, h1, by rw [eo]; exact h2, by rw [eo]; exact h3, h4.congr fun j hj => by show vset _ _ _ _ _ _ = _; rw [e1]⟩
theorem SA.c0 {V : Nat → Nat → Int} {p a b c e : Nat} (f : SA V p a b c e) (v : Nat) : SA (vset V p 0 (v : Int)) p v b c e := ⟨vset_eq _ _ _ _, by rw [vset_ne _ _ _ _ (by omega)]; exact f.2.1, by rw [vset_ne _ _ _ _ (by omega)]; exact f.2.2.1, by rw [vset_ne _ _ _ _ (by omega)]; exact f.2.2.2⟩
theorem SA.c1 {V : Nat → Nat → Int} {p a b c e : Nat} (f : SA V p a b c e) (v : Nat) : SA (vset V p 1 (v : Int)) p a v c e := ⟨by rw [vset_ne _ _ _ _ (by omega)]; exact f.1, vset_eq _ _ _ _, by rw [vset_ne _ _ _ _ (by omega)]; exact f.2.2.1, by rw [vset_ne _ _ _ _ (by omega)]; exact f.2.2.2⟩
theorem SA.c2 {V : Nat → Nat → Int} {p a b c e : Nat} (f : SA V p a b c e) (v : Nat) : SA (vset V p 2 (v : Int)) p a b v e := ⟨by rw [vset_ne _ _ _ _ (by omega)]; exact f.1, by rw [vset_ne _ _ _ _ (by omega)]; exact f.2.1, vset_eq _ _ _ _, by rw [vset_ne _ _ _ _ (by omega)]; exact f.2.2.2⟩
theorem SA.c3 {V : Nat → Nat → Int} {p a b c e : Nat} (f : SA V p a b c e) (v : Nat) : SA (vset V p 3 (v : Int)) p a b c v := ⟨by rw [vset_ne _ _ _ _ (by omega)]; exact f.1, by rw [vset_ne _ _ _ _ (by omega)]; exact f.2.1, by rw [vset_ne _ _ _ _ (by omega)]; exact f.2.2.1, vset_eq _ _ _ _⟩
