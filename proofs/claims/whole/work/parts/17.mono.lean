/-! deeper calls do what shallower ones do: printed by wip/whole/genmono.py -/
theorem acall_imp {cal cal1 : aCal} {K K1 : Nat → aLs → List aV → aH → Prop} {nx a n rk : Nat} {sl : Int} {ls : aLs} {st : List aV} {h : aH} (hc : ∀ m as h r h1, cal m as h r h1 → cal1 m as h r h1) (hK : ∀ pc ls st h, K pc ls st h → K1 pc ls st h) (hst : acall cal K nx a n rk sl ls st h) : acall cal1 K1 nx a n rk sl ls st h := by
  obtain ⟨as, s, r, h1, a1, a2, a3, a4, a5, a6, a7⟩ := hst
  exact ⟨as, s, r, h1, a1, a2, a3, a4, a5, hc _ _ _ _ _ a6, hK _ _ _ _ a7⟩
theorem astep_imp {w : aW} {cal cal1 : aCal} {fin fin1 : Option aV → aH → Prop} {K K1 : Nat → aLs → List aV → aH → Prop} {ins : Instr} {pc nx a k q : Nat} {z : Int} {ls : aLs} {st : List aV} {h : aH} (hc : ∀ m as h r h1, cal m as h r h1 → cal1 m as h r h1) (hf : ∀ r h, fin r h → fin1 r h) (hK : ∀ pc ls st h, K pc ls st h → K1 pc ls st h) (hst : astep w cal fin K ins pc nx a k q z ls st h) : astep w cal1 fin1 K1 ins pc nx a k q z ls st h := by
  cases ins
  case ldc => rcases hst with ⟨a0, hk⟩ | ⟨a0, hk⟩
              · exact Or.inl ⟨a0, hK _ _ _ _ hk⟩
              · exact Or.inr ⟨a0, hK _ _ _ _ hk⟩
  case putfield =>
    obtain ⟨b1, b2, b3, b4, b5, hk⟩ := hst
    refine ⟨b1, b2, b3, b4, b5, ?_⟩
    rcases hk with ⟨c1, c2, c3, hk⟩ | ⟨c1, c2, c3, hk⟩ | ⟨c1, c2, c3, hk⟩
    · exact Or.inl ⟨c1, c2, c3, hK _ _ _ _ hk⟩
    · exact Or.inr (Or.inl ⟨c1, c2, c3, hK _ _ _ _ hk⟩)
    · exact Or.inr (Or.inr ⟨c1, c2, c3, hK _ _ _ _ hk⟩)
  case invokestatic => exact acall_imp hc hK hst
  case invokevirtual => exact acall_imp hc hK hst
  case invokespecial =>
    rcases hst with ⟨c1, c2, c3, c4, c5, hk⟩ | ⟨c1, hk⟩
    · exact Or.inl ⟨c1, c2, c3, c4, c5, hK _ _ _ _ hk⟩
    · exact Or.inr ⟨c1, acall_imp hc hK hk⟩
  all_goals first
    | exact hst.elim
    | exact hK _ _ _ _ hst
    | (obtain ⟨a0, hk⟩ := hst; exact ⟨a0, hK _ _ _ _ hk⟩)
    | (obtain ⟨a0, a1, hk⟩ := hst; exact ⟨a0, a1, hK _ _ _ _ hk⟩)
    | (obtain ⟨a0, a1, a2, hk⟩ := hst; exact ⟨a0, a1, a2, hK _ _ _ _ hk⟩)
    | (obtain ⟨a0, a1, a2, a3, hk⟩ := hst; exact ⟨a0, a1, a2, a3, hK _ _ _ _ hk⟩)
    | (obtain ⟨a0, a1, a2, a3, a4, hk⟩ := hst; exact ⟨a0, a1, a2, a3, a4, hK _ _ _ _ hk⟩)
    | (obtain ⟨a0, a1, a2, a3, a4, a5, hk⟩ := hst; exact ⟨a0, a1, a2, a3, a4, a5, hK _ _ _ _ hk⟩)
    | (obtain ⟨a0, a1, a2, a3, a4, a5, a6, hk⟩ := hst; exact ⟨a0, a1, a2, a3, a4, a5, a6, hK _ _ _ _ hk⟩)
    | (obtain ⟨a0, a1, a2, a3, a4, a5, a6, a7, hk⟩ := hst; exact ⟨a0, a1, a2, a3, a4, a5, a6, a7, hK _ _ _ _ hk⟩)
    | (obtain ⟨a0, a1, a2, a3, a4, a5, a6, a7, a8, hk⟩ := hst; exact ⟨a0, a1, a2, a3, a4, a5, a6, a7, a8, hK _ _ _ _ hk⟩)
    | (obtain ⟨a0, a1, a2, a3, a4, a5, a6, a7, a8, a9, hk⟩ := hst; exact ⟨a0, a1, a2, a3, a4, a5, a6, a7, a8, a9, hK _ _ _ _ hk⟩)
    | (obtain ⟨a0, a1, a2, a3, a4, a5, a6, a7, a8, a9, a10, hk⟩ := hst; exact ⟨a0, a1, a2, a3, a4, a5, a6, a7, a8, a9, a10, hK _ _ _ _ hk⟩)
    | (obtain ⟨a0, hk⟩ := hst; exact ⟨a0, hf _ _ hk⟩)
    | (obtain ⟨a0, a1, hk⟩ := hst; exact ⟨a0, a1, hf _ _ hk⟩)
    | (obtain ⟨a0, a1, a2, hk⟩ := hst; exact ⟨a0, a1, a2, hf _ _ hk⟩)
    | (obtain ⟨a0, a1, a2, a3, hk⟩ := hst; exact ⟨a0, a1, a2, a3, hf _ _ hk⟩)
    | (obtain ⟨a0, a1, a2, a3, a4, hk⟩ := hst; exact ⟨a0, a1, a2, a3, a4, hf _ _ hk⟩)
theorem arun_imp {w : aW} {cal cal1 : aCal} {cd : List aE} {r : Option aV} {h' : aH} (hc : ∀ m as h r h1, cal m as h r h1 → cal1 m as h r h1) : ∀ n pc ls st h, arun w cal cd n pc ls st h r h' → arun w cal1 cd n pc ls st h r h' := by
  intro n
  induction n with
  | zero => intro pc ls st h u; exact u.elim
  | succ n ih =>
    intro pc ls st h u
    obtain ⟨ins, nx, a, k, q, z, hlk, hst⟩ := u
    exact ⟨ins, nx, a, k, q, z, hlk, astep_imp hc (fun _ _ u => u) ih hst⟩
theorem frC_imp {w : aW} {cal cal1 : aCal} (hc : ∀ m as h r h1, cal m as h r h1 → cal1 m as h r h1) {as : List aV} {h : aH} {r : Option aV} {h1 : aH} (u : frC w cal as h r h1) : frC w cal1 as h r h1 := by
  rcases u with u | ⟨n, u⟩
  · exact Or.inl u
  · exact Or.inr ⟨n, arun_imp hc _ _ _ _ _ u⟩
theorem ares_succ {w : aW} {cd : Nat → List aE} : ∀ d m as h r h1, ares w (biG w) cd d m as h r h1 → ares w (biG w) cd (d + 1) m as h r h1 := by
  intro d
  induction d with
  | zero => intro m as h r h1 u; exact u.elim
  | succ d ih =>
    intro m as h r h1 u
    rcases u with u | ⟨n, u⟩
    · rcases u with u | u | ⟨u1, u2⟩
      · exact Or.inl (Or.inl u)
      · exact Or.inl (Or.inr (Or.inl u))
      · exact Or.inl (Or.inr (Or.inr ⟨u1, frC_imp ih u2⟩))
    · exact Or.inr ⟨n, arun_imp ih _ _ _ _ _ u⟩
theorem ares_le {w : aW} {cd : Nat → List aE} {d d1 : Nat} (hd : d ≤ d1) {m : Nat} {as : List aV} {h : aH} {r : Option aV} {h1 : aH} (u : ares w (biG w) cd d m as h r h1) : ares w (biG w) cd d1 m as h r h1 := by
  induction hd with
  | refl => exact u
  | step _ ih => exact ares_succ _ _ _ _ _ _ ih
theorem WP.le {w : aW} {d d1 m : Nat} {as : List aV} {h : aH} {Q : Option aV → aH → Prop} (hd : d ≤ d1) (hw : WP w d m as h Q) : WP w d1 m as h Q := by
  obtain ⟨r, h1, u, v⟩ := hw
  exact ⟨r, h1, ares_le hd u, v⟩
