/-! polygons of both sides in the one picture (by hand) -/
theorem IX.pgn {w : aW} {H : aH} {c : Nat} {S S2 : aS} (x : IX w H c S) {V1 : Nat → Nat → Int} (f : ∀ a, (a < c + 11 ∨ c + 16 < a) → V1 a = hV H a) (xg : XG V1 c S2) (e : S2.1 = S.1 ∧ S2.2.1 = S.2.1 ∧ S2.2.2.2 = S.2.2.2) : IX w (hw H V1) c S2 ∧ KX H (hw H V1) c :=
  ⟨x.own (by rw [f _ (by omega)]) (XN.st e.1 (x.xn.frJ (by rw [f _ (by omega)]) (f _ (by omega)) (f _ (by omega)))) (XT.st e.2.1 (x.xt.fr (H1 := hw H V1) (f _ (by omega)) (f _ (by omega)) (f _ (by omega)))) xg (fun a h1 h2 => f a (by omega)) (x.kn.fr (f _ (by omega))) e.2.2 (by rw [f _ (by omega)]) (fun a h1 _ => f a (by omega)), KX.own (fun a ha => f a (by omega))⟩
theorem IM.pgn {H : aH} {o : Nat} {S S2 : aS} (x : IM H o S) {V1 : Nat → Nat → Int} (f : ∀ a i, ¬(a = o ∧ (i = 10 ∨ i = 31)) → (a < o + 6 ∨ o + 11 < a) → V1 a i = hV H a i) (mg : MG V1 o S2) (e : S2.1 = S.1 ∧ S2.2.1 = S.2.1 ∧ S2.2.2.2 = S.2.2.2) : IM (hw H V1) o S2 ∧ KO H (hw H V1) o := by
  obtain ⟨ms, mn, mt, -, mp⟩ := x
  have fo : ∀ i, i ≠ 10 → i ≠ 31 → V1 o i = hV H o i := fun i h1 h2 => f o i (by omega) (by omega)
  have fa : ∀ a, a ≠ o → (a < o + 6 ∨ o + 11 < a) → V1 a = hV H a := fun a h1 h2 => by
    funext i
    exact f a i (by omega) h2
  exact ⟨⟨ms, MN.st e.1 (mn.frJ (fo 2 (by omega) (by omega)) (fa _ (by omega) (by omega)) (fa _ (by omega) (by omega))), MT.st e.2.1 (mt.fr (fo 7 (by omega) (by omega)) (fa _ (by omega) (by omega)) (fa _ (by omega) (by omega))), mg, MP.st e.2.2 (mp.fr (fo 17 (by omega) (by omega)) (fa _ (by omega) (by omega)))⟩, V1, rfl, fun a ha => fa a (by omega) (by omega)⟩
theorem begF_fr (S : aS) : (begF S).2.1 = S.1 ∧ (begF S).2.2.1 = S.2.1 ∧ (begF S).2.2.2.2 = S.2.2.2 := by
  unfold begF
  split <;> exact ⟨rfl, rfl, rfl⟩
theorem corF_fr (S : aS) (p x y : Int) : (corF S p x y).2.1 = S.1 ∧ (corF S p x y).2.2.1 = S.2.1 ∧ (corF S p x y).2.2.2.2 = S.2.2.2 := by
  unfold corF
  repeat' split
  all_goals exact ⟨rfl, rfl, rfl⟩
theorem OkS.plg {S S2 : aS} (ok : OkS S) (g : OkG S2) (e : S2.1 = S.1 ∧ S2.2.1 = S.2.1 ∧ S2.2.2.2 = S.2.2.2) : OkS S2 := ⟨⟨ok.1.1.st e.1, ok.1.2.st e.2.1⟩, ⟨ok.2.1.1.st e.2.1, g⟩, ok.2.2.st e.2.2⟩
theorem ok_beg {S : aS} (ok : OkS S) : OkS (begF S).2 := ok.plg (begF_ok ok.2.1.2) (begF_fr S)
theorem ok_cor {S : aS} (ok : OkS S) (p x y : Int) : OkS (corF S p x y).2 := ok.plg (corF_ok ok.2.1.2 p x y) (corF_fr S p x y)
theorem jx_poly {w : aW} {d : Nat} (hd : 60 ≤ d) {H : aH} {c : Nat} {S : aS} (x : IX w H c S) (ok : OkS S) : WP w d 210 [aO (some c)] H (RI (fun r H1 => r = (begF S).1 ∧ IX w H1 c (begF S).2 ∧ KX H H1 c)) := by
  have q := f_polygon (w := w) (d := d) (by omega) x.cs (hV H) x.xg ok.2.1.2
  rw [hw_self] at q
  refine q.imp ?_
  rintro _ _ ⟨r, rfl, V1, rfl, f, er, xg⟩
  exact ⟨r, rfl, er, x.pgn (fun a ha => f a (by omega) (by omega)) xg (begF_fr S)⟩
theorem jm_poly {w : aW} {d : Nat} (hd : 60 ≤ d) {H : aH} {o : Nat} {S : aS} (x : IM H o S) (ok : OkS S) : WP w d 331 [aO (some o)] H (RI (fun r H1 => r = (begF S).1 ∧ IM H1 o (begF S).2 ∧ KO H H1 o)) := by
  have q := m_polygon (w := w) (d := d) (by omega) x.1 (hV H) x.2.2.2.1 ok.2.1.2
  rw [hw_self] at q
  refine q.imp ?_
  rintro _ _ ⟨r, rfl, V1, rfl, f, er, mg⟩
  exact ⟨r, rfl, er, x.pgn (fun a i h1 h2 => f a i h1 (by omega) (by omega) (by omega)) mg (begF_fr S)⟩
theorem jx_corn {w : aW} {d : Nat} (hd : 60 ≤ d) {H : aH} {c : Nat} {S : aS} (x : IX w H c S) (ok : OkS S) (p a b : Int) : WP w d 211 [aO (some c), aI p, aI a, aI b] H (RI (fun r H1 => r = (corF S p a b).1 ∧ IX w H1 c (corF S p a b).2 ∧ KX H H1 c)) := by
  have q := f_corner (w := w) (d := d) (by omega) x.cs (hV H) x.xg ok.2.1.2 p a b
  rw [hw_self] at q
  refine q.imp ?_
  rintro _ _ ⟨r, rfl, V1, rfl, f, er, xg⟩
  exact ⟨r, rfl, er, x.pgn (fun a ha => f a (by omega) (by omega) (by omega)) xg (corF_fr S p a b)⟩
theorem jm_corn {w : aW} {d : Nat} (hd : 60 ≤ d) {H : aH} {o : Nat} {S : aS} (x : IM H o S) (ok : OkS S) (p a b : Int) : WP w d 332 [aO (some o), aI p, aI a, aI b] H (RI (fun r H1 => r = (corF S p a b).1 ∧ IM H1 o (corF S p a b).2 ∧ KO H H1 o)) := by
  have q := m_corner (w := w) (d := d) (by omega) x.1 (hV H) x.2.2.2.1 ok.2.1.2 p a b
  rw [hw_self] at q
  refine q.imp ?_
  rintro _ _ ⟨r, rfl, V1, rfl, f, er, mg⟩
  exact ⟨r, rfl, er, x.pgn (fun a i h1 h2 => f a i h1 (by omega) (by omega) (by omega)) mg (corF_fr S p a b)⟩
theorem m_low_w (R : T4) : 0 ≤ (m_low R).2.2.1 := by
  have hg : 0 ≤ g4 R := Int.natCast_nonneg _
  unfold m_low
  by_cases q : R.2.2.1 < 0 ∨ R.2.2.1 = 0 ∧ (R.2.1 < 0 ∨ R.2.1 = 0 ∧ R.1 < 0)
  · rw [if_pos q]
    show 0 ≤ -(R.2.2.1.tdiv (g4 R))
    rw [← Int.neg_tdiv]
    exact Int.tdiv_nonneg (by omega) hg
  · rw [if_neg q]
    show 0 ≤ R.2.2.1.tdiv (g4 R)
    exact Int.tdiv_nonneg (by omega) hg
theorem OkL.w0 {S : aS} (ok : OkL S) {t : Int} (h : isS S t 0) : 0 ≤ sTp S t.toNat 2 := by
  have h1 := (ok.p h).2.1
  have h2 := m_low_w (tpR S t)
  rw [h1] at h2
  exact h2
noncomputable def plcF (S : aS) (p t : Int) : Int := if ¬((0 ≤ p ∧ p < sG S) ∧ isS S t 0) then -1 else if sTp S t.toNat 2 = 0 ∨ ¬ bt (gSim S p.toNat) = true then -3 else gWh S p.toNat (sTp S t.toNat 0) (sTp S t.toNat 1) (sTp S t.toNat 2)
theorem jx_place {w : aW} {d : Nat} (hd : 60 ≤ d) {H : aH} {c : Nat} {S : aS} (x : IX w H c S) (ok : OkS S) (p t : Int) : WP w d 213 [aO (some c), aI p, aI t] H (RI (fun r H1 => r = plcF S p t ∧ IX w H1 c S ∧ KX H H1 c)) := by
  have q := f_place (w := w) (d := d) (by omega) x.cs (hV H) x.ci x.xg ok.2.1.2 x.xt ok.1.2 p t ok.2.1.1.w0
  rw [hw_self] at q
  refine q.imp ?_
  rintro _ _ ⟨r, rfl, rfl, er⟩
  exact ⟨r, rfl, er, x, KX.refl _ _⟩
theorem IM.fpm {H : aH} {o : Nat} {S : aS} (x : IM H o S) {V1 : Nat → Nat → Int} (f : FPm (hV H) V1 o) : IM (hw H V1) o S ∧ KO H (hw H V1) o :=
  x.pgn (fun a i h1 h2 => f a i (by omega) (by omega) (by omega) (by omega)) (x.2.2.2.1.fr (f o 10 (by omega) (by omega) (by omega) (by omega)) (fun a h1 h2 => by funext i; exact f a i (by omega) (by omega) (by omega) (by omega))) ⟨rfl, rfl, rfl⟩
theorem IX.fpg {w : aW} {H : aH} {c : Nat} {S : aS} (x : IX w H c S) {V1 : Nat → Nat → Int} (f : FPg (hV H) V1 c) : IX w (hw H V1) c S ∧ KX H (hw H V1) c :=
  x.pgn (fun a ha => f a (by omega) (by omega)) (x.xg.fr (fun a h1 h2 => f a (by omega) (by omega))) ⟨rfl, rfl, rfl⟩
theorem jm_place {w : aW} {d : Nat} (hd : 60 ≤ d) {H : aH} {o : Nat} {S : aS} (x : IM H o S) (ok : OkS S) (p t : Int) : WP w d 350 [aO (some o), aI p, aI t] H (RI (fun r H1 => r = plcF S p t ∧ IM H1 o S ∧ KO H H1 o)) := by
  have q := m_place (w := w) (d := d) (by omega) x.1 (hV H) x.2.2.2.1 ok.2.1.2 ok.1.2 x.2.2.1 p t ok.2.1.1.w0
  rw [hw_self] at q
  refine q.imp ?_
  rintro _ _ ⟨r, rfl, V1, rfl, f, er⟩
  exact ⟨r, rfl, er, x.fpm f⟩
/-- one call on both sides gives one answer, and both sides hold the same afterwards -/
def TwI (w : aW) (m1 m2 : Nat) (as : List aV) (S S2 : aS) : Prop := ∀ (H : aH) (c : Nat), IX w H c S → ∃ P : Int → Prop, WP w 1000 m1 (aO (some c) :: as) H (RI (fun r H1 => P r ∧ IX w H1 c S2 ∧ KX H H1 c)) ∧ ∀ r, P r → ∀ (H1 : aH) (o : Nat), IM H1 o S → WP w 1000 m2 (aO (some o) :: as) H1 (RI (fun r2 H2 => r2 = r ∧ IM H2 o S2 ∧ KO H1 H2 o))
def TwJ (w : aW) (m1 m2 : Nat) (as : List aV) (S S2 : aS) : Prop := ∀ (H : aH) (c : Nat), IX w H c S → ∃ P : Int → Prop, WP w 1000 m1 (aO (some c) :: as) H (RJ (fun r H1 => P r ∧ IX w H1 c S2 ∧ KX H H1 c)) ∧ ∀ r, P r → ∀ (H1 : aH) (o : Nat), IM H1 o S → WP w 1000 m2 (aO (some o) :: as) H1 (RJ (fun r2 H2 => r2 = r ∧ IM H2 o S2 ∧ KO H1 H2 o))
theorem TwI.of {w : aW} {m1 m2 : Nat} {as : List aV} {S S2 : aS} {F : Int} (hx : ∀ (H : aH) (c : Nat), IX w H c S → WP w 1000 m1 (aO (some c) :: as) H (RI (fun r H1 => r = F ∧ IX w H1 c S2 ∧ KX H H1 c))) (hm : ∀ (H : aH) (o : Nat), IM H o S → WP w 1000 m2 (aO (some o) :: as) H (RI (fun r H1 => r = F ∧ IM H1 o S2 ∧ KO H H1 o))) : TwI w m1 m2 as S S2 := by
  intro H c x
  refine ⟨fun r => r = F, hx H c x, fun r hr H1 o y => ?_⟩
  have hr : r = F := hr
  subst hr
  exact hm H1 o y
theorem TwJ.of {w : aW} {m1 m2 : Nat} {as : List aV} {S S2 : aS} {F : Int} (hx : ∀ (H : aH) (c : Nat), IX w H c S → WP w 1000 m1 (aO (some c) :: as) H (RJ (fun r H1 => r = F ∧ IX w H1 c S2 ∧ KX H H1 c))) (hm : ∀ (H : aH) (o : Nat), IM H o S → WP w 1000 m2 (aO (some o) :: as) H (RJ (fun r H1 => r = F ∧ IM H1 o S2 ∧ KO H H1 o))) : TwJ w m1 m2 as S S2 := by
  intro H c x
  refine ⟨fun r => r = F, hx H c x, fun r hr H1 o y => ?_⟩
  have hr : r = F := hr
  subst hr
  exact hm H1 o y
theorem IX.pgw {w : aW} {H : aH} {c : Nat} {S : aS} (x : IX w H c S) {d m : Nat} {as : List aV} {P : Int → Prop} (q : WP w d m as (hw H (hV H)) (RJ (fun r h1 => ∃ V1, h1 = hw H V1 ∧ FPg (hV H) V1 c ∧ P r))) : WP w d m as H (RJ (fun r H1 => P r ∧ IX w H1 c S ∧ KX H H1 c)) := by
  rw [hw_self] at q
  refine q.imp ?_
  rintro _ _ ⟨r, rfl, V1, rfl, f, p⟩
  exact ⟨r, rfl, p, x.fpg f⟩
theorem IM.pgw {H : aH} {o : Nat} {S : aS} (x : IM H o S) {w : aW} {d m : Nat} {as : List aV} {F : Int} {P : Int → (Nat → Nat → Int) → Prop} (q : WP w d m as (hw H (hV H)) (RJ (fun r h1 => ∃ V1, h1 = hw H V1 ∧ FPm (hV H) V1 o ∧ P r V1))) (hP : ∀ r V1, P r V1 → r = F) : WP w d m as H (RJ (fun r H1 => r = F ∧ IM H1 o S ∧ KO H H1 o)) := by
  rw [hw_self] at q
  refine q.imp ?_
  rintro _ _ ⟨r, rfl, V1, rfl, f, p⟩
  exact ⟨r, rfl, hP r V1 p, x.fpm f⟩
theorem WrH_0 {S : aS} {p : Nat} {V1 : Nat → Nat → Int} {o : Nat} {r : Int} (h : WrH S p V1 o r) (h0 : sGn S p = 0) : r = 0 := by
  obtain ⟨H, m, hr, hv, ⟨rfl, -⟩ | ⟨rfl, hl, -⟩ | hh⟩ := h
  · exact hr
  · have := hl.1
    omega
  · have := hh.2.1.1
    omega
theorem two_pgOf {w : aW} {S : aS} (ok : OkS S) (p k : Int) : TwJ w 212 349 [aI p, aI k] S S := by
  by_cases hp : (0 ≤ p ∧ p < sG S) ∧ (0 ≤ k ∧ k ≤ 8)
  · obtain ⟨n, rfl⟩ : ∃ n : Nat, p = n := ⟨p.toNat, by omega⟩
    have hn : n < sG S := by omega
    have okg := ok.2.1.2
    intro H c x
    rcases (show k = 0 ∨ k = 1 ∨ k = 2 ∨ k = 3 ∨ k = 4 ∨ k = 5 ∨ k = 6 ∨ k = 7 ∨ k = 8 by omega) with e | e | e | e | e | e | e | e | e <;> subst e
    · exact ⟨_, x.pgw (f_pgOf0 (by omega) x.cs (hV H) x.xg okg n hn), fun r hr H1 o y => y.pgw (m_pgOf0 (by omega) y.1 (hV H1) y.2.2.2.1 okg n hn) (fun r2 V1 h => Eq.trans h (Eq.symm hr))⟩
    · exact ⟨_, x.pgw (f_pgOf1 (by omega) x.cs (hV H) x.xg okg n hn), fun r hr H1 o y => y.pgw (m_pgOf1 (by omega) y.1 (hV H1) y.2.2.2.1 okg n hn) (fun r2 V1 h => Eq.trans h (Eq.symm hr))⟩
    · exact ⟨_, x.pgw (f_pgOf2 (by omega) x.cs (hV H) x.xg okg n hn), fun r hr H1 o y => y.pgw (m_pgOf2 (by omega) y.1 (hV H1) y.2.2.2.1 okg n hn) (fun r2 V1 h => Eq.trans h (Eq.symm hr))⟩
    · refine ⟨_, x.pgw (f_pgOf3 (by omega) x.cs (hV H) x.xg okg n hn), fun r hr H1 o y => y.pgw (m_pgOf3 (by omega) y.1 (hV H1) y.2.2.2.1 okg n hn) (fun r2 V1 h => ?_)⟩
      rcases hr with ⟨h0, rfl⟩ | ⟨t, f, rfl, hf, ht⟩
      · exact WrH_0 h h0
      · exact (wrap_both h hf ht).1
    · exact ⟨_, x.pgw (f_pgOf4 (by omega) x.cs (hV H) x.xg okg n hn), fun r hr H1 o y => y.pgw (m_pgOf4 (by omega) y.1 (hV H1) y.2.2.2.1 okg n hn) (fun r2 V1 h => Eq.trans h (Eq.symm hr))⟩
    · exact ⟨_, x.pgw (f_pgOf5 (by omega) x.cs (hV H) x.xg okg n hn), fun r hr H1 o y => y.pgw (m_pgOf5 (by omega) y.1 (hV H1) y.2.2.2.1 okg n hn) (fun r2 V1 h => Eq.trans h (Eq.symm hr))⟩
    · exact ⟨_, x.pgw (f_pgOf6 (by omega) x.cs (hV H) x.xg okg n hn), fun r hr H1 o y => y.pgw (m_pgOf6 (by omega) y.1 (hV H1) y.2.2.2.1 okg n hn) (fun r2 V1 h => Eq.trans h (Eq.symm hr))⟩
    · exact ⟨_, x.pgw (f_pgOf7 (by omega) x.cs (hV H) x.xg okg n hn), fun r hr H1 o y => y.pgw (m_pgOf7 (by omega) y.1 (hV H1) y.2.2.2.1 okg n hn) (fun r2 V1 h => Eq.trans h (Eq.symm hr))⟩
    · exact ⟨_, x.pgw (f_pgOf8 (by omega) x.cs (hV H) x.xg okg n hn), fun r hr H1 o y => y.pgw (m_pgOf8 (by omega) y.1 (hV H1) y.2.2.2.1 okg n hn) (fun r2 V1 h => gMx_eq h hr)⟩
  · have hp2 : ¬(0 ≤ p ∧ p < sG S) ∨ ¬(0 ≤ k ∧ k ≤ 8) := by omega
    refine TwJ.of (F := if 0 ≤ p ∧ p < sG S then -2 else -1) (fun H c x => ?_) (fun H o y => ?_)
    · have q := f_pgOfX (w := w) (d := 1000) (by omega) x.cs (hV H) x.xg ok.2.1.2 p k hp2
      rw [hw_self] at q
      refine q.imp ?_
      rintro _ _ ⟨r, rfl, rfl, er⟩
      exact ⟨r, rfl, er, x, KX.refl _ _⟩
    · exact y.pgw (m_pgOfX (by omega) y.1 (hV H) y.2.2.2.1 ok.2.1.2 p k hp2) (fun _ _ h => h)
theorem two_around {w : aW} {S : aS} (ok : OkS S) (p i k : Int) : TwI w 214 351 [aI p, aI i, aI k] S S := by
  by_cases hp : 0 ≤ p ∧ p < sG S
  · obtain ⟨n, rfl⟩ : ∃ n : Nat, p = n := ⟨p.toNat, by omega⟩
    have hn : n < sG S := by omega
    have okg := ok.2.1.2
    intro H c x
    refine ⟨fun r => (sGn S n = 0 ∧ r = -2) ∨ ∃ t f : Nat, gLe S n f ∧ gEnd S n f t ∧ ((¬ ((0 ≤ i ∧ i < t) ∧ 0 ≤ k ∧ k ≤ 1) ∧ r = -2) ∨ (((0 ≤ i ∧ i < t) ∧ 0 ≤ k ∧ k ≤ 1) ∧ ∃ q : Nat, gIt S n f i.toNat = q ∧ q < sGn S n ∧ r = if k = 0 then gx S n q else gy S n q)), ?_, fun r hr H1 o y => ?_⟩
    · have q := f_around (w := w) (d := 1000) (by omega) x.cs (hV H) x.xg okg n hn i k
      rw [hw_self] at q
      refine q.imp ?_
      rintro _ _ ⟨r, rfl, V1, rfl, f, p⟩
      exact ⟨r, rfl, p, x.fpg f⟩
    · have q := m_pgAro (w := w) (d := 1000) (by omega) y.1 (hV H1) y.2.2.2.1 okg n hn i k
      rw [hw_self] at q
      refine q.imp ?_
      rintro _ _ ⟨r2, rfl, V1, rfl, f, N, hw1, p⟩
      refine ⟨r2, rfl, ?_, y.fpm f⟩
      rcases hr with ⟨h0, rfl⟩ | ⟨t, f, hf, ht, hr⟩
      · have hN := WrH_0 hw1 h0
        rcases p with ⟨-, p⟩ | ⟨p, -⟩
        · exact p
        · omega
      · obtain ⟨hN, hb⟩ := wrap_both hw1 hf ht
        subst hN
        rcases hr with ⟨h1, rfl⟩ | ⟨h1, q, e1, e2, e3⟩
        · rcases p with ⟨-, p⟩ | ⟨p, -⟩
          · exact p
          · exact absurd p h1
        · rcases p with ⟨p, -⟩ | ⟨-, q2, f1, f2, f3⟩
          · exact absurd h1 p
          · obtain ⟨a, b, g1, g2, g3, g4, g5⟩ := hb i.toNat (by omega)
            have ea : a = q2 := by omega
            have eb : b = q := by omega
            subst ea
            subst eb
            rw [f3, e3, g5.1, g5.2]
  · refine TwI.of (F := -1) (fun H c x => ?_) (fun H o y => ?_)
    · have q := f_aroundX (w := w) (d := 1000) (by omega) x.cs (hV H) x.xg ok.2.1.2 p i k hp
      rw [hw_self] at q
      refine q.imp ?_
      rintro _ _ ⟨r, rfl, rfl, er⟩
      exact ⟨r, rfl, er, x, KX.refl _ _⟩
    · have q := m_aroundX (w := w) (d := 1000) (by omega) y.1 (hV H) y.2.2.2.1 ok.2.1.2 p i k hp
      rw [hw_self] at q
      refine q.imp ?_
      rintro _ _ ⟨r, rfl, V1, rfl, f, er⟩
      exact ⟨r, rfl, er, y.fpm f⟩
