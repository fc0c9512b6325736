/-! the class's side over new rows and tables: polynomials, polygons, boards, figures, things (by hand) -/
theorem IX.cz {w : aW} {H : aH} {c : Nat} {S : aS} (x : IX w H c S) : c + 67 ≤ hz H := x.1.2.1
theorem xr_n22 : ∀ i < 39, (xrl.getD i (0, 0, 0)).1 ≠ 22 := by decide +kernel
theorem CI.gen {H H1 : aH} {c : Nat} (ci : CI H c) (cs : CS H1 c) (hz1 : hz H ≤ hz H1) (eT : ∀ a < hz H, hT H1 a = hT H a) (eR : ∀ a < hz H, a ≠ c + 22 → a ≠ c + 27 → hR H1 a = hR H a) (v1 : hV H1 (c + 1) 1 = hV H (c + 1) 1) : CI H1 c := by
  obtain ⟨-, h1, h2, h3, h4⟩ := ci
  have e2 : hR H1 (c + 2) = hR H (c + 2) := eR _ (by omega) (by omega) (by omega)
  refine ⟨cs, by omega, by rw [v1]; exact h2, fun i hi p hp => ?_, fun i hi j hj p => by rw [e2]; exact h4 i hi j hj p⟩
  rw [e2] at hp
  obtain ⟨⟨w1, w2, w3⟩, w4, w5⟩ := h3 i hi p hp
  exact ⟨⟨by rw [eT _ (by omega)]; exact w1, by rw [eR _ (by omega) (by omega) (by omega)]; exact w2, by rw [eT _ (by omega)]; exact w3⟩, w4, by omega⟩
/-- polynomials of the class -/
theorem IX.pol {w : aW} {H H1 : aH} {c : Nat} {S S2 : aS} (x : IX w H c S) (q : PX H (hV H) c S S2 H1) : IX w H1 c S2 ∧ KX H H1 c := by
  have hz67 := x.cz
  rcases q with ⟨rfl, V1, rfl, f⟩ | ⟨row, V1, rfl, hk, f, hr, V2, eH, g, g9, g17, gr⟩
  · exact ⟨x.own (by rw [f _ (by omega)]) (x.xn.frJ (by rw [f _ (by omega)]) (f _ (by omega)) (f _ (by omega))) (x.xt.fr (H1 := hw H V1) (f _ (by omega)) (f _ (by omega)) (f _ (by omega))) (x.xg.fr (fun a h1 h2 => f a (by omega))) (fun a h1 h2 => f a (by omega)) (x.kn.fr (f _ (by omega))) rfl (by rw [f _ (by omega)]) (fun a h1 _ => f a (by omega)), KX.own (fun a ha => f a (by omega))⟩
  · obtain ⟨ci, ⟨xn, xt, xg, xe, kn⟩, ⟨ρ, xp⟩, cw, tx⟩ := x
    have cs1 : CS H1 c := by
      rw [eH]
      exact (ci.1.new 2 286 (by omega)).put (fun i hi e => xr_n22 i hi (by omega))
    have eT : ∀ a < hz H, hT H1 a = hT H a := fun a ha => by
      rw [eH]
      show hT (hnew H 2 286) a = _
      rw [hT_new, if_neg (by omega)]
    have eN : hT H1 (hz H) = (2, 286) := by
      rw [eH]
      show hT (hnew H 2 286) (hz H) = _
      rw [hT_new, if_pos rfl]
    have e22 : ∀ j, j ≠ sPn S → hR H1 (c + 22) j = hR H (c + 22) j := fun j hj => by
      rw [eH]
      show hR (hput (hnew H 2 286) (c + 22) (sPn S) (some (hz H))) (c + 22) j = _
      rw [hR_put, if_neg (by omega), hR_new, if_neg (by omega)]
    have e22n : hR H1 (c + 22) (sPn S) = some (hz H) := by
      rw [eH]
      show hR (hput (hnew H 2 286) (c + 22) (sPn S) (some (hz H))) (c + 22) (sPn S) = _
      rw [hR_put, if_pos ⟨rfl, rfl⟩]
    have eR : ∀ a < hz H, a ≠ c + 22 → hR H1 a = hR H a := fun a ha hb => by
      funext j
      rw [eH]
      show hR (hput (hnew H 2 286) (c + 22) (sPn S) (some (hz H))) a j = _
      rw [hR_put, if_neg (by omega), hR_new, if_neg (by omega)]
    have ez : hz H1 = hz H + 1 := by rw [eH]; rfl
    have es : hs H1 = hs H + 286 := by rw [eH]; rfl
    have eV : hV H1 = V2 := by rw [eH]; rfl
    have e2 : ∀ a, a ≠ hz H → a ≠ c + 17 → (a < c + 23 ∨ c + 26 < a) → V2 a = hV H a := fun a h1 h2 h3 => by
      rw [g a h1 h2]
      exact f a h3
    have hr27 : hR H1 (c + 27) = hR H (c + 27) := eR _ (by omega) (by omega)
    refine ⟨⟨ci.gen cs1 (by omega) eT (fun a h1 h2 _ => eR a h1 h2) (by rw [eV, e2 _ (by omega) (by omega) (by omega)]), ⟨?_, ?_, ?_, ?_, ?_⟩, ⟨fun a => if a = sPn S then hz H else ρ a, ?_, fun a ha => ?_⟩, cw.fr hr27 (by omega) eT, fun i hi => ⟨by have := (tx i hi).1; omega, by rw [eT _ (tx i hi).1]; exact (tx i hi).2⟩⟩, ⟨by omega, by omega⟩, ?_, eT, fun a h1 h2 => ⟨eR a h1 (by omega), by rw [eV]; exact e2 a (by omega) (by omega) (by omega)⟩⟩
    · rw [eV]
      exact XN.st rfl (xn.frJ (by rw [e2 _ (by omega) (by omega) (by omega)]) (e2 _ (by omega) (by omega) (by omega)) (e2 _ (by omega) (by omega) (by omega)))
    · exact XT.st rfl (xt.fr (by rw [eV]; exact e2 _ (by omega) (by omega) (by omega)) (by rw [eV]; exact e2 _ (by omega) (by omega) (by omega)) (by rw [eV]; exact e2 _ (by omega) (by omega) (by omega)))
    · rw [eV]
      exact XG.st rfl (xg.fr (fun a h1 h2 => e2 a (by omega) (by omega) (by omega)))
    · rw [eV]
      exact xe.fr (fun a h1 h2 => e2 a (by omega) (by omega) (by omega))
    · rw [eV]
      exact kn.fr (e2 _ (by omega) (by omega) (by omega))
    · rw [eV, g9]
      show (sPn S : Int) + 1 = ((sPn S + 1 : Nat) : Int)
      omega
    · have ha : a < sPn S + 1 := ha
      show hR H1 (c + 22) a = some (if a = sPn S then hz H else ρ a) ∧ hT H1 (if a = sPn S then hz H else ρ a) = (2, 286) ∧ c + 67 ≤ (if a = sPn S then hz H else ρ a) ∧ (if a = sPn S then hz H else ρ a) < hz H1 ∧ ∀ t < 286, hV H1 (if a = sPn S then hz H else ρ a) t = (if a = sPn S then row else sPc S a) t
      by_cases y : a = sPn S
      · simp only [if_pos y]
        exact ⟨by rw [y]; exact e22n, eN, hz67, by omega, fun t ht => by rw [eV, gr t ht, hr t ht]⟩
      · simp only [if_neg y]
        obtain ⟨q1, q2, q3, q4, q5⟩ := xp.2 a (by omega)
        exact ⟨by rw [e22 a y]; exact q1, by rw [eT _ q4]; exact q2, q3, by omega, fun t ht => by rw [eV, e2 _ (by omega) (by omega) (by omega), q5 t ht]⟩
    · unfold tmC
      rw [hr27]
      omega
theorem jx_comb {w : aW} {d : Nat} (hd : 60 ≤ d) {H : aH} {c : Nat} {S : aS} (x : IX w H c S) (ok : OkS S) (op a b : Int) : WP w d 216 [aO (some c), aI op, aI a, aI b] H (RI (fun r H1 => r = (cmbF S op a b).1 ∧ IX w H1 c (cmbF S op a b).2 ∧ KX H H1 c)) := by
  obtain ⟨ρ, xp⟩ := x.2.2.1
  have q := f_combine (w := w) (d := d) (by omega) x.cs (hV H) x.xe xp ok.2.2 x.cz op a b
  rw [hw_self] at q
  refine q.imp ?_
  rintro _ _ ⟨r, rfl, er, p⟩
  exact ⟨r, rfl, er, x.pol p⟩
theorem jx_term {w : aW} {d : Nat} (hd : 60 ≤ d) {H : aH} {c : Nat} {S : aS} (x : IX w H c S) (ok : OkS S) (v u : Int) : WP w d 215 [aO (some c), aJ v, aI u] H (RI (fun r H1 => r = (termF S v u).1 ∧ IX w H1 c (termF S v u).2 ∧ KX H H1 c)) := by
  obtain ⟨ρ, xp⟩ := x.2.2.1
  have q := f_term (w := w) (d := d) (by omega) x.cs (hV H) x.xe xp ok.2.2 x.cz v u
  rw [hw_self] at q
  refine q.imp ?_
  rintro _ _ ⟨r, rfl, er, p⟩
  exact ⟨r, rfl, er, x.pol p⟩
/-- boards of the class -/
theorem IX.ways {w : aW} {H H1 : aH} {c : Nat} {S : aS} (x : IX w H c S) (q : WPost H (hV H) c H1) (ht : hs H1 + tmC H1 c ≤ hs H + tmC H c) : IX w H1 c S ∧ KX H H1 c := by
  have hz67 := x.cz
  obtain ⟨g, V2, eH, cw1, cs1, z1, z2, -, gT, -, gR, -, gV⟩ := q
  obtain ⟨ci, ⟨xn, xt, xg, xe, kn⟩, ⟨ρ, xp⟩, cw, tx⟩ := x
  have ez : hz H1 = hz g := by rw [eH]; rfl
  have eV : hV H1 = V2 := by rw [eH]; rfl
  have eT : ∀ a < hz H, hT H1 a = hT H a := fun a ha => by
    rw [eH]
    exact gT a ha
  have eR : ∀ a < hz H, a ≠ c + 27 → hR H1 a = hR H a := fun a ha hb => by
    funext j
    rw [eH]
    exact gR a ha hb j
  have cs2 : CS H1 c := by rw [eH]; exact cs1
  have cw2 : CW H1 c := by rw [eH]; exact cw1
  have own : ∀ a, a < c + 67 → a ≠ c + 27 → V2 a = hV H a := fun a h1 h2 => gV a (by omega) h2 (Or.inl h1)
  refine ⟨⟨ci.gen cs2 (by omega) eT (fun a h1 _ h2 => eR a h1 h2) (by rw [eV, own _ (by omega) (by omega)]), ⟨?_, ?_, ?_, ?_, ?_⟩, ⟨ρ, ?_⟩, cw2, fun i hi => ⟨by have := (tx i hi).1; omega, by rw [eT _ (tx i hi).1]; exact (tx i hi).2⟩⟩, ⟨by omega, by omega⟩, by omega, eT, fun a h1 h2 => ⟨eR a h1 (by omega), by rw [eV]; exact own a (by omega) (by omega)⟩⟩
  · rw [eV]
    exact xn.frJ (by rw [own _ (by omega) (by omega)]) (own _ (by omega) (by omega)) (own _ (by omega) (by omega))
  · exact xt.fr (by rw [eV]; exact own _ (by omega) (by omega)) (by rw [eV]; exact own _ (by omega) (by omega)) (by rw [eV]; exact own _ (by omega) (by omega))
  · rw [eV]
    exact xg.fr (fun a h1 h2 => own a (by omega) (by omega))
  · rw [eV]
    exact xe.fr (fun a h1 h2 => own a (by omega) (by omega))
  · rw [eV]
    exact kn.fr (own _ (by omega) (by omega))
  · refine xp.fr2 (eR _ (by omega) (by omega)) (by omega) eT (by rw [eV, own _ (by omega) (by omega)]) (fun a h1 h2 h3 => ?_)
    rw [eV]
    exact gV a h2 (by omega) (Or.inr (by rw [h3]; decide))
theorem jx_tile {w : aW} {d : Nat} (hd : 60 ≤ d) {H : aH} {c : Nat} {S : aS} (x : IX w H c S) (ok : OkS S) (a l n : Int) : WP w d 220 [aO (some c), aI a, aI l, aJ n] H (RJ (fun r H1 => r = tileF 2 a l n ∧ IX w H1 c S ∧ KX H H1 c)) := by
  have q := x_tile (w := w) (d := d) (by omega) x.cs (hV H) x.2.2.2.1 x.cz a l n
  rw [hw_self] at q
  refine q.imp ?_
  rintro _ _ ⟨r, rfl, p, er⟩
  refine ⟨r, rfl, er, ?_⟩
  rcases p with rfl | ⟨p, pt⟩
  · exact ⟨x, KX.refl _ _⟩
  · exact x.ways p pt
theorem jx_rows {w : aW} {d : Nat} (hd : 60 ≤ d) {H : aH} {c : Nat} {S : aS} (x : IX w H c S) (ok : OkS S) (a l n : Int) : WP w d 221 [aO (some c), aI a, aI l, aJ n] H (RJ (fun r H1 => r = tileF 3 a l n ∧ IX w H1 c S ∧ KX H H1 c)) := by
  have q := x_rows (w := w) (d := d) (by omega) x.cs (hV H) x.2.2.2.1 x.cz a l n
  rw [hw_self] at q
  refine q.imp ?_
  rintro _ _ ⟨r, rfl, p, er⟩
  refine ⟨r, rfl, er, ?_⟩
  rcases p with rfl | ⟨p, pt⟩
  · exact ⟨x, KX.refl _ _⟩
  · exact x.ways p pt
theorem jm_tile {w : aW} {d : Nat} (hd : 60 ≤ d) {H : aH} {o : Nat} {S : aS} (x : IM H o S) (ok : OkS S) (a l n : Int) : WP w d 366 [aO (some o), aI a, aI l, aJ n] H (RJ (fun r H1 => r = tileF 2 a l n ∧ IM H1 o S ∧ KO H H1 o)) := by
  have q := m_tile (w := w) (d := d) (by omega) x.1 (hV H) a l n
  rw [hw_self] at q
  refine q.imp ?_
  rintro _ _ ⟨r, rfl, ⟨V1, rfl, f⟩, er⟩
  exact ⟨r, rfl, er, x.look (fun a i h1 h2 h3 => f a i (by omega) (by omega) (by omega))⟩
theorem jm_rows {w : aW} {d : Nat} (hd : 60 ≤ d) {H : aH} {o : Nat} {S : aS} (x : IM H o S) (ok : OkS S) (a l n : Int) : WP w d 367 [aO (some o), aI a, aI l, aJ n] H (RJ (fun r H1 => r = tileF 3 a l n ∧ IM H1 o S ∧ KO H H1 o)) := by
  have q := m_rowsB (w := w) (d := d) (by omega) x.1 (hV H) a l n
  rw [hw_self] at q
  refine q.imp ?_
  rintro _ _ ⟨r, rfl, ⟨V1, rfl, f⟩, er⟩
  exact ⟨r, rfl, er, x.look (fun a i h1 h2 h3 => f a i (by omega) (by omega) (by omega))⟩
theorem jx_list {w : aW} {d : Nat} (hd : 60 ≤ d) {H : aH} {c : Nat} {S : aS} (x : IX w H c S) (ok : OkS S) (k n : Int) : WP w d 222 [aO (some c), aI k, aI n] H (RI (fun r H1 => r = listF k n ∧ IX w H1 c S ∧ KX H H1 c)) := by
  have q := x_list (w := w) (d := d) (by omega) x.cs (hV H) x.kn k n
  rw [hw_self] at q
  refine q.imp ?_
  rintro _ _ ⟨r, rfl, V1, rfl, f, kn, er⟩
  exact ⟨r, rfl, er, x.own (by rw [f _ (by omega)]) (x.xn.frJ (by rw [f _ (by omega)]) (f _ (by omega)) (f _ (by omega))) (x.xt.fr (H1 := hw H V1) (f _ (by omega)) (f _ (by omega)) (f _ (by omega))) (x.xg.fr (fun a h1 h2 => f a (by omega))) (fun a h1 h2 => f a (by omega)) kn rfl (by rw [f _ (by omega)]) (fun a h1 _ => f a (by omega)), KX.own (fun a ha => f a (by omega))⟩
theorem jm_list {w : aW} {d : Nat} (hd : 60 ≤ d) {H : aH} {o : Nat} {S : aS} (x : IM H o S) (ok : OkS S) (k n : Int) : WP w d 380 [aO (some o), aI k, aI n] H (RI (fun r H1 => r = listF k n ∧ IM H1 o S ∧ KO H H1 o)) := by
  have q := m_list (w := w) (d := d) (by omega) x.1 (hV H) k n
  rw [hw_self] at q
  refine q.imp ?_
  rintro _ _ ⟨r, rfl, V1, rfl, f, er⟩
  exact ⟨r, rfl, er, x.look (fun a i h1 h2 h3 => f a i (by omega) (by omega))⟩
theorem jx_thing {w : aW} {d : Nat} (hd : 60 ≤ d) {H : aH} {c : Nat} {S : aS} (x : IX w H c S) (ok : OkS S) (t k : Int) : WP w d 207 [aO (some c), aI t, aI k] H (RI (fun r H1 => r = thingF S t k ∧ IX w H1 c S ∧ KX H H1 c)) := by
  have q : WP w d 207 [aO (some c), aI t, aI k] H (RI (fun r h1 => h1 = H ∧ r = thingF S t k)) := by
    by_cases ht : 0 ≤ t ∧ t < sT S
    · exact x_thing1 (by omega) x.ci x.xt ok.1.2 t k ht
    · exact x_thing0 (by omega) x.ci x.xt ok.1.2 t k ht
  refine q.imp ?_
  rintro _ _ ⟨r, rfl, rfl, er⟩
  exact ⟨r, rfl, er, x, KX.refl _ _⟩
theorem jm_thing {w : aW} {d : Nat} (hd : 60 ≤ d) {H : aH} {o : Nat} {S : aS} (x : IM H o S) (ok : OkS S) (t k : Int) : WP w d 319 [aO (some o), aI t, aI k] H (RI (fun r H1 => r = thingF S t k ∧ IM H1 o S ∧ KO H H1 o)) := by
  have q : WP w d 319 [aO (some o), aI t, aI k] (hw H (hV H)) (RI (fun r h1 => h1 = hw H (vset (hV H) o 31 0) ∧ r = thingF S t k)) := by
    by_cases ht : 0 ≤ t ∧ t < sT S
    · exact m_thing1 (by omega) x.1 (hV H) ok.1.2 x.2.2.1 t k ht
    · exact m_thing0 (by omega) x.1 (hV H) ok.1.2 x.2.2.1 t k ht
  rw [hw_self] at q
  refine q.imp ?_
  rintro _ _ ⟨r, rfl, rfl, er⟩
  exact ⟨r, rfl, er, x.mark 0⟩
theorem mulO_pos {x : Int × Int} (hx : 0 < x.2) {p0 : Int × Int} (h0 : 0 < p0.2) : ∀ k p, mulO x k (some p0) = some p → 0 < p.2
  | 0, p, h => by
    cases (show some p0 = some p from h)
    exact h0
  | k + 1, p, h => by
    have e : (mulO x k (some p0)).bind (fun q => stO (q.1 * x.1) (q.2 * x.2)) = some p := h
    obtain ⟨q, e1, e2⟩ := Option.bind_eq_some_iff.mp e
    have h1 := mulO_pos hx h0 k q e1
    have h2 := Int.mul_pos h1 hx
    exact (stO_some (by omega) e2).1.1
theorem mulO_pos2 {x : Int × Int} (hx : 0 < x.2) {u : Option (Int × Int)} (hu : ∀ q, u = some q → 0 < q.2) {k : Nat} {p : Int × Int} (h : mulO x k u = some p) : 0 < p.2 := by
  cases u with
  | none =>
    rw [mulO_u] at h
    cases h
  | some q => exact mulO_pos hx (hu q rfl) k p h
theorem valM_pos {x y z : Int × Int} (hx : 0 < x.2) (hy : 0 < y.2) (hz : 0 < z.2) {v : Int} {i j k : Nat} {p : Int × Int} (h : valM x y z v i j k = some p) : 0 < p.2 :=
  mulO_pos2 hz (fun _ hq => mulO_pos2 hy (fun _ hr => mulO_pos2 hx (fun s hs => by
    cases hs
    show (0 : Int) < 1
    decide) hr) hq) h
theorem valT_ok {x y z : Int × Int} (hx : 0 < x.2) (hy : 0 < y.2) (hz : 0 < z.2) {v : Int} {i j k : Nat} {u : Option (Int × Int)} (hu : ∀ q, u = some q → NuOk q) {p : Int × Int} (h : valT x y z v i j k u = some p) : NuOk p := by
  unfold valT at h
  by_cases e : v = 0
  · rw [if_pos e] at h
    exact hu p h
  · rw [if_neg e] at h
    obtain ⟨q, e1, h⟩ := Option.bind_eq_some_iff.mp h
    obtain ⟨r, e2, h⟩ := Option.bind_eq_some_iff.mp h
    have h3 := Int.mul_pos (hu q e1).1 (valM_pos hx hy hz e2)
    have h4 : stO (q.1 * r.2 + r.1 * q.2) (q.2 * r.2) = some p := h
    exact (stO_some (by omega) h4).1
theorem valX_ok {f : Nat → Int} {x y z : Int × Int} (hx : 0 < x.2) (hy : 0 < y.2) (hz : 0 < z.2) : ∀ n p, valX f x y z n = some p → NuOk p
  | 0, p, h => by
    cases (show some ((0 : Int), (1 : Int)) = some p from h)
    exact ⟨by decide, by decide, by decide, by decide, Int.gcd_one⟩
  | n + 1, p, h => valT_ok hx hy hz (fun q hq => valX_ok hx hy hz n q hq) (show valT x y z (f n) (pE n).1 (pE n).2.1 (pE n).2.2 (valX f x y z n) = some p from h)
theorem ok_value {S : aS} (ok : OkS S) (a x y z : Int) : OkS (valueF S a x y z).2 := by
  refine ok.num ?_ value_fr
  have okn := ok.1.1
  by_cases q : (0 ≤ a ∧ a < sPn S) ∧ (0 ≤ x ∧ x < sN S) ∧ (0 ≤ y ∧ y < sN S) ∧ 0 ≤ z ∧ z < sN S
  · have e : valueF S a x y z = valueP S a.toNat x.toNat y.toNat z.toNat := if_neg (fun h => h q)
    rw [e]
    cases hv : valX (sPc S a.toNat) (sNu S x.toNat) (sNu S y.toNat) (sNu S z.toNat) 286 with
    | none =>
      rw [valueP_0 hv]
      exact okn
    | some p =>
      rw [valueP_1 hv]
      exact keepN_ok okn (fun _ => valX_ok (okn.2 _ (by omega)).1 (okn.2 _ (by omega)).1 (okn.2 _ (by omega)).1 _ _ hv)
  · have e : valueF S a x y z = (-1, S) := if_pos q
    rw [e]
    exact okn
