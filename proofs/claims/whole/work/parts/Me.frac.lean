/-! fraction on both sides, its throw too (by hand) -/
theorem WP.frac {w : aW} {d : Nat} {as : List aV} {h : aH} {Q : Option aV → aH → Prop} (hg : Wk w d cd_L_fraction 0 (largs 0 as) [] h Q) : WP w (d + 1) 389 as h Q := by
  obtain ⟨r, h1, n, a, b⟩ := hg
  exact ⟨r, h1, Or.inl (Or.inr (Or.inr ⟨rfl, Or.inr ⟨n, a⟩⟩)), b⟩
theorem WP.frac0 {w : aW} {d x out : Nat} {up : Int} {h : aH} {Q : Option aV → aH → Prop} (hx : (hT h x).1 = 21) (q : Q (some (aI 1)) (hnew h 7 6)) : WP w (d + 1) 389 [aO (some x), aJ up, aJ 0, aO (some out)] h Q :=
  ⟨_, _, Or.inl (Or.inr (Or.inr ⟨rfl, Or.inl ⟨x, up, out, rfl, hx, rfl, rfl⟩⟩)), q⟩
/-- an object of no use to either side was made -/
theorem IX.thr {w : aW} {H : aH} {c : Nat} {S : aS} (x : IX w H c S) : IX w (hnew H 7 6) c S ∧ KX H (hnew H 7 6) c := by
  have hz67 := x.cz
  obtain ⟨ci, ⟨xn, xt, xg, xe, kn⟩, ⟨ρ, xp⟩, cw, tx⟩ := x
  have eT : ∀ a < hz H, hT (hnew H 7 6) a = hT H a := fun a ha => by rw [hT_new, if_neg (by omega)]
  have eR : ∀ a < hz H, hR (hnew H 7 6) a = hR H a := fun a ha => by
    funext j
    rw [hR_new, if_neg (by omega)]
  have eV : ∀ a < hz H, hV (hnew H 7 6) a = hV H a := fun a ha => by
    funext j
    rw [hV_new, if_neg (by omega)]
  have ez : hz (hnew H 7 6) = hz H + 1 := rfl
  have es : hs (hnew H 7 6) = hs H + 6 := rfl
  have hr27 : hR (hnew H 7 6) (c + 27) = hR H (c + 27) := eR _ (by omega)
  refine ⟨⟨ci.gen (ci.1.new 7 6 (by omega)) (by omega) eT (fun a h1 _ _ => eR a h1) (by rw [eV _ (by omega)]), ⟨?_, ?_, ?_, ?_, ?_⟩, ⟨ρ, ?_⟩, cw.fr hr27 (by omega) eT, fun i hi => ⟨by have := (tx i hi).1; omega, by rw [eT _ (tx i hi).1]; exact (tx i hi).2⟩⟩, ⟨by omega, by omega⟩, ?_, eT, fun a h1 h2 => ⟨eR a h1, eV a h1⟩⟩
  · exact xn.frJ (by rw [eV _ (by omega)]) (eV _ (by omega)) (eV _ (by omega))
  · exact xt.fr (eV _ (by omega)) (eV _ (by omega)) (eV _ (by omega))
  · exact xg.fr (fun a h1 h2 => eV a (by omega))
  · exact xe.fr (fun a h1 h2 => eV a (by omega))
  · exact kn.fr (eV _ (by omega))
  · exact xp.fr2 (eR _ (by omega)) (by omega) eT (by rw [eV _ (by omega)]) (fun a h1 h2 h3 => eV a h2)
  · unfold tmC
    rw [hr27]
    omega
/-- the law's own row of one place -/
theorem out_ne {V : Nat → Nat → Int} {p : Nat} {v : Int} (a : Nat) (h : a ≠ p) : vset V p 0 v a = V a := by
  funext i
  exact vset_ne _ _ _ _ (by omega)
theorem IX.out {w : aW} {H : aH} {c : Nat} {S : aS} (x : IX w H c S) (v : Int) : IX w (hw H (vset (hV H) (c + 66) 0 v)) c S :=
  x.own (by rw [out_ne _ (by omega)]) (x.xn.frJ (by rw [out_ne _ (by omega)]) (out_ne _ (by omega)) (out_ne _ (by omega))) (x.xt.fr (H1 := hw H (vset (hV H) (c + 66) 0 v)) (out_ne _ (by omega)) (out_ne _ (by omega)) (out_ne _ (by omega))) (x.xg.fr (fun a h1 h2 => out_ne _ (by omega))) (fun a h1 h2 => out_ne _ (by omega)) (x.kn.fr (out_ne _ (by omega))) rfl (by rw [out_ne _ (by omega)]) (fun a h1 _ => out_ne _ (by omega))
theorem IM.out {H : aH} {c : Nat} {S : aS} (x : IM H (c + 34) S) (v : Int) : IM (hw H (vset (hV H) (c + 66) 0 v)) (c + 34) S := by
  obtain ⟨ms, mn, mt, mg, mp⟩ := x
  exact ⟨ms, mn.frJ (vset_ne _ _ _ _ (by omega)) (out_ne _ (by omega)) (out_ne _ (by omega)), mt.fr (vset_ne _ _ _ _ (by omega)) (out_ne _ (by omega)) (out_ne _ (by omega)), mg.fr (vset_ne _ _ _ _ (by omega)) (fun a h1 h2 => out_ne _ (by omega)), mp.fr (vset_ne _ _ _ _ (by omega)) (out_ne _ (by omega))⟩
theorem x_frac1 {w : aW} {d : Nat} (hd : 61 ≤ d) {H : aH} {c : Nat} {S : aS} (x : IX w H c S) (ok : OkS S) (n m : Int) (h0 : m ≠ 0) (hn : -9223372036854775808 ≤ n ∧ n < 9223372036854775808) (hm : -9223372036854775808 ≤ m ∧ m < 9223372036854775808) (ho : hT H (c + 66) = (2, 1)) : WP w d 389 [aO (some c), aJ n, aJ m, aO (some (c + 66))] H (RI (fun r H2 => r = 0 ∧ ∃ H1, (IX w H1 c (spF S n m).2 ∧ KX H H1 c) ∧ H2 = hw H1 (vset (hV H1) (c + 66) 0 (spF S n m).1))) := by
  obtain ⟨d, rfl⟩ : ∃ d1, d = d1 + 1 := ⟨d - 1, by omega⟩
  have hz67 := x.cz
  refine WP.frac ?_
  have hls : largs 0 [aO (some c), aJ n, aJ m, aO (some (c + 66))] = [(0, aO (some c)), (1, aJ n), (3, aJ m), (5, aO (some (c + 66)))] := rfl
  rw [hls]
  clear hls
  refine g_aload rfl rfl ?_
  refine g_iconst rfl ?_
  refine g_aload_n rfl rfl ?_
  refine g_lload_n rfl rfl ?_
  refine g_lload_n rfl rfl ?_
  refine g_callVI [aJ n, aJ m] [aI 0, aO (some (c + 66))] rfl rfl rfl rfl (Nat.le_of_ble_eq_true rfl) (x.cs.kd 0 (by omega) rfl) (jx_frac (by omega) x ok n m h0 hn hm) ?_
  rintro r1 H1 ⟨rfl, x1, k1⟩
  refine g_i2l rfl ?_
  refine g_last (i := 0) (m := 1) rfl (by rw [k1.2.2.1 _ (by omega)]; exact ho) rfl (by omega) ?_
  refine g_goto rfl ?_
  refine g_iconst rfl ?_
  exact g_iret rfl ⟨rfl, H1, ⟨x1, k1⟩, rfl⟩
theorem x_frac0 {w : aW} {d : Nat} (hd : 1 ≤ d) {H : aH} {c : Nat} {S : aS} (x : IX w H c S) (n : Int) : WP w d 389 [aO (some c), aJ n, aJ 0, aO (some (c + 66))] H (RI (fun r H2 => r = 1 ∧ IX w H2 c S ∧ KX H H2 c)) := by
  obtain ⟨d, rfl⟩ : ∃ d1, d = d1 + 1 := ⟨d - 1, by omega⟩
  exact WP.frac0 (x.cs.kd 0 (by omega) rfl) ⟨1, rfl, rfl, x.thr⟩
theorem m_frac1 {w : aW} {d : Nat} (hd : 60 ≤ d) {H : aH} {o : Nat} {S : aS} (x : IM H o S) (ok : OkS S) (n m : Int) (h0 : m ≠ 0) (hn : -9223372036854775808 ≤ n ∧ n < 9223372036854775808) (hm : -9223372036854775808 ≤ m ∧ m < 9223372036854775808) : WP w d 272 [aO (some o), aJ n, aJ m] H (RI (fun r H1 => r = (spF S n m).1 ∧ (IM H1 o (spF S n m).2 ∧ KO H H1 o) ∧ hV H1 o 31 = 0)) := by
  have q := m_fractionS (w := w) (d := d) (by omega) x.1 (hV H) x.2.1 ok.1.1 n m h0 hn hm
  rw [hw_self] at q
  refine q.imp ?_
  rintro _ _ ⟨r, rfl, V1, rfl, x1, f, e31, rfl⟩
  exact ⟨_, rfl, rfl, x.num f x1 spF_fr, e31⟩
theorem m_frac0 {w : aW} {d : Nat} (hd : 60 ≤ d) {H : aH} {o : Nat} {S : aS} (x : IM H o S) (ok : OkS S) (n : Int) (hn : -9223372036854775808 ≤ n ∧ n < 9223372036854775808) : WP w d 272 [aO (some o), aJ n, aJ 0] H (RI (fun _ H1 => (IM H1 o S ∧ KO H H1 o) ∧ hV H1 o 31 = 1)) := by
  have q := m_fraction (w := w) (d := d) (by omega) x.1 (hV H) (sN S) x.2.1.1 ok.1.1.1 n 0 hn (by omega)
  rw [hw_self] at q
  refine q.imp ?_
  rintro _ _ ⟨r, rfl, q⟩
  rw [if_pos rfl] at q
  obtain ⟨rfl, -⟩ := q
  exact ⟨r, rfl, x.mark 1, vset_eq _ _ _ _⟩
theorem m_thr {w : aW} {d : Nat} (hd : 1 ≤ d) {H : aH} {o : Nat} (ms : MS H o) : WP w d 238 [aO (some o)] H (RI (fun r H1 => H1 = H ∧ r = hV H o 31)) := by
  obtain ⟨d, rfl⟩ : ∃ d1, d = d1 + 1 := ⟨d - 1, by omega⟩
  refine WP.enter (cd := cd_X12_thrown) rfl ?_
  have hls : largs 0 [aO (some o)] = [(0, aO (some o))] := rfl
  rw [hls]
  clear hls
  refine g_aload_n rfl rfl ?_
  refine g_getI rfl ms.1 ?_
  exact g_iret rfl ⟨rfl, rfl⟩
