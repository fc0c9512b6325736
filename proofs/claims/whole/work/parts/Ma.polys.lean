/-! polynomials of both sides in the one picture -/
theorem keepPo_fr (S : aS) (row : Nat → Int) : (keepPo S row).2.1 = S.1 ∧ (keepPo S row).2.2.1 = S.2.1 ∧ (keepPo S row).2.2.2.1 = S.2.2.1 := by
  unfold keepPo
  split <;> exact ⟨rfl, rfl, rfl⟩
theorem cmb_fr (S : aS) (op a b : Int) : (cmbF S op a b).2.1 = S.1 ∧ (cmbF S op a b).2.2.1 = S.2.1 ∧ (cmbF S op a b).2.2.2.1 = S.2.2.1 := by
  unfold cmbF
  split
  · exact ⟨rfl, rfl, rfl⟩
  · split
    · exact ⟨rfl, rfl, rfl⟩
    · exact keepPo_fr _ _
theorem term_fr (S : aS) (v u : Int) : (termF S v u).2.1 = S.1 ∧ (termF S v u).2.2.1 = S.2.1 ∧ (termF S v u).2.2.2.1 = S.2.2.1 := by
  unfold termF
  split
  · exact ⟨rfl, rfl, rfl⟩
  · split
    · exact ⟨rfl, rfl, rfl⟩
    · exact keepPo_fr _ _
theorem keepPo_ok {S : aS} (ok : OkP S) {row : Nat → Int} (s : smX row) : OkP (keepPo S row).2 := by
  unfold keepPo
  by_cases z : sPn S < 60
  · rw [if_pos z]
    refine ⟨show sPn S + 1 ≤ 60 by omega, fun a ha => ?_⟩
    have ha : a < sPn S + 1 := ha
    show smX (if a = sPn S then row else sPc S a)
    by_cases y : a = sPn S
    · rw [if_pos y]
      exact s
    · rw [if_neg y]
      exact ok.2 a (by omega)
  · rw [if_neg z]
    exact ok
theorem putI_sm {f g : Nat → Int} {m : Nat} : ∀ n, (putI f g m n).1 = true → smX (putI f g m n).2.1
  | 0, _ => sm_none
  | n + 1, h => by
    have ih := putI_sm (f := f) (g := g) (m := m) n
    have e : putI f g m (n + 1) = putS f g m n (putI f g m n) := rfl
    rw [e] at h ⊢
    by_cases z : (putI f g m n).1 = true
    · have e2 : putS f g m n (putI f g m n) = (bt (putG f g m n (putI f g m n).2.1 (putI f g m n).2.2), (fun t => (putI f g m n).2.1 t + mulX (prt f n) (putI f g m n).2.2 t), if n < m then mulX (putI f g m n).2.2 g else (putI f g m n).2.2) := if_pos z
      rw [e2] at h ⊢
      exact (bt_iff.mp h).2.1
    · have e2 : putS f g m n (putI f g m n) = putI f g m n := if_neg z
      rw [e2] at h ⊢
      exact ih h
theorem cmbX_sm {S : aS} {op : Int} {a b : Nat} {row : Nat → Int} (h : cmbX S op a b = some row) : smX row := by
  unfold cmbX at h
  by_cases o0 : op = 0
  · rw [if_pos o0] at h
    by_cases q : bt (smX (fun t => sPc S a t + sPc S b t)) = true
    · rw [if_pos q] at h
      cases h
      exact bt_iff.mp q
    · rw [if_neg q] at h
      cases h
  rw [if_neg o0] at h
  by_cases o1 : op = 1
  · rw [if_pos o1] at h
    by_cases q : bt (smX (fun t => sPc S a t - sPc S b t)) = true
    · rw [if_pos q] at h
      cases h
      exact bt_iff.mp q
    · rw [if_neg q] at h
      cases h
  rw [if_neg o1] at h
  by_cases o2 : op = 2
  · rw [if_pos o2] at h
    by_cases q : bt (okX (sPc S a) (sPc S b) ∧ smX (mulX (sPc S a) (sPc S b))) = true
    · rw [if_pos q] at h
      cases h
      exact (bt_iff.mp q).2
    · rw [if_neg q] at h
      cases h
  rw [if_neg o2] at h
  by_cases o3 : op = 3
  · rw [if_pos o3] at h
    by_cases q : (putX (sPc S a) (sPc S b)).1 = true
    · rw [if_pos q] at h
      cases h
      exact putI_sm _ q
    · rw [if_neg q] at h
      cases h
  rw [if_neg o3] at h
  by_cases q : bt (smX (der (sPc S a))) = true
  · rw [if_pos q] at h
    cases h
    exact bt_iff.mp q
  · rw [if_neg q] at h
    cases h
theorem cmb_ok {S : aS} (ok : OkP S) (op a b : Int) : OkP (cmbF S op a b).2 := by
  unfold cmbF
  split
  · exact ok
  · split
    · exact ok
    · rename_i row e
      exact keepPo_ok ok (cmbX_sm e)
theorem sP_sm {v u : Int} (h : ¬(v < -67108864 ∨ 67108864 < v)) : smX (sP v u) := fun t _ => by
  unfold sP
  split <;> omega
theorem term_ok {S : aS} (ok : OkP S) (v u : Int) : OkP (termF S v u).2 := by
  unfold termF
  by_cases y : u < -1 ∨ 2 < u
  · rw [if_pos y]
    exact ok
  · rw [if_neg y]
    by_cases z : v < -67108864 ∨ 67108864 < v
    · rw [if_pos z]
      exact ok
    · rw [if_neg z]
      exact keepPo_ok ok (sP_sm z)
theorem OkS.pol {S S2 : aS} (ok : OkS S) (p : OkP S2) (e : S2.1 = S.1 ∧ S2.2.1 = S.2.1 ∧ S2.2.2.1 = S.2.2.1) : OkS S2 := ⟨⟨ok.1.1.st e.1, ok.1.2.st e.2.1⟩, ⟨ok.2.1.1.st e.2.1, ok.2.1.2.st e.2.2⟩, p⟩
theorem ok_comb {S : aS} (ok : OkS S) (op a b : Int) : OkS (cmbF S op a b).2 := ok.pol (cmb_ok ok.2.2 op a b) (cmb_fr S op a b)
theorem ok_term {S : aS} (ok : OkS S) (v u : Int) : OkS (termF S v u).2 := ok.pol (term_ok ok.2.2 v u) (term_fr S v u)
/-- polynomials of the reference -/
theorem IM.pol {H : aH} {o : Nat} {S S2 : aS} (x : IM H o S) {V1 : Nat → Nat → Int} (f : FPp (hV H) V1 o) (mp : MP V1 o S2) (e : S2.1 = S.1 ∧ S2.2.1 = S.2.1 ∧ S2.2.2.1 = S.2.2.1) : IM (hw H V1) o S2 ∧ KO H (hw H V1) o := by
  obtain ⟨ms, mn, mt, mg, -⟩ := x
  have fo := f.2.1
  have fa := f.1
  refine ⟨⟨ms, ?_, ?_, ?_, mp⟩, V1, rfl, fun a ha => fa a (by omega) (by omega)⟩
  · exact MN.st e.1 (mn.frJ (fo 2 (by omega) (by omega)) (fa _ (by omega) (by omega)) (fa _ (by omega) (by omega)))
  · exact MT.st e.2.1 (mt.fr (fo 7 (by omega) (by omega)) (fa _ (by omega) (by omega)) (fa _ (by omega) (by omega)))
  · exact MG.st e.2.2 (mg.fr (fo 10 (by omega) (by omega)) (fun a h1 h2 => fa a (by omega) (by omega)))
theorem jm_comb {w : aW} {d : Nat} (hd : 60 ≤ d) {H : aH} {o : Nat} {S : aS} (x : IM H o S) (ok : OkS S) (op a b : Int) : WP w d 359 [aO (some o), aI op, aI a, aI b] H (RI (fun r H1 => r = (cmbF S op a b).1 ∧ IM H1 o (cmbF S op a b).2 ∧ KO H H1 o)) := by
  have q := m_combine (w := w) (d := d) (by omega) x.1 (hV H) x.2.2.2.2 ok.2.2 op a b
  rw [hw_self] at q
  refine q.imp ?_
  rintro _ _ ⟨r, rfl, V1, rfl, f, er, mp⟩
  exact ⟨r, rfl, er, x.pol f mp (cmb_fr S op a b)⟩
theorem jm_coef {w : aW} {d : Nat} (hd : 60 ≤ d) {H : aH} {o : Nat} {S : aS} (x : IM H o S) (ok : OkS S) (a i j k : Int) : WP w d 361 [aO (some o), aI a, aI i, aI j, aI k] H (RJ (fun r H1 => r = (if (0 ≤ a ∧ a < sPn S) ∧ 0 ≤ i ∧ 0 ≤ j ∧ 0 ≤ k ∧ i + j + k ≤ 10 then sPc S a.toNat (pI i.toNat j.toNat k.toNat) else 0) ∧ IM H1 o S ∧ KO H H1 o)) := by
  have q := m_coef (w := w) (d := d) (by omega) x.1 (hV H) x.2.2.2.2 ok.2.2 a i j k
  rw [hw_self] at q
  refine q.imp ?_
  rintro _ _ ⟨r, rfl, rfl, er⟩
  exact ⟨r, rfl, er, x.mark 0⟩
theorem jx_coef {w : aW} {d : Nat} (hd : 60 ≤ d) {H : aH} {c : Nat} {S : aS} (x : IX w H c S) (ok : OkS S) (a i j k : Int) : WP w d 217 [aO (some c), aI a, aI i, aI j, aI k] H (RJ (fun r H1 => r = (if (0 ≤ a ∧ a < sPn S) ∧ 0 ≤ i ∧ 0 ≤ j ∧ 0 ≤ k ∧ i + j + k ≤ 10 then sPc S a.toNat (pI i.toNat j.toNat k.toNat) else 0) ∧ IX w H1 c S ∧ KX H H1 c)) := by
  obtain ⟨ρ, xp⟩ := x.2.2.1
  have q := f_coef (w := w) (d := d) (by omega) x.cs (hV H) x.xe xp ok.2.2 a i j k
  rw [hw_self] at q
  refine q.imp ?_
  rintro _ _ ⟨r, rfl, rfl, er⟩
  exact ⟨r, rfl, er, x, KX.refl _ _⟩
theorem jm_same {w : aW} {d : Nat} (hd : 60 ≤ d) {H : aH} {o : Nat} {S : aS} (x : IM H o S) (ok : OkS S) (a b : Int) : WP w d 362 [aO (some o), aI a, aI b] H (RI (fun r H1 => r = sameF S a b ∧ IM H1 o S ∧ KO H H1 o)) := by
  have q := m_same (w := w) (d := d) (by omega) x.1 (hV H) x.2.2.2.2 ok.2.2 a b
  rw [hw_self] at q
  refine q.imp ?_
  rintro _ _ ⟨r, rfl, rfl, er⟩
  exact ⟨r, rfl, er, x.mark 0⟩
theorem jx_same {w : aW} {d : Nat} (hd : 60 ≤ d) {H : aH} {c : Nat} {S : aS} (x : IX w H c S) (ok : OkS S) (a b : Int) : WP w d 218 [aO (some c), aI a, aI b] H (RI (fun r H1 => r = sameF S a b ∧ IX w H1 c S ∧ KX H H1 c)) := by
  obtain ⟨ρ, xp⟩ := x.2.2.1
  have q := f_same (w := w) (d := d) (by omega) x.cs (hV H) x.xe xp ok.2.2 a b
  rw [hw_self] at q
  refine q.imp ?_
  rintro _ _ ⟨r, rfl, rfl, er⟩
  exact ⟨r, rfl, er, x, KX.refl _ _⟩
theorem one_big {v : Int} {m n : Nat} (hn : n < 286) (hm : pC n = m) : BigR (fun x => if x = m then v else 0) (fun t => if t = n then v else 0) := by
  intro x hx
  show (if x = m then v else 0) = if pG x then (if pK x = n then v else 0) else 0
  by_cases g : pG x
  · rw [if_pos g]
    by_cases y : x = m
    · rw [if_pos y, if_pos]
      rw [y, ← hm]
      exact (pK_C hn).2.1
    · rw [if_neg y, if_neg]
      intro z
      have := pC_K g
      rw [z, hm] at this
      exact y this.symm
  · rw [if_neg g, if_neg]
    intro y
    exact g (by rw [y, ← hm]; exact (pK_C hn).1)
theorem term_big {v u : Int} (hu : ¬(u < -1 ∨ 2 < u)) : BigR (mP v u) (sP v u) := by
  have hc : uI u < 286 ∧ pC (uI u) = mI u := by
    rcases (show u = -1 ∨ u = 0 ∨ u = 1 ∨ u = 2 by omega) with y | y | y | y <;> subst y <;> decide +kernel
  exact one_big hc.1 hc.2
theorem jm_term {w : aW} {d : Nat} (hd : 60 ≤ d) {H : aH} {o : Nat} {S : aS} (x : IM H o S) (ok : OkS S) (v u : Int) : WP w d 356 [aO (some o), aJ v, aI u] H (RI (fun r H1 => r = (termF S v u).1 ∧ IM H1 o (termF S v u).2 ∧ KO H H1 o)) := by
  have q := m_term (w := w) (d := d) (by omega) x.1 (hV H) (sPn S) x.2.2.2.2.1 ok.2.2.1 v u
  rw [hw_self] at q
  refine q.imp ?_
  rintro _ H1 ⟨r, rfl, q⟩
  refine ⟨r, rfl, ?_⟩
  by_cases y : u < -1 ∨ 2 < u
  · rw [if_pos y] at q
    have e : termF S v u = (-2, S) := if_pos y
    obtain ⟨rfl, rfl⟩ := q
    rw [e]
    exact ⟨rfl, x.mark 0⟩
  · rw [if_neg y] at q
    by_cases z : v < -67108864 ∨ 67108864 < v
    · rw [if_pos z] at q
      have e : termF S v u = (-4, S) := by
        unfold termF
        rw [if_neg y, if_pos z]
      obtain ⟨rfl, rfl⟩ := q
      rw [e]
      exact ⟨rfl, x.mark 0⟩
    · rw [if_neg z] at q
      have e : termF S v u = keepPo S (sP v u) := by
        unfold termF
        rw [if_neg y, if_neg z]
      obtain ⟨V1, f1, g1, k⟩ := q
      have mp1 : MP V1 o S := (x.2.2.2.2.own 0).fr (by rw [f1 o (by omega)]) (f1 _ (by omega))
      have b1 : BigR (V1 (o + 13)) (sP v u) := fun t ht => by rw [g1 t ht]; exact term_big y t ht
      obtain ⟨V4, e4, h4, h5, er, hm⟩ := MP_keep mp1 ok.2.2.1 b1 k
      rw [e, e4]
      exact ⟨er, x.pol (FPp_of (fun q hq => f1 q (by omega)) h4 h5) hm (keepPo_fr S _)⟩
