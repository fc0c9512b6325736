/-! one picture of both sides: frames, numbers: written by hand (Ja) -/
theorem XN.frJ {V V1 : Nat → Nat → Int} {c : Nat} {S : aS} (x : XN V c S) (h3 : V1 (c + 3) 2 = V (c + 3) 2) (h4 : V1 (c + 4) = V (c + 4)) (h5 : V1 (c + 5) = V (c + 5)) : XN V1 c S := by
  unfold XN
  rw [h3, h4, h5]
  exact x
theorem XT.fr {H H1 : aH} {c : Nat} {S : aS} (x : XT H c S) (h7 : hV H1 (c + 7) = hV H (c + 7)) (h8 : hV H1 (c + 8) = hV H (c + 8)) (h9 : hV H1 (c + 9) = hV H (c + 9)) : XT H1 c S := by
  unfold XT
  rw [h7, h8, h9]
  exact x
theorem MN.frJ {V V1 : Nat → Nat → Int} {o : Nat} {S : aS} (x : MN V o S) (h0 : V1 o 2 = V o 2) (h2 : V1 (o + 2) = V (o + 2)) (h3 : V1 (o + 3) = V (o + 3)) : MN V1 o S := by
  unfold MN
  rw [h0, h2, h3]
  exact x
theorem MT.fr {V V1 : Nat → Nat → Int} {o : Nat} {S : aS} (x : MT V o S) (h0 : V1 o 7 = V o 7) (h4 : V1 (o + 4) = V (o + 4)) (h5 : V1 (o + 5) = V (o + 5)) : MT V1 o S := by
  unfold MT
  rw [h0, h4, h5]
  exact x
theorem KnF.fr {V V1 : Nat → Nat → Int} {c : Nat} (x : KnF V c) (h : V1 (c + 33) = V (c + 33)) : KnF V1 c := by
  unfold KnF
  rw [h]
  exact x
theorem CW.fr {H H1 : aH} {c : Nat} (x : CW H c) (hr : hR H1 (c + 27) = hR H (c + 27)) (hz1 : hz H ≤ hz H1) (ht : ∀ a < hz H, hT H1 a = hT H a) : CW H1 c := by
  unfold CW
  rw [hr]
  rcases x with x | ⟨wa, nb, h0, h1, t0, t1, h2, h3, h4, h5, h6⟩
  · exact Or.inl x
  · exact Or.inr ⟨wa, nb, h0, h1, by rw [ht _ h5]; exact t0, by rw [ht _ h6]; exact t1, h2, h3, h4, by omega, by omega⟩
theorem XP.fr2 {H H1 : aH} {V V1 : Nat → Nat → Int} {c : Nat} {S : aS} {ρ : Nat → Nat} (x : XP H V c S ρ) (hr : hR H1 (c + 22) = hR H (c + 22)) (hz1 : hz H ≤ hz H1) (ht : ∀ a < hz H, hT H1 a = hT H a) (h17 : V1 (c + 17) 9 = V (c + 17) 9) (hv : ∀ a, c + 67 ≤ a → a < hz H → hT H a = (2, 286) → V1 a = V a) : XP H1 V1 c S ρ := by
  refine ⟨by rw [h17]; exact x.1, fun a ha => ?_⟩
  obtain ⟨q1, q2, q3, q4, q5⟩ := x.2 a ha
  exact ⟨by rw [hr]; exact q1, by rw [ht _ q4]; exact q2, q3, by omega, fun t ht2 => by rw [hv _ q3 q4 q2]; exact q5 t ht2⟩
/-- the state is another's but for one of its kinds -/
theorem XN.st {V : Nat → Nat → Int} {c : Nat} {S S2 : aS} (e : S2.1 = S.1) (x : XN V c S) : XN V c S2 := by
  unfold XN sN sNu at *
  rw [e]
  exact x
theorem XT.st {H : aH} {c : Nat} {S S2 : aS} (e : S2.2.1 = S.2.1) (x : XT H c S) : XT H c S2 := by
  unfold XT sT sTs sTp at *
  rw [e]
  exact x
theorem XG.st {V : Nat → Nat → Int} {c : Nat} {S S2 : aS} (e : S2.2.2.1 = S.2.2.1) (x : XG V c S) : XG V c S2 := by
  unfold XG gx gy sG sGn sGc at *
  rw [e]
  exact x
theorem XP.st {H : aH} {V : Nat → Nat → Int} {c : Nat} {S S2 : aS} {ρ : Nat → Nat} (e : S2.2.2.2 = S.2.2.2) (x : XP H V c S ρ) : XP H V c S2 ρ := by
  unfold XP sPn sPc at *
  rw [e]
  exact x
theorem MN.st {V : Nat → Nat → Int} {o : Nat} {S S2 : aS} (e : S2.1 = S.1) (x : MN V o S) : MN V o S2 := by
  unfold MN sN sNu at *
  rw [e]
  exact x
theorem MT.st {V : Nat → Nat → Int} {o : Nat} {S S2 : aS} (e : S2.2.1 = S.2.1) (x : MT V o S) : MT V o S2 := by
  unfold MT sT sTs sTp at *
  rw [e]
  exact x
theorem MG.st {V : Nat → Nat → Int} {o : Nat} {S S2 : aS} (e : S2.2.2.1 = S.2.2.1) (x : MG V o S) : MG V o S2 := by
  unfold MG gx gy sG sGn sGc at *
  rw [e]
  exact x
theorem MP.st {V : Nat → Nat → Int} {o : Nat} {S S2 : aS} (e : S2.2.2.2 = S.2.2.2) (x : MP V o S) : MP V o S2 := by
  unfold MP sPn sPc at *
  rw [e]
  exact x
theorem OkN.st {S S2 : aS} (e : S2.1 = S.1) (x : OkN S) : OkN S2 := by
  unfold OkN sN sNu at *
  rw [e]
  exact x
theorem OkT.st {S S2 : aS} (e : S2.2.1 = S.2.1) (x : OkT S) : OkT S2 := by
  unfold OkT sT sTs sTp at *
  rw [e]
  exact x
theorem OkL.st {S S2 : aS} (e : S2.2.1 = S.2.1) (x : OkL S) : OkL S2 := by
  unfold OkL tpR sT sTs sTp at *
  rw [e]
  exact x
theorem OkG.st {S S2 : aS} (e : S2.2.2.1 = S.2.2.1) (x : OkG S) : OkG S2 := by
  unfold OkG gx gy sG sGn sGc at *
  rw [e]
  exact x
theorem OkP.st {S S2 : aS} (e : S2.2.2.2 = S.2.2.2) (x : OkP S) : OkP S2 := by
  unfold OkP sPn sPc at *
  rw [e]
  exact x
/-- the class's side -/
def IX (w : aW) (H : aH) (c : Nat) (S : aS) : Prop := CI H c ∧ (XN (hV H) c S ∧ XT H c S ∧ XG (hV H) c S ∧ XE (hV H) c ∧ KnF (hV H) c) ∧ (∃ ρ, XP H (hV H) c S ρ) ∧ CW H c ∧ ∀ i < 12, w i < hz H ∧ hT H (w i) = (8, i)
/-- the reference's side -/
def IM (H : aH) (o : Nat) (S : aS) : Prop := MS H o ∧ MN (hV H) o S ∧ MT (hV H) o S ∧ MG (hV H) o S ∧ MP (hV H) o S
def OkS (S : aS) : Prop := (OkN S ∧ OkT S) ∧ (OkL S ∧ OkG S) ∧ OkP S
/-- what a call of the class leaves of the rest -/
def KX (H H1 : aH) (c : Nat) : Prop := (hz H ≤ hz H1 ∧ hz H1 ≤ hz H + 1000) ∧ hs H1 + tmC H1 c ≤ hs H + 6500 + tmC H c ∧ (∀ a < hz H, hT H1 a = hT H a) ∧ ∀ a < hz H, (a < c ∨ (c + 34 ≤ a ∧ a < c + 67)) → hR H1 a = hR H a ∧ hV H1 a = hV H a
def KO (H H1 : aH) (o : Nat) : Prop := ∃ V1, H1 = hw H V1 ∧ ∀ a, (a < o ∨ o + 32 ≤ a) → V1 a = hV H a
theorem IX.ci {w : aW} {H : aH} {c : Nat} {S : aS} (x : IX w H c S) : CI H c := x.1
theorem IX.cs {w : aW} {H : aH} {c : Nat} {S : aS} (x : IX w H c S) : CS H c := x.1.1
theorem IX.xn {w : aW} {H : aH} {c : Nat} {S : aS} (x : IX w H c S) : XN (hV H) c S := x.2.1.1
theorem IX.xt {w : aW} {H : aH} {c : Nat} {S : aS} (x : IX w H c S) : XT H c S := x.2.1.2.1
theorem IX.xg {w : aW} {H : aH} {c : Nat} {S : aS} (x : IX w H c S) : XG (hV H) c S := x.2.1.2.2.1
theorem IX.xe {w : aW} {H : aH} {c : Nat} {S : aS} (x : IX w H c S) : XE (hV H) c := x.2.1.2.2.2.1
theorem IX.kn {w : aW} {H : aH} {c : Nat} {S : aS} (x : IX w H c S) : KnF (hV H) c := x.2.1.2.2.2.2
theorem IX.cw {w : aW} {H : aH} {c : Nat} {S : aS} (x : IX w H c S) : CW H c := x.2.2.2.1
theorem IX.tx {w : aW} {H : aH} {c : Nat} {S : aS} (x : IX w H c S) : ∀ i < 12, hT H (w i) = (8, i) := fun i hi => (x.2.2.2.2 i hi).2
theorem KX.refl (H : aH) (c : Nat) : KX H H c := ⟨by omega, by omega, fun _ _ => rfl, fun _ _ _ => ⟨rfl, rfl⟩⟩
theorem KO.refl (H : aH) (o : Nat) : KO H H o := ⟨hV H, rfl, fun _ _ => rfl⟩
/-- the class wrote numbers of its own alone -/
theorem KX.own {H : aH} {c : Nat} {V1 : Nat → Nat → Int} (h : ∀ a, (a < c ∨ (c + 34 ≤ a ∧ a < c + 67)) → V1 a = hV H a) : KX H (hw H V1) c := ⟨⟨Nat.le_refl _, Nat.le_add_right _ _⟩, by show hs H + tmC H c ≤ _; omega, fun _ _ => rfl, fun a _ ha => ⟨rfl, h a ha⟩⟩
/-- all but what is told stays: numbers alone were written -/
theorem IX.own {w : aW} {H : aH} {c : Nat} {S S2 : aS} (x : IX w H c S) {V1 : Nat → Nat → Int} (h1 : V1 (c + 1) 1 = hV H (c + 1) 1) (xn : XN V1 c S2) (xt : XT (hw H V1) c S2) (xg : XG V1 c S2) (he : ∀ a, c + 18 ≤ a → a ≤ c + 21 → V1 a = hV H a) (kn : KnF V1 c) (ep : S2.2.2.2 = S.2.2.2) (h17 : V1 (c + 17) 9 = hV H (c + 17) 9) (hp : ∀ a, c + 67 ≤ a → hT H a = (2, 286) → V1 a = hV H a) : IX w (hw H V1) c S2 := by
  obtain ⟨ci, ⟨-, -, -, xe, -⟩, ⟨ρ, xp⟩, cw, tx⟩ := x
  refine ⟨ci.put h1, ⟨xn, xt, xg, xe.fr he, kn⟩, ⟨ρ, XP.st ep (xp.fr2 rfl (Nat.le_refl _) (fun _ _ => rfl) h17 (fun a ha hb hc => hp a ha hc))⟩, cw, tx⟩
/-- numbers of the class -/
theorem IX.num {w : aW} {H : aH} {c : Nat} {S S2 : aS} (x : IX w H c S) {V1 : Nat → Nat → Int} (f : FN (hV H) V1 c) (xn : XN V1 c S2) (e : S2.2 = S.2) : IX w (hw H V1) c S2 ∧ KX H (hw H V1) c := by
  refine ⟨x.own (by rw [f _ (by omega) (by omega) (by omega)]) xn ?_ ?_ (fun a h1 h2 => f a (by omega) (by omega) (by omega)) (x.kn.fr (f _ (by omega) (by omega) (by omega))) (by rw [e]) (by rw [f _ (by omega) (by omega) (by omega)]) (fun a h1 _ => f a (by omega) (by omega) (by omega)), KX.own (fun a ha => f a (by omega) (by omega) (by omega))⟩
  · exact XT.st (by rw [e]) (x.xt.fr (H1 := hw H V1) (f _ (by omega) (by omega) (by omega)) (f _ (by omega) (by omega) (by omega)) (f _ (by omega) (by omega) (by omega)))
  · exact XG.st (by rw [e]) (x.xg.fr (fun a h1 h2 => f a (by omega) (by omega) (by omega)))
/-- things of the class, and numbers by measuring -/
theorem IX.geo {w : aW} {H H1 : aH} {c : Nat} {S S2 : aS} {T : Nat → Prop} (x : IX w H c S) (f : FX H H1 c T) (hT1 : ∀ a, T a → a = c + 3 ∨ a = c + 4 ∨ a = c + 5 ∨ a = c + 7 ∨ a = c + 8 ∨ a = c + 9) (xn : XN (hV H1) c S2) (xt : XT H1 c S2) (e : S2.2.2 = S.2.2) : IX w H1 c S2 ∧ KX H H1 c := by
  obtain ⟨ci, ⟨-, -, xg, xe, kn⟩, ⟨ρ, xp⟩, cw, tx⟩ := x
  obtain ⟨f1, f2, f3, f4, f5, f6⟩ := f
  have hz67 := ci.2.1
  have own : ∀ a, a < c + 67 → a ≠ c + 1 → ¬(a = c + 3 ∨ a = c + 4 ∨ a = c + 5 ∨ a = c + 7 ∨ a = c + 8 ∨ a = c + 9) → hV H1 a = hV H a := fun a h1 h2 h3 => f6 a (by omega) h2 (Or.inr h1) (fun q => h3 (hT1 a q))
  have hr27 : hR H1 (c + 27) = hR H (c + 27) := f5 _ (by omega) (by omega)
  refine ⟨⟨f1, ⟨xn, xt, ?_, ?_, ?_⟩, ⟨ρ, ?_⟩, ?_, ?_⟩, f2, ?_, f4, ?_⟩
  · exact XG.st (by rw [e]) (xg.fr (fun a h1 h2 => own a (by omega) (by omega) (by omega)))
  · exact xe.fr (fun a h1 h2 => own a (by omega) (by omega) (by omega))
  · exact kn.fr (own _ (by omega) (by omega) (by omega))
  · refine XP.st (by rw [e]) (xp.fr2 (f5 _ (by omega) (by omega)) f2.1 f4 (by rw [own _ (by omega) (by omega) (by omega)]) (fun a h1 h2 h3 => f6 a h2 (by omega) (Or.inl (by rw [h3]; decide)) (fun q => by have := hT1 a q; omega)))
  · exact cw.fr hr27 f2.1 f4
  · exact fun i hi => ⟨by have := (tx i hi).1; omega, by rw [f4 _ (tx i hi).1]; exact (tx i hi).2⟩
  · unfold tmC
    rw [hr27]
    omega
  · exact fun a h1 h2 => ⟨f5 a h1 (by omega), f6 a h1 (by omega) (Or.inr (by omega)) (fun q => by have := hT1 a q; omega)⟩
/-- the reference's side stays over a call of the class -/
theorem IM.kx {H H1 : aH} {c : Nat} {S : aS} (x : IM H (c + 34) S) (k : KX H H1 c) (hc : c + 67 ≤ hz H) : IM H1 (c + 34) S := by
  obtain ⟨ms, mn, mt, mg, mp⟩ := x
  obtain ⟨-, -, k3, k4⟩ := k
  have v : ∀ a, c + 34 ≤ a → a < c + 67 → hV H1 a = hV H a := fun a h1 h2 => (k4 a (by omega) (Or.inr ⟨h1, h2⟩)).2
  refine ⟨⟨by rw [k3 _ (by omega)]; exact ms.1, fun j k n f h => ?_⟩, ?_, ?_, ?_, ?_⟩
  · have hj : j < 31 := by
      rcases Nat.lt_or_ge j 31 with q | q
      · exact q
      · rw [List.getElem?_eq_none (by have : mrows.length = 31 := rfl; omega)] at h
        cases h
    rw [k3 _ (by omega), (k4 _ (by omega) (Or.inr ⟨by omega, by omega⟩)).1]
    exact ms.2 j k n f h
  · exact mn.frJ (by rw [v _ (by omega) (by omega)]) (v _ (by omega) (by omega)) (v _ (by omega) (by omega))
  · exact mt.fr (by rw [v _ (by omega) (by omega)]) (v _ (by omega) (by omega)) (v _ (by omega) (by omega))
  · exact mg.fr (by rw [v _ (by omega) (by omega)]) (fun a h1 h2 => v a (by omega) (by omega))
  · exact mp.fr (by rw [v _ (by omega) (by omega)]) (v _ (by omega) (by omega))
/-- the class's side stays over a call of the reference -/
theorem IX.ko {w : aW} {H H1 : aH} {c : Nat} {S : aS} (x : IX w H c S) (k : KO H H1 (c + 34)) : IX w H1 c S := by
  obtain ⟨V1, rfl, f⟩ := k
  exact x.own (by rw [f _ (by omega)]) (x.xn.frJ (by rw [f _ (by omega)]) (f _ (by omega)) (f _ (by omega))) (x.xt.fr (H1 := hw H V1) (f _ (by omega)) (f _ (by omega)) (f _ (by omega))) (x.xg.fr (fun a h1 h2 => f a (by omega))) (fun a h1 h2 => f a (by omega)) (x.kn.fr (f _ (by omega))) rfl (by rw [f _ (by omega)]) (fun a h1 _ => f a (by omega))
theorem IM.own {H : aH} {o : Nat} {S S2 : aS} (x : IM H o S) {V1 : Nat → Nat → Int} (mn : MN V1 o S2) (mt : MT V1 o S2) (mg : MG V1 o S2) (mp : MP V1 o S2) (f : ∀ a, (a < o ∨ o + 32 ≤ a) → V1 a = hV H a) : IM (hw H V1) o S2 ∧ KO H (hw H V1) o := ⟨⟨x.1, mn, mt, mg, mp⟩, V1, rfl, f⟩
/-- the reference reset its mark alone -/
theorem IM.look {H : aH} {o : Nat} {S : aS} (x : IM H o S) {V1 : Nat → Nat → Int} (f : ∀ a i, ¬(a = o ∧ (i = 1 ∨ i = 5 ∨ i = 6 ∨ i = 27 ∨ i = 31)) → a ≠ o + 1 → (a ≤ o + 8 ∨ a = o + 12 ∨ o + 32 ≤ a) → V1 a i = hV H a i) : IM (hw H V1) o S ∧ KO H (hw H V1) o := by
  obtain ⟨ms, mn, mt, mg, mp⟩ := x
  have fo : ∀ i, i ≠ 1 → i ≠ 5 → i ≠ 6 → i ≠ 27 → i ≠ 31 → V1 o i = hV H o i := fun i h1 h2 h3 h4 h5 => f o i (by omega) (by omega) (by omega)
  have fa : ∀ a, a ≠ o → a ≠ o + 1 → (a ≤ o + 8 ∨ a = o + 12 ∨ o + 32 ≤ a) → V1 a = hV H a := fun a h1 h2 h3 => by
    funext i
    exact f a i (by omega) h2 h3
  refine ⟨⟨ms, ?_, ?_, ?_, ?_⟩, V1, rfl, fun a ha => fa a (by omega) (by omega) (by omega)⟩
  · exact mn.frJ (fo 2 (by omega) (by omega) (by omega) (by omega) (by omega)) (fa _ (by omega) (by omega) (by omega)) (fa _ (by omega) (by omega) (by omega))
  · exact mt.fr (fo 7 (by omega) (by omega) (by omega) (by omega) (by omega)) (fa _ (by omega) (by omega) (by omega)) (fa _ (by omega) (by omega) (by omega))
  · exact mg.fr (fo 10 (by omega) (by omega) (by omega) (by omega) (by omega)) (fun a h1 h2 => fa a (by omega) (by omega) (by omega))
  · exact mp.fr (fo 17 (by omega) (by omega) (by omega) (by omega) (by omega)) (fa _ (by omega) (by omega) (by omega))
theorem IM.mark {H : aH} {o : Nat} {S : aS} (x : IM H o S) (v : Int) : IM (hw H (vset (hV H) o 31 v)) o S ∧ KO H (hw H (vset (hV H) o 31 v)) o := x.look (fun a i h1 _ _ => vset_ne _ _ _ _ (by omega))
/-- numbers of the reference -/
theorem IM.num {H : aH} {o : Nat} {S S2 : aS} (x : IM H o S) {V1 : Nat → Nat → Int} (f : FM (hV H) V1 o) (mn : MN V1 o S2) (e : S2.2 = S.2) : IM (hw H V1) o S2 ∧ KO H (hw H V1) o := by
  obtain ⟨ms, -, mt, mg, mp⟩ := x
  have fo : ∀ i, i ≠ 2 → i ≠ 5 → i ≠ 6 → i ≠ 31 → V1 o i = hV H o i := fun i h1 h2 h3 h4 => f o i (by omega) (by omega) (by omega)
  have fa : ∀ a, a ≠ o → a ≠ o + 2 → a ≠ o + 3 → V1 a = hV H a := fun a h1 h2 h3 => by
    funext i
    exact f a i (by omega) h2 h3
  refine ⟨⟨ms, mn, ?_, ?_, ?_⟩, V1, rfl, fun a ha => fa a (by omega) (by omega) (by omega)⟩
  · exact MT.st (by rw [e]) (mt.fr (fo 7 (by omega) (by omega) (by omega) (by omega)) (fa _ (by omega) (by omega) (by omega)) (fa _ (by omega) (by omega) (by omega)))
  · exact MG.st (by rw [e]) (mg.fr (fo 10 (by omega) (by omega) (by omega) (by omega)) (fun a h1 h2 => fa a (by omega) (by omega) (by omega)))
  · exact MP.st (by rw [e]) (mp.fr (fo 17 (by omega) (by omega) (by omega) (by omega)) (fa _ (by omega) (by omega) (by omega)))
/-- things of the reference -/
theorem IM.thg {H : aH} {o : Nat} {S S2 : aS} (x : IM H o S) {V1 : Nat → Nat → Int} (f : FR (hV H) V1 o) (mt : MT V1 o S2) (e1 : S2.1 = S.1) (e : S2.2.2 = S.2.2) : IM (hw H V1) o S2 ∧ KO H (hw H V1) o := by
  obtain ⟨ms, mn, -, mg, mp⟩ := x
  have fo : ∀ i, i ≠ 1 → i ≠ 7 → i ≠ 31 → V1 o i = hV H o i := fun i h1 h2 h3 => f o i (by omega) (by omega) (by omega) (by omega) (by omega)
  have fa : ∀ a, a ≠ o → a ≠ o + 1 → a ≠ o + 4 → a ≠ o + 5 → ¬(o + 24 ≤ a ∧ a ≤ o + 31) → V1 a = hV H a := fun a h1 h2 h3 h4 h5 => by
    funext i
    exact f a i (by omega) h2 h3 h4 h5
  refine ⟨⟨ms, ?_, mt, ?_, ?_⟩, V1, rfl, fun a ha => fa a (by omega) (by omega) (by omega) (by omega) (by omega)⟩
  · exact MN.st e1 (mn.frJ (fo 2 (by omega) (by omega) (by omega)) (fa _ (by omega) (by omega) (by omega) (by omega) (by omega)) (fa _ (by omega) (by omega) (by omega) (by omega) (by omega)))
  · exact MG.st (by rw [e]) (mg.fr (fo 10 (by omega) (by omega) (by omega)) (fun a h1 h2 => fa a (by omega) (by omega) (by omega) (by omega) (by omega)))
  · exact MP.st (by rw [e]) (mp.fr (fo 17 (by omega) (by omega) (by omega)) (fa _ (by omega) (by omega) (by omega) (by omega) (by omega)))
/-- numbers by measuring -/
theorem IM.mea {H : aH} {o : Nat} {S S2 : aS} (x : IM H o S) {V1 : Nat → Nat → Int} (f : FQ (hV H) V1 o) (mn : MN V1 o S2) (e : S2.2 = S.2) : IM (hw H V1) o S2 ∧ KO H (hw H V1) o := by
  obtain ⟨ms, -, mt, mg, mp⟩ := x
  have fo : ∀ i, i ≠ 1 → i ≠ 2 → i ≠ 5 → i ≠ 6 → i ≠ 31 → V1 o i = hV H o i := fun i h1 h2 h3 h4 h5 => f o i (by omega) (by omega) (by omega) (by omega) (by omega)
  have fa : ∀ a, a ≠ o → a ≠ o + 1 → a ≠ o + 2 → a ≠ o + 3 → ¬(o + 24 ≤ a ∧ a ≤ o + 31) → V1 a = hV H a := fun a h1 h2 h3 h4 h5 => by
    funext i
    exact f a i (by omega) h2 h3 h4 h5
  refine ⟨⟨ms, mn, ?_, ?_, ?_⟩, V1, rfl, fun a ha => fa a (by omega) (by omega) (by omega) (by omega) (by omega)⟩
  · exact MT.st (by rw [e]) (mt.fr (fo 7 (by omega) (by omega) (by omega) (by omega) (by omega)) (fa _ (by omega) (by omega) (by omega) (by omega) (by omega)) (fa _ (by omega) (by omega) (by omega) (by omega) (by omega)))
  · exact MG.st (by rw [e]) (mg.fr (fo 10 (by omega) (by omega) (by omega) (by omega) (by omega)) (fun a h1 h2 => fa a (by omega) (by omega) (by omega) (by omega) (by omega)))
  · exact MP.st (by rw [e]) (mp.fr (fo 17 (by omega) (by omega) (by omega) (by omega) (by omega)) (fa _ (by omega) (by omega) (by omega) (by omega) (by omega)))
theorem IM.hol {H : aH} {o : Nat} {S : aS} (x : IM H o S) {V1 : Nat → Nat → Int} (f : FS (hV H) V1 o) : IM (hw H V1) o S ∧ KO H (hw H V1) o := x.look (fun a i h1 h2 h3 => f a i (by omega) (by omega) (by omega))
theorem keepN_fr {S : aS} {p : Int × Int} : (keepN S p).2.2 = S.2 := by
  unfold keepN
  split <;> rfl
theorem spF_fr {S : aS} {n d : Int} : (spF S n d).2.2 = S.2 := by
  unfold spF
  split
  · rfl
  · exact keepN_fr
theorem spApp_fr {S : aS} {op a b : Int} : (spApp S op a b).2.2 = S.2 := by
  unfold spApp spR spC spRt
  repeat' split
  all_goals first | rfl | exact keepN_fr | exact spF_fr
theorem ordF_le2 {p q : Int × Int} (h : ordF p q ≤ 0) : p.1 * q.2 ≤ q.1 * p.2 := by
  unfold ordF at h
  split at h
  · omega
  · split at h
    · omega
    · omega
theorem ordF_gt2 {p q : Int × Int} (h : ¬ ordF p q ≤ 0) : q.1 * p.2 ≤ p.1 * q.2 := by
  unfold ordF at h
  split at h
  · omega
  · split at h
    · omega
    · omega
theorem spApp_ok {S : aS} (h : OkN S) (op a b : Int) : OkN (spApp S op a b).2 := by
  unfold spApp
  by_cases q : (0 ≤ op ∧ op ≤ 9) ∧ (0 ≤ a ∧ a < sN S) ∧ (0 ≤ b ∧ b < sN S)
  · rw [if_pos q]
    have pa := h.2 a.toNat (by omega)
    have pb := h.2 b.toNat (by omega)
    by_cases q4 : op < 4
    · rw [if_pos q4]
      unfold spR
      repeat' split
      all_goals first | exact spF_ok h _ _ | exact h
    · rw [if_neg q4]
      unfold spC
      split
      · exact keepN_ok h (fun _ => by split <;> assumption)
      split
      · exact keepN_ok h (fun _ => by split <;> assumption)
      split
      · exact keepN_ok h (fun _ => fl_ok pa)
      split
      · unfold spRt
        split
        · next e => exact keepN_ok h (fun _ => rtF_ok pa e.1 e.2)
        · exact h
      split
      · exact keepN_ok h (fun _ => abs_ok pa)
      · refine keepN_ok h (fun _ => ?_)
        split
        · next e => exact smpF_ok pa pb (ordF_le2 e)
        · next e => exact smpF_ok pb pa (ordF_gt2 e)
  · rw [if_neg q]
    exact h
theorem OkS.num {S S2 : aS} (ok : OkS S) (n : OkN S2) (e : S2.2 = S.2) : OkS S2 := ⟨⟨n, ok.1.2.st (by rw [e])⟩, ⟨ok.2.1.1.st (by rw [e]), ok.2.1.2.st (by rw [e])⟩, ok.2.2.st (by rw [e])⟩
theorem OkS.thg {S S2 : aS} (ok : OkS S) (t : OkT S2 ∧ OkL S2) (e1 : S2.1 = S.1) (e : S2.2.2 = S.2.2) : OkS S2 := ⟨⟨ok.1.1.st e1, t.1⟩, ⟨t.2, ok.2.1.2.st (by rw [e])⟩, ok.2.2.st (by rw [e])⟩
theorem ok_app {S : aS} (ok : OkS S) (op a b : Int) : OkS (spApp S op a b).2 := ok.num (spApp_ok ok.1.1 op a b) spApp_fr
theorem ok_frac {S : aS} (ok : OkS S) (n d : Int) : OkS (spF S n d).2 := ok.num (spF_ok ok.1.1 n d) spF_fr
theorem jx_frac {w : aW} {d : Nat} (hd : 60 ≤ d) {H : aH} {c : Nat} {S : aS} (x : IX w H c S) (ok : OkS S) (n m : Int) (h0 : m ≠ 0) (hn : -9223372036854775808 ≤ n ∧ n < 9223372036854775808) (hm : -9223372036854775808 ≤ m ∧ m < 9223372036854775808) : WP w d 200 [aO (some c), aJ n, aJ m] H (RI (fun r H1 => r = (spF S n m).1 ∧ IX w H1 c (spF S n m).2 ∧ KX H H1 c)) := by
  have q := x_fraction (w := w) (d := d) (by omega) x.cs (hV H) x.xn ok.1.1 n m h0 hn hm
  rw [hw_self] at q
  refine q.imp ?_
  rintro _ _ ⟨r, rfl, V1, rfl, x1, f, rfl⟩
  exact ⟨_, rfl, rfl, x.num f x1 spF_fr⟩
theorem jm_frac {w : aW} {d : Nat} (hd : 60 ≤ d) {H : aH} {o : Nat} {S : aS} (x : IM H o S) (ok : OkS S) (n m : Int) (h0 : m ≠ 0) (hn : -9223372036854775808 ≤ n ∧ n < 9223372036854775808) (hm : -9223372036854775808 ≤ m ∧ m < 9223372036854775808) : WP w d 272 [aO (some o), aJ n, aJ m] H (RI (fun r H1 => r = (spF S n m).1 ∧ IM H1 o (spF S n m).2 ∧ KO H H1 o)) := by
  have q := m_fractionS (w := w) (d := d) (by omega) x.1 (hV H) x.2.1 ok.1.1 n m h0 hn hm
  rw [hw_self] at q
  refine q.imp ?_
  rintro _ _ ⟨r, rfl, V1, rfl, x1, f, -, rfl⟩
  exact ⟨_, rfl, rfl, x.num f x1 spF_fr⟩
theorem jx_app {w : aW} {d : Nat} (hd : 60 ≤ d) {H : aH} {c : Nat} {S : aS} (x : IX w H c S) (ok : OkS S) (op a b : Int) : WP w d 201 [aO (some c), aI op, aI a, aI b] H (RI (fun r H1 => r = (spApp S op a b).1 ∧ IX w H1 c (spApp S op a b).2 ∧ KX H H1 c)) := by
  have q := x_apply (w := w) (d := d) (by omega) x.cs (hV H) x.xn ok.1.1 op a b
  rw [hw_self] at q
  refine q.imp ?_
  rintro _ _ ⟨r, rfl, V1, rfl, x1, f, rfl⟩
  exact ⟨_, rfl, rfl, x.num f x1 spApp_fr⟩
theorem jm_app {w : aW} {d : Nat} (hd : 60 ≤ d) {H : aH} {o : Nat} {S : aS} (x : IM H o S) (ok : OkS S) (op a b : Int) : WP w d 275 [aO (some o), aI op, aI a, aI b] H (RI (fun r H1 => r = (spApp S op a b).1 ∧ IM H1 o (spApp S op a b).2 ∧ KO H H1 o)) := by
  have q := m_apply (w := w) (d := d) (by omega) x.1 (hV H) x.2.1 ok.1.1 op a b
  rw [hw_self] at q
  refine q.imp ?_
  rintro _ _ ⟨r, rfl, V1, rfl, x1, f, rfl⟩
  exact ⟨_, rfl, rfl, x.num f x1 spApp_fr⟩
theorem jx_cmp {w : aW} {d : Nat} (hd : 60 ≤ d) {H : aH} {c : Nat} {S : aS} (x : IX w H c S) (ok : OkS S) (a b : Int) : WP w d 202 [aO (some c), aI a, aI b] H (RI (fun r H1 => r = spCmp S a b ∧ IX w H1 c S ∧ KX H H1 c)) := by
  have q := x_compare (w := w) (d := d) (by omega) x.cs (hV H) x.xn ok.1.1 a b
  rw [hw_self] at q
  refine q.imp ?_
  rintro _ _ ⟨r, rfl, rfl, rfl⟩
  exact ⟨_, rfl, rfl, x, KX.refl _ _⟩
theorem jm_cmp {w : aW} {d : Nat} (hd : 60 ≤ d) {H : aH} {o : Nat} {S : aS} (x : IM H o S) (ok : OkS S) (a b : Int) : WP w d 277 [aO (some o), aI a, aI b] H (RI (fun r H1 => r = spCmp S a b ∧ IM H1 o S ∧ KO H H1 o)) := by
  have q := m_compare (w := w) (d := d) (by omega) x.1 (hV H) x.2.1 ok.1.1 a b
  rw [hw_self] at q
  refine q.imp ?_
  rintro _ _ ⟨r, rfl, rfl, rfl⟩
  exact ⟨_, rfl, rfl, x.mark 0⟩
theorem jx_nof {w : aW} {d : Nat} (hd : 60 ≤ d) {H : aH} {c : Nat} {S : aS} (x : IX w H c S) (ok : OkS S) (a k : Int) (hk : -2147483648 ≤ k ∧ k < 2147483648) : WP w d 203 [aO (some c), aI a, aI k] H (RJ (fun r H1 => r = spNO S a k ∧ IX w H1 c S ∧ KX H H1 c)) := by
  have q : WP w d 203 [aO (some c), aI a, aI k] (hw H (hV H)) (RJ (fun r h1 => h1 = hw H (hV H) ∧ r = spNO S a k)) := by
    by_cases ha : 0 ≤ a ∧ a < sN S
    · exact x_numberOf1 (by omega) x.cs (hV H) x.xn ok.1.1 a ha k hk
    · exact x_numberOf0 (by omega) x.cs (hV H) x.xn ok.1.1 a ha k hk
  rw [hw_self] at q
  refine q.imp ?_
  rintro _ _ ⟨r, rfl, rfl, rfl⟩
  exact ⟨_, rfl, rfl, x, KX.refl _ _⟩
theorem jm_nof {w : aW} {d : Nat} (hd : 60 ≤ d) {H : aH} {o : Nat} {S : aS} (x : IM H o S) (ok : OkS S) (a k : Int) (hk : -2147483648 ≤ k ∧ k < 2147483648) : WP w d 278 [aO (some o), aI a, aI k] H (RJ (fun r H1 => r = spNO S a k ∧ IM H1 o S ∧ KO H H1 o)) := by
  have q := m_numberOf (w := w) (d := d) (by omega) x.1 (hV H) x.2.1 ok.1.1 a k hk
  rw [hw_self] at q
  refine q.imp ?_
  rintro _ _ ⟨r, rfl, rfl, rfl⟩
  exact ⟨_, rfl, rfl, x.mark 0⟩
theorem jx_near {w : aW} {d : Nat} (hd : 60 ≤ d) {H : aH} {c : Nat} {S : aS} (x : IX w H c S) (ok : OkS S) (a : Int) : WP w d 204 [aO (some c), aI a] H (fun r H1 => r = some (aD (nearF S a)) ∧ IX w H1 c S ∧ KX H H1 c) := by
  have q := x_near (w := w) (d := d) (by omega) x.cs (hV H) x.xn ok.1.1 a
  rw [hw_self] at q
  refine q.imp ?_
  rintro _ _ ⟨rfl, rfl⟩
  exact ⟨rfl, x, KX.refl _ _⟩
theorem jm_near {w : aW} {d : Nat} (hd : 60 ≤ d) {H : aH} {o : Nat} {S : aS} (x : IM H o S) (ok : OkS S) (a : Int) : WP w d 279 [aO (some o), aI a] H (fun r H1 => r = some (aD (nearF S a)) ∧ IM H1 o S ∧ KO H H1 o) := by
  have q := m_near (w := w) (d := d) (by omega) x.1 (hV H) x.2.1 ok.1.1 a
  rw [hw_self] at q
  refine q.imp ?_
  rintro _ _ ⟨rfl, rfl⟩
  exact ⟨rfl, x.mark 0⟩
theorem jx_cnt {w : aW} {d : Nat} (hd : 60 ≤ d) {H : aH} {c : Nat} {S : aS} (x : IX w H c S) (ok : OkS S) (k : Int) : WP w d 223 [aO (some c), aI k] H (RI (fun r H1 => r = cntF (sN S) (sT S) (sG S) (sPn S) k ∧ IX w H1 c S ∧ KX H H1 c)) := by
  have h0 := x.xn.1
  have h1 := x.xt.1
  have h2 := x.xg.1
  obtain ⟨ρ, xp⟩ := x.2.2.1
  have h3 := xp.1
  have q : WP w d 223 [aO (some c), aI k] (hw H (hV H)) (RI (fun r h1 => h1 = hw H (hV H) ∧ r = cntF (sN S) (sT S) (sG S) (sPn S) k)) := by
    by_cases hk : k < 0 ∨ 3 < k
    · exact x_countX (by omega) x.cs (hV H) _ _ _ _ h0 h1 h2 h3 k hk
    · rcases (show k = 0 ∨ k = 1 ∨ k = 2 ∨ k = 3 by omega) with e | e | e | e <;> subst e
      · exact x_count0 (by omega) x.cs (hV H) _ _ _ _ h0 h1 h2 h3
      · exact x_count1 (by omega) x.cs (hV H) _ _ _ _ h0 h1 h2 h3
      · exact x_count2 (by omega) x.cs (hV H) _ _ _ _ h0 h1 h2 h3
      · exact x_count3 (by omega) x.cs (hV H) _ _ _ _ h0 h1 h2 h3
  rw [hw_self] at q
  refine q.imp ?_
  rintro _ _ ⟨r, rfl, rfl, rfl⟩
  exact ⟨_, rfl, rfl, x, KX.refl _ _⟩
theorem jm_cnt {w : aW} {d : Nat} (hd : 60 ≤ d) {H : aH} {o : Nat} {S : aS} (x : IM H o S) (ok : OkS S) (k : Int) : WP w d 381 [aO (some o), aI k] H (RI (fun r H1 => r = cntF (sN S) (sT S) (sG S) (sPn S) k ∧ IM H1 o S ∧ KO H H1 o)) := by
  have q := m_count (w := w) (d := d) (by omega) x.1 (hV H) _ _ _ _ x.2.1.1 x.2.2.1.1 x.2.2.2.1.1 x.2.2.2.2.1 k
  rw [hw_self] at q
  refine q.imp ?_
  rintro _ _ ⟨r, rfl, rfl, rfl⟩
  exact ⟨_, rfl, rfl, x.mark 0⟩
