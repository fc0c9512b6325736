/-! the class's points, lines, circles as objects: three or four whole numbers -/
abbrev T3 : Type := Int × Int × Int
abbrev T4 : Type := Int × Int × Int × Int
/-- an object made lately -/
def OB (h : aH) (c t k : Nat) : Prop := t < hz h ∧ c + 67 ≤ t ∧ (hT h t).1 = k
def TF (h : aH) (c t x y w : Nat) : Prop := OB h c t 19 ∧ hR h t 0 = some x ∧ hR h t 1 = some y ∧ hR h t 2 = some w
def RF (h : aH) (c t k a b e : Nat) : Prop := OB h c t 15 ∧ hR h t 0 = some k ∧ hR h t 1 = some a ∧ hR h t 2 = some b ∧ hR h t 3 = some e
def TB (h : aH) (c t : Nat) (P : T3) (k : Nat) : Prop := ∃ x y w, TF h c t x y w ∧ WB h c x P.1 k ∧ WB h c y P.2.1 k ∧ WB h c w P.2.2 k
def QB (h : aH) (c t : Nat) (R : T4) (k : Nat) : Prop := ∃ u a b e, RF h c t u a b e ∧ WB h c u R.1 k ∧ WB h c a R.2.1 k ∧ WB h c b R.2.2.1 k ∧ WB h c e R.2.2.2 k
theorem Gr.ob {h h1 : aH} {c n : Nat} (g : Gr h h1 c n) {t k : Nat} (x : OB h c t k) : OB h1 c t k := ⟨by have := g.2.1.1; have := x.1; omega, x.2.1, by rw [g.2.2.2.1 t x.1]; exact x.2.2⟩
theorem Gr.tf {h h1 : aH} {c n : Nat} (g : Gr h h1 c n) {t x y w : Nat} (f : TF h c t x y w) : TF h1 c t x y w := by
  have e := g.2.2.2.2.1 t f.1.1 (by have := f.1.2.1; omega)
  exact ⟨g.ob f.1, by rw [e]; exact f.2.1, by rw [e]; exact f.2.2.1, by rw [e]; exact f.2.2.2⟩
theorem Gr.rf {h h1 : aH} {c n : Nat} (g : Gr h h1 c n) {t k a b e : Nat} (f : RF h c t k a b e) : RF h1 c t k a b e := by
  have q := g.2.2.2.2.1 t f.1.1 (by have := f.1.2.1; omega)
  exact ⟨g.ob f.1, by rw [q]; exact f.2.1, by rw [q]; exact f.2.2.1, by rw [q]; exact f.2.2.2.1, by rw [q]; exact f.2.2.2.2⟩
theorem Gr.tb {h h1 : aH} {c n : Nat} (g : Gr h h1 c n) {t : Nat} {P : T3} {k : Nat} (x : TB h c t P k) : TB h1 c t P k := by
  obtain ⟨x, y, w, f, a, b, d⟩ := x
  exact ⟨x, y, w, g.tf f, g.wb a, g.wb b, g.wb d⟩
theorem Gr.qb {h h1 : aH} {c n : Nat} (g : Gr h h1 c n) {t : Nat} {R : T4} {k : Nat} (x : QB h c t R k) : QB h1 c t R k := by
  obtain ⟨u, x, y, w, f, a, b, d, e⟩ := x
  exact ⟨u, x, y, w, g.rf f, g.wb a, g.wb b, g.wb d, g.wb e⟩
theorem TB.up {h : aH} {c t : Nat} {P : T3} {j k : Nat} (x : TB h c t P j) (hk : j ≤ k) : TB h c t P k := by
  obtain ⟨x, y, w, f, a, b, d⟩ := x
  exact ⟨x, y, w, f, a.up hk, b.up hk, d.up hk⟩
theorem QB.up {h : aH} {c t : Nat} {R : T4} {j k : Nat} (x : QB h c t R j) (hk : j ≤ k) : QB h c t R k := by
  obtain ⟨u, x, y, w, f, a, b, d, e⟩ := x
  exact ⟨u, x, y, w, f, a.up hk, b.up hk, d.up hk, e.up hk⟩
theorem TB.lt {h : aH} {c t : Nat} {P : T3} {k : Nat} (x : TB h c t P k) : t < hz h := x.choose_spec.choose_spec.choose_spec.1.1.1
theorem QB.lt {h : aH} {c t : Nat} {R : T4} {k : Nat} (x : QB h c t R k) : t < hz h := x.choose_spec.choose_spec.choose_spec.choose_spec.1.1.1
/-- a new object, nothing in it yet -/
theorem Gr.mk {h : aH} {c k m : Nat} (ci : CI h c) (hm : m ≤ 13) (hk : k ≠ 20) : Gr h (hnew h k m) c 1 ∧ OB (hnew h k m) c (hz h) k := by
  obtain ⟨cs, i2, i3, i4, i5⟩ := ci
  have old : ∀ b < hz h, hT (hnew h k m) b = hT h b ∧ hV (hnew h k m) b = hV h b ∧ hR (hnew h k m) b = hR h b := fun b hb => by
    refine ⟨by rw [hT_new, if_neg (by omega)], ?_, ?_⟩
    · funext j; rw [hV_new, if_neg (by omega)]
    · funext j; rw [hR_new, if_neg (by omega)]
  have e1 : hV (hnew h k m) (c + 1) = hV h (c + 1) := (old _ (by omega)).2.1
  have e2 : hR (hnew h k m) (c + 2) = hR h (c + 2) := (old _ (by omega)).2.2
  have wo : ∀ p, WO h p → p + 1 < hz h → WO (hnew h k m) p := fun p w1 w2 => by
    obtain ⟨a1, a2, a3⟩ := w1
    refine ⟨by rw [(old _ (by omega)).1]; exact a1, by rw [(old _ (by omega)).2.2]; exact a2, by rw [(old _ (by omega)).1]; exact a3⟩
  have cs2 : CS (hnew h k m) c := by
    refine ⟨fun j hj => ?_, fun i hi => ?_⟩
    · rw [(old _ (by omega)).1, cs.1 j hj]
    · rw [(old _ (by have := xrl_lt i hi; omega)).2.2, cs.2 i hi]
  refine ⟨⟨⟨cs2, by rw [hz_new]; omega, by rw [e1]; exact i3, fun i hi p hp => ?_, fun i hi j hj p h1 h2 => ?_⟩, by rw [hz_new]; omega, by rw [hs_new]; omega, fun a ha => (old a ha).1, fun a ha _ => (old a ha).2.2, fun a ha _ _ => (old a ha).2.1, by rw [e1]; omega, fun p z x => ?_⟩, by rw [hz_new]; omega, i2, by rw [hT_new, if_pos rfl]⟩
  · rw [e2] at hp
    obtain ⟨a1, a2, a3⟩ := i4 i hi p hp
    exact ⟨wo p a1 a3, a2, by rw [hz_new]; omega⟩
  · rw [e2] at h1 h2
    exact i5 i hi j hj p h1 h2
  · obtain ⟨b1, b2, b3, b4, b5⟩ := x
    refine ⟨wo p b1 b3, b2, by rw [hz_new]; omega, by rw [(old _ b3).2.1]; exact b4, fun i hi h2 => ?_⟩
    rw [e1]
    rw [e2] at h2
    exact b5 i hi h2
/-- fields of a new object are filled -/
theorem WB.pt {h : aH} {c p t f k m : Nat} {z : Int} {v : Option Nat} (x : WB h c p z k) (ob : OB h c t m) (hm : m ≠ 20) : WB (hput h t f v) c p z k := by
  obtain ⟨⟨⟨b1, b2, b3⟩, b4, b5, b6, b7⟩, hb⟩ := x
  have hne : p ≠ t := fun e => hm (by rw [← ob.2.2, ← e]; exact b1)
  refine ⟨⟨⟨b1, by rw [hR_put, if_neg (by omega)]; exact b2, b3⟩, b4, b5, b6, fun i hi h2 => ?_⟩, hb⟩
  rw [hR_put, if_neg (by have := ob.2.1; omega)] at h2
  exact b7 i hi h2
theorem OB.pt {h : aH} {c t t2 f k : Nat} {v : Option Nat} (x : OB h c t k) : OB (hput h t2 f v) c t k := x
theorem TF.pt {h : aH} {c t x y w t2 f : Nat} {v : Option Nat} (u : TF h c t x y w) (hne : t ≠ t2) : TF (hput h t2 f v) c t x y w := ⟨u.1, by rw [hR_put, if_neg (by omega)]; exact u.2.1, by rw [hR_put, if_neg (by omega)]; exact u.2.2.1, by rw [hR_put, if_neg (by omega)]; exact u.2.2.2⟩
theorem RF.pt {h : aH} {c t k a b e t2 f : Nat} {v : Option Nat} (u : RF h c t k a b e) (hne : t ≠ t2) : RF (hput h t2 f v) c t k a b e := ⟨u.1, by rw [hR_put, if_neg (by omega)]; exact u.2.1, by rw [hR_put, if_neg (by omega)]; exact u.2.2.1, by rw [hR_put, if_neg (by omega)]; exact u.2.2.2.1, by rw [hR_put, if_neg (by omega)]; exact u.2.2.2.2⟩
theorem Gr.pt {h h1 : aH} {c n t f m : Nat} {v : Option Nat} (g : Gr h h1 c n) (ob : OB h1 c t m) (hm : m ≠ 20) (ht : hz h ≤ t) : Gr h (hput h1 t f v) c n := by
  obtain ⟨⟨cs, i2, i3, i4, i5⟩, a2, a3, a4, a5, a6, a7, a8⟩ := g
  have hc := ob.2.1
  have wo : ∀ p, WO h1 p → WO (hput h1 t f v) p := fun p w => by
    obtain ⟨b1, b2, b3⟩ := w
    have hne : p ≠ t := fun e => hm (by rw [← ob.2.2, ← e]; exact b1)
    exact ⟨b1, by rw [hR_put, if_neg (by omega)]; exact b2, b3⟩
  refine ⟨⟨⟨fun j hj => cs.1 j hj, fun i hi => by rw [hR_put, if_neg (by have := xrl_lt i hi; omega)]; exact cs.2 i hi⟩, i2, i3, fun i hi p hp => ?_, fun i hi j hj p h2 h3 => ?_⟩, a2, a3, a4, fun a ha hc2 => ?_, a6, a7, fun p z x => ?_⟩
  · rw [hR_put, if_neg (by omega)] at hp
    obtain ⟨b1, b2, b3⟩ := i4 i hi p hp
    exact ⟨wo p b1, b2, b3⟩
  · rw [hR_put, if_neg (by omega)] at h2 h3
    exact i5 i hi j hj p h2 h3
  · funext j
    rw [hR_put, if_neg (by omega), a5 a ha hc2]
  · obtain ⟨b1, b4, b5, b6, b7⟩ := a8 p z x
    refine ⟨wo p b1, b4, b5, b6, fun i hi h2 => ?_⟩
    rw [hR_put, if_neg (by omega)] at h2
    exact b7 i hi h2
/-- three fields filled: all that is wanted of it -/
def pt3 (h : aH) (t x y w : Nat) : aH := hput (hput (hput h t 0 (some x)) t 1 (some y)) t 2 (some w)
def pt4 (h : aH) (t x y w e : Nat) : aH := hput (hput (hput (hput h t 0 (some x)) t 1 (some y)) t 2 (some w)) t 3 (some e)
theorem ct3 {h h1 : aH} {c n t x y w k : Nat} {P : T3} (g : Gr h h1 c n) (ob : OB h1 c t 19) (ht : hz h ≤ t) (wx : WB h1 c x P.1 k) (wy : WB h1 c y P.2.1 k) (ww : WB h1 c w P.2.2 k) :
    Gr h (pt3 h1 t x y w) c n ∧ TB (pt3 h1 t x y w) c t P k ∧ (∀ p z k, WB h1 c p z k → WB (pt3 h1 t x y w) c p z k) ∧ (∀ u x2 y2 w2, u ≠ t → TF h1 c u x2 y2 w2 → TF (pt3 h1 t x y w) c u x2 y2 w2) ∧ (∀ u x2 y2 w2 e2, RF h1 c u x2 y2 w2 e2 → RF (pt3 h1 t x y w) c u x2 y2 w2 e2) := by
  have lw : ∀ p z k, WB h1 c p z k → WB (pt3 h1 t x y w) c p z k := fun p z k q => WB.pt (WB.pt (WB.pt q ob (by decide)) ob (by decide)) ob (by decide)
  refine ⟨Gr.pt (Gr.pt (Gr.pt g ob (by decide) ht) ob (by decide) ht) ob (by decide) ht, ⟨x, y, w, ⟨ob, ?_, ?_, ?_⟩, lw _ _ _ wx, lw _ _ _ wy, lw _ _ _ ww⟩, lw, fun u x2 y2 w2 hne f => ((f.pt hne).pt hne).pt hne, fun u x2 y2 w2 e2 f => ?_⟩
  · unfold pt3; rw [hR_put, if_neg (by omega), hR_put, if_neg (by omega), hR_put, if_pos ⟨rfl, rfl⟩]
  · unfold pt3; rw [hR_put, if_neg (by omega), hR_put, if_pos ⟨rfl, rfl⟩]
  · unfold pt3; rw [hR_put, if_pos ⟨rfl, rfl⟩]
  · have hne : u ≠ t := fun e => by have h1 := f.1.2.2; rw [e, ob.2.2] at h1; omega
    exact ((f.pt hne).pt hne).pt hne
theorem ct4 {h h1 : aH} {c n t x y w v k : Nat} {R : T4} (g : Gr h h1 c n) (ob : OB h1 c t 15) (ht : hz h ≤ t) (wx : WB h1 c x R.1 k) (wy : WB h1 c y R.2.1 k) (ww : WB h1 c w R.2.2.1 k) (wv : WB h1 c v R.2.2.2 k) :
    Gr h (pt4 h1 t x y w v) c n ∧ QB (pt4 h1 t x y w v) c t R k ∧ (∀ p z k, WB h1 c p z k → WB (pt4 h1 t x y w v) c p z k) ∧ (∀ u x2 y2 w2, TF h1 c u x2 y2 w2 → TF (pt4 h1 t x y w v) c u x2 y2 w2) ∧ (∀ u x2 y2 w2 e2, u ≠ t → RF h1 c u x2 y2 w2 e2 → RF (pt4 h1 t x y w v) c u x2 y2 w2 e2) := by
  have lw : ∀ p z k, WB h1 c p z k → WB (pt4 h1 t x y w v) c p z k := fun p z k q => WB.pt (WB.pt (WB.pt (WB.pt q ob (by decide)) ob (by decide)) ob (by decide)) ob (by decide)
  refine ⟨Gr.pt (Gr.pt (Gr.pt (Gr.pt g ob (by decide) ht) ob (by decide) ht) ob (by decide) ht) ob (by decide) ht, ⟨x, y, w, v, ⟨ob, ?_, ?_, ?_, ?_⟩, lw _ _ _ wx, lw _ _ _ wy, lw _ _ _ ww, lw _ _ _ wv⟩, lw, fun u x2 y2 w2 f => ?_, fun u x2 y2 w2 e2 hne f => (((f.pt hne).pt hne).pt hne).pt hne⟩
  · unfold pt4; rw [hR_put, if_neg (by omega), hR_put, if_neg (by omega), hR_put, if_neg (by omega), hR_put, if_pos ⟨rfl, rfl⟩]
  · unfold pt4; rw [hR_put, if_neg (by omega), hR_put, if_neg (by omega), hR_put, if_pos ⟨rfl, rfl⟩]
  · unfold pt4; rw [hR_put, if_neg (by omega), hR_put, if_pos ⟨rfl, rfl⟩]
  · unfold pt4; rw [hR_put, if_pos ⟨rfl, rfl⟩]
  · have hne : u ≠ t := fun e => by have h1 := f.1.2.2; rw [e, ob.2.2] at h1; omega
    exact (((f.pt hne).pt hne).pt hne).pt hne
/-- a result that may be nothing -/
def OT (h : aH) (c : Nat) (r : Option Nat) (P : Option T3) (k : Nat) : Prop := match P with
  | none => r = none
  | some P => ∃ t, r = some t ∧ TB h c t P k
def OQ (h : aH) (c : Nat) (r : Option Nat) (R : Option T4) (k : Nat) : Prop := match R with
  | none => r = none
  | some R => ∃ t, r = some t ∧ QB h c t R k
