/-! the next corner of a wrap: the class finds it, there is one place of it -/
def vv (S : aS) (p q i : Nat) : Int × Int := (gx S p i - gx S p q, gy S p i - gy S p q)
theorem gT_vv (S : aS) (p q k i : Nat) : gT S p q k i = crx (vv S p q k) (vv S p q i) := by
  unfold gT crx vv
  rfl
def ro (d v : Int × Int) : Int × Int := (crx d v, -(d.1 * v.1 + d.2 * v.2))
theorem ro_crx (d v w : Int × Int) : crx (ro d v) (ro d w) = (d.1 * d.1 + d.2 * d.2) * crx v w := by
  unfold crx ro crx
  dsimp only
  grind
/-- all other places lie in one half around corner q -/
def HpD (S : aS) (p q : Nat) (d : Int × Int) : Prop := 0 < d.1 * d.1 + d.2 * d.2 ∧ ∀ i < sGn S p, ¬ gSame S p q i → lxp (ro d (vv S p q i))
def gdK (S : aS) (p q k i : Nat) : Prop := 0 < gT S p q k i ∨ (gT S p q k i = 0 ∧ gQ S p q i ≤ gQ S p q k)
def Nxt (S : aS) (p q k : Nat) : Prop := k < sGn S p ∧ ¬ gSame S p q k ∧ ∀ i < sGn S p, ¬ gSame S p q i → gdK S p q k i
theorem pos_mul {D x : Int} (hD : 0 < D) : (0 < D * x ↔ 0 < x) ∧ (0 ≤ D * x ↔ 0 ≤ x) := by
  have h := sg_pos hD x
  omega
theorem half_tr {S : aS} {p q : Nat} {d : Int × Int} (h : HpD S p q d) {u v w : Nat} (hu : u < sGn S p ∧ ¬ gSame S p q u) (hv : v < sGn S p ∧ ¬ gSame S p q v) (hw : w < sGn S p ∧ ¬ gSame S p q w) (h1 : 0 ≤ gT S p q u v) (h2 : 0 ≤ gT S p q v w) : 0 ≤ gT S p q u w ∧ (0 < gT S p q u v → 0 < gT S p q u w) := by
  have xu := h.2 u hu.1 hu.2
  have xv := h.2 v hv.1 hv.2
  have xw := h.2 w hw.1 hw.2
  have lx : ∀ z : Int × Int, lxp z → lx0 z := fun z hz => by
    unfold lxp at hz
    unfold lx0
    omega
  have e : ∀ a b : Nat, crx (ro d (vv S p q a)) (ro d (vv S p q b)) = (d.1 * d.1 + d.2 * d.2) * gT S p q a b := fun a b => by rw [ro_crx, gT_vv]
  have p1 := (pos_mul (x := gT S p q u v) h.1)
  have p2 := (pos_mul (x := gT S p q v w) h.1)
  have p3 := (pos_mul (x := gT S p q u w) h.1)
  have t1 := crx_tr (lx _ xu) xv (lx _ xw) (by rw [e]; exact p1.2.mpr h1) (by rw [e]; exact p2.2.mpr h2)
  rw [e] at t1
  refine ⟨p3.2.mp t1, fun h3 => ?_⟩
  have t2 := crx_tr1 (lx _ xu) xv xw (by rw [e]; exact p1.1.mpr h3) (by rw [e]; exact p2.2.mpr h2)
  rw [e] at t2
  exact p3.1.mp t2
theorem gT_sw (S : aS) (p q a b : Nat) : gT S p q a b = -gT S p q b a := by
  unfold gT
  grind
theorem gNx_ok {S : aS} {p q : Nat} {d : Int × Int} (h : HpD S p q d) : ∀ i, i ≤ sGn S p → (gNx S p q i = -1 ∧ ∀ j < i, gSame S p q j) ∨ ∃ k : Nat, gNx S p q i = k ∧ k < i ∧ ¬ gSame S p q k ∧ ∀ j < i, ¬ gSame S p q j → gdK S p q k j
  | 0, _ => Or.inl ⟨rfl, fun j hj => by omega⟩
  | i + 1, hi => by
    have ih := gNx_ok h i (by omega)
    have eu : gNx S p q (i + 1) = if ¬ gSame S p q i ∧ gBet S p q (gNx S p q i) i then (i : Int) else gNx S p q i := rfl
    by_cases qs : gSame S p q i
    · rw [if_neg (fun z => z.1 qs)] at eu
      rw [eu]
      rcases ih with ⟨e, f⟩ | ⟨k, e, hk, hs, f⟩
      · exact Or.inl ⟨e, fun j hj => if z : j = i then z ▸ qs else f j (by omega)⟩
      · exact Or.inr ⟨k, e, by omega, hs, fun j hj hn => if z : j = i then absurd (z ▸ qs) hn else f j (by omega) hn⟩
    · rcases ih with ⟨e, f⟩ | ⟨k, e, hk, hs, f⟩
      · rw [if_pos ⟨qs, Or.inl (by omega)⟩] at eu
        refine Or.inr ⟨i, eu, by omega, qs, fun j hj hn => ?_⟩
        by_cases z : j = i
        · subst z
          exact Or.inr ⟨by unfold gT; grind, Int.le_refl _⟩
        · exact absurd (f j (by omega)) hn
      · have ek : (gNx S p q i).toNat = k := by omega
        by_cases b : gBet S p q (gNx S p q i) i
        · rw [if_pos ⟨qs, b⟩] at eu
          refine Or.inr ⟨i, eu, by omega, qs, fun j hj hn => ?_⟩
          have b2 : gT S p q k i < 0 ∨ (gT S p q k i = 0 ∧ gQ S p q k < gQ S p q i) := by
            rcases b with b | b
            · omega
            · rw [ek] at b
              exact b
          by_cases z : j = i
          · subst z
            exact Or.inr ⟨by unfold gT; grind, Int.le_refl _⟩
          · have fj := f j (by omega) hn
            have sw := gT_sw S p q i k
            have hI : i < sGn S p ∧ ¬ gSame S p q i := ⟨by omega, qs⟩
            have hK : k < sGn S p ∧ ¬ gSame S p q k := ⟨by omega, hs⟩
            have hJ : j < sGn S p ∧ ¬ gSame S p q j := ⟨by omega, hn⟩
            have kj : 0 ≤ gT S p q k j := by
              rcases fj with y | y
              · omega
              · omega
            have t := half_tr h hI hK hJ (by omega) kj
            rcases b2 with b2 | ⟨b2, b3⟩
            · exact Or.inl (t.2 (by omega))
            · rcases Int.lt_or_le 0 (gT S p q i j) with y | y
              · exact Or.inl y
              · have z0 : gT S p q i j = 0 := by omega
                have sw2 := gT_sw S p q j i
                have sw3 := gT_sw S p q k j
                have t2 := half_tr h hJ hI hK (by omega) (by omega)
                refine Or.inr ⟨z0, ?_⟩
                rcases fj with y2 | y2
                · omega
                · omega
        · rw [if_neg (fun z => b z.2)] at eu
          rw [eu]
          have b2 : ¬(gT S p q k i < 0 ∨ (gT S p q k i = 0 ∧ gQ S p q k < gQ S p q i)) := fun z => b (Or.inr (by rw [ek]; exact z))
          refine Or.inr ⟨k, e, by omega, hs, fun j hj hn => ?_⟩
          by_cases z : j = i
          · subst z
            unfold gdK
            omega
          · exact f j (by omega) hn
theorem sq_eq {v w : Int × Int} (hv : lxp v) (hw : lxp w) (hc : crx v w = 0) (hq : v.1 * v.1 + v.2 * v.2 = w.1 * w.1 + w.2 * w.2) : v = w := by
  obtain ⟨v1, v2⟩ := v
  obtain ⟨w1, w2⟩ := w
  unfold crx at hc
  unfold lxp at hv hw
  dsimp only at hc hv hw hq
  have hn : 0 < v1 * v1 + v2 * v2 := by
    have a := sq_pos (g := v1)
    have b := sq_pos (g := v2)
    have n : ∀ x : Int, 0 ≤ x * x := fun x => by
      rcases Int.le_total 0 x with q | q
      · exact Int.mul_nonneg q q
      · exact Int.mul_nonneg_of_nonpos_of_nonpos q q
    have n1 := n v1
    have n2 := n v2
    by_cases z : v1 = 0
    · have := b (by omega)
      omega
    · have := a z
      omega
  have e1 : (v1 * v1 - w1 * w1) * (v1 * v1 + v2 * v2) = 0 := by
    have : (v1 * v1 - w1 * w1) * (v1 * v1 + v2 * v2) = v1 * v1 * (w1 * w1 + w2 * w2) - w1 * w1 * (v1 * v1 + v2 * v2) := by rw [← hq]; grind
    rw [this]
    have e : v1 * w2 = v2 * w1 := by omega
    have : v1 * v1 * (w1 * w1 + w2 * w2) - w1 * w1 * (v1 * v1 + v2 * v2) = (v1 * w2) * (v1 * w2) - (v2 * w1) * (v2 * w1) := by grind
    rw [this, e]
    omega
  have e2 : v1 * v1 = w1 * w1 := by
    have := (Int.mul_eq_zero.mp e1).resolve_right (by omega)
    omega
  have e3 : v1 = w1 := by
    have : (v1 - w1) * (v1 + w1) = 0 := by grind
    rcases Int.mul_eq_zero.mp this with z | z <;> omega
  subst e3
  have e4 : v2 = w2 := by
    by_cases z : v1 = 0
    · have : (v2 - w2) * (v2 + w2) = 0 := by grind
      rcases Int.mul_eq_zero.mp this with y | y <;> omega
    · have : v1 * (w2 - v2) = 0 := by grind
      have := (Int.mul_eq_zero.mp this).resolve_left z
      omega
  rw [e4]
theorem ro_inj {d v w : Int × Int} (hd : 0 < d.1 * d.1 + d.2 * d.2) (h : ro d v = ro d w) : v = w := by
  obtain ⟨d1, d2⟩ := d
  obtain ⟨v1, v2⟩ := v
  obtain ⟨w1, w2⟩ := w
  unfold ro crx at h
  dsimp only at h hd
  have h1 := congrArg (fun z : Int × Int => z.1) h
  have h2 := congrArg (fun z : Int × Int => z.2) h
  dsimp only at h1 h2
  have e1 : (d1 * d1 + d2 * d2) * (v1 - w1) = 0 := by
    have : (d1 * d1 + d2 * d2) * (v1 - w1) = d1 * (-(d1 * w1 + d2 * w2) - -(d1 * v1 + d2 * v2)) + d2 * ((d1 * w2 - d2 * w1) - (d1 * v2 - d2 * v1)) := by grind
    rw [this, h1, h2]
    grind
  have e2 : (d1 * d1 + d2 * d2) * (v2 - w2) = 0 := by
    have : (d1 * d1 + d2 * d2) * (v2 - w2) = d2 * (-(d1 * w1 + d2 * w2) - -(d1 * v1 + d2 * v2)) - d1 * ((d1 * w2 - d2 * w1) - (d1 * v2 - d2 * v1)) := by grind
    rw [this, h1, h2]
    grind
  have f1 := (Int.mul_eq_zero.mp e1).resolve_left (by omega)
  have f2 := (Int.mul_eq_zero.mp e2).resolve_left (by omega)
  exact Prod.ext (by dsimp only; omega) (by dsimp only; omega)
theorem ro_q (d v : Int × Int) : (ro d v).1 * (ro d v).1 + (ro d v).2 * (ro d v).2 = (d.1 * d.1 + d.2 * d.2) * (v.1 * v.1 + v.2 * v.2) := by
  unfold ro crx
  dsimp only
  grind
theorem gQ_vv (S : aS) (p q k : Nat) : gQ S p q k = (vv S p q k).1 * (vv S p q k).1 + (vv S p q k).2 * (vv S p q k).2 := rfl
theorem nxt_one {S : aS} {p q k j : Nat} {d : Int × Int} (h : HpD S p q d) (hk : Nxt S p q k) (hj : Nxt S p q j) : gSame S p k j := by
  have g1 := hk.2.2 j hj.1 hj.2.1
  have g2 := hj.2.2 k hk.1 hk.2.1
  have sw := gT_sw S p q k j
  unfold gdK at g1 g2
  have z0 : gT S p q k j = 0 := by omega
  have zq : gQ S p q k = gQ S p q j := by omega
  have e : ro d (vv S p q k) = ro d (vv S p q j) := by
    refine sq_eq (h.2 k hk.1 hk.2.1) (h.2 j hj.1 hj.2.1) ?_ ?_
    · rw [ro_crx, ← gT_vv, z0, Int.mul_zero]
    · rw [ro_q, ro_q, ← gQ_vv, ← gQ_vv, zq]
  have e2 := ro_inj h.1 e
  have f1 : gx S p k - gx S p q = gx S p j - gx S p q := congrArg (fun z : Int × Int => z.1) e2
  have f2 : gy S p k - gy S p q = gy S p j - gy S p q := congrArg (fun z : Int × Int => z.2) e2
  unfold gSame
  omega
theorem hp_first {S : aS} {p f : Nat} (h : gLe S p f) : HpD S p f (0, -1) := by
  refine ⟨by decide, fun i hi hn => ?_⟩
  have := h.2 i hi
  unfold lexL at this
  unfold gSame at hn
  unfold lxp ro crx vv
  dsimp only
  omega
theorem hp_next {S : aS} {p q k : Nat} (hq : q < sGn S p) (hk : Nxt S p q k) : HpD S p k (vv S p q k) := by
  have hd : 0 < (vv S p q k).1 * (vv S p q k).1 + (vv S p q k).2 * (vv S p q k).2 := by
    have n : ∀ x : Int, 0 ≤ x * x := fun x => by
      rcases Int.le_total 0 x with q | q
      · exact Int.mul_nonneg q q
      · exact Int.mul_nonneg_of_nonpos_of_nonpos q q
    have n1 := n (vv S p q k).1
    have n2 := n (vv S p q k).2
    have hs := hk.2.1
    unfold gSame at hs
    by_cases z : (vv S p q k).1 = 0
    · have := sq_pos (g := (vv S p q k).2) (by unfold vv at z ⊢; dsimp only at z ⊢; omega)
      omega
    · have := sq_pos z
      omega
  refine ⟨hd, fun i hi hn => ?_⟩
  have e1 : (ro (vv S p q k) (vv S p k i)).1 = gT S p q k i := by
    unfold ro crx vv gT
    dsimp only
    grind
  have e2 : (ro (vv S p q k) (vv S p k i)).2 = gQ S p q k - ((vv S p q k).1 * (vv S p q i).1 + (vv S p q k).2 * (vv S p q i).2) := by
    unfold ro vv gQ
    dsimp only
    grind
  unfold lxp
  rw [e1, e2]
  by_cases hs : gSame S p q i
  · have z1 : vv S p q i = (0, 0) := by
      unfold gSame at hs
      unfold vv
      exact Prod.ext (by dsimp only; omega) (by dsimp only; omega)
    rw [gT_vv, z1]
    unfold crx
    dsimp only
    rw [gQ_vv]
    omega
  · rcases hk.2.2 i hi hs with g | ⟨g1, g2⟩
    · omega
    · refine Or.inr ⟨g1, ?_⟩
      rw [gT_vv] at g1
      rw [gQ_vv, gQ_vv] at g2
      rw [gQ_vv]
      have hne : ¬(vv S p q i = vv S p q k) := fun e => hn (by
        have f1 : gx S p i - gx S p q = gx S p k - gx S p q := congrArg (fun z : Int × Int => z.1) e
        have f2 : gy S p i - gy S p q = gy S p k - gy S p q := congrArg (fun z : Int × Int => z.2) e
        unfold gSame
        omega)
      generalize vv S p q k = v at hd g1 g2 hne ⊢
      generalize vv S p q i = w at g1 g2 hne ⊢
      obtain ⟨v1, v2⟩ := v
      obtain ⟨w1, w2⟩ := w
      unfold crx at g1
      dsimp only at *
      rcases Int.lt_or_le 0 (v1 * v1 + v2 * v2 - (v1 * w1 + v2 * w2)) with z | z
      · exact z
      · exfalso
        have n : ∀ x : Int, 0 ≤ x * x := fun x => by
          rcases Int.le_total 0 x with q | q
          · exact Int.mul_nonneg q q
          · exact Int.mul_nonneg_of_nonpos_of_nonpos q q
        have n1 := n (w1 - v1)
        have n2 := n (w2 - v2)
        have e : (w1 - v1) * (w1 - v1) + (w2 - v2) * (w2 - v2) = w1 * w1 + w2 * w2 - 2 * (v1 * w1 + v2 * w2) + (v1 * v1 + v2 * v2) := by grind
        obtain ⟨s1, s2⟩ := sq0 (show (w1 - v1) * (w1 - v1) + (w2 - v2) * (w2 - v2) = 0 by omega)
        exact hne (Prod.ext (by dsimp only; omega) (by dsimp only; omega))
