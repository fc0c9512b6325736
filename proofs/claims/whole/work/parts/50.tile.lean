/-! laying boards: what both sides count -/
def gb (n : Int) (i : Nat) : Bool := decide (n / 2 ^ i % 2 = 1)
def tout (w l : Nat) (n : Int) (x y : Nat) : Bool := decide (w ≤ x) || (decide (l ≤ y) || gb n (8 * y + x))
def vup (v : Nat → Nat) (x e : Nat) : Nat → Nat := fun j => if j = x then e else v j
def vlay (v : Nat → Nat) (x S : Nat) : Nat → Nat := fun j => if x < j ∧ j < x + S then 1 else v j
def troom (S w l : Nat) (n : Int) (x y : Nat) : Prop := ∀ i, 1 ≤ i → i < S → tout w l n x (y + i) = false
def tacr (S w l : Nat) (n : Int) (v : Nat → Nat) (x y : Nat) : Prop := ∀ i, 1 ≤ i → i < S → tout w l n (x + i) y = false ∧ v (x + i) = 0
section TF
variable (S w l : Nat) (n : Int)
noncomputable def tF : Nat → Nat → (Nat → Nat) → Int
  | 0, _, v => haveI := Classical.propDecidable (∀ j < w, v j = 0); if ∀ j < w, v j = 0 then 1 else 0
  | k + 1, c, v =>
    haveI := Classical.propDecidable (troom S w l n (c % w) (c / w)); haveI := Classical.propDecidable (tacr S w l n v (c % w) (c / w))
    if 0 < v (c % w) then tF k (c + 1) (vup v (c % w) (v (c % w) - 1))
    else if tout w l n (c % w) (c / w) = true then tF k (c + 1) v
    else (if troom S w l n (c % w) (c / w) then tF k (c + 1) (vup v (c % w) (S - 1)) else 0) + (if tacr S w l n v (c % w) (c / w) then tF k (c + 1) (vlay v (c % w) S) else 0)
noncomputable def tG : Nat → Nat → (Nat → Nat) → Int
  | 0, _, v => haveI := Classical.propDecidable (∀ j < w, v j = 0); if ∀ j < w, v j = 0 then 1 else 0
  | k + 1, c, v =>
    haveI := Classical.propDecidable (tacr S w l n v (c % w) (c / w))
    if gb n (8 * (c / w) + c % w) = true then (if v (c % w) = 0 then tG k (c + 1) v else 0)
    else if 0 < v (c % w) then tG k (c + 1) (vup v (c % w) (v (c % w) - 1))
    else (if c / w + S ≤ l then tG k (c + 1) (vup v (c % w) (S - 1)) else 0) + (if tacr S w l n v (c % w) (c / w) then tG k (c + 1) (vlay v (c % w) S) else 0)
theorem tF_congr (hw : 0 < w) : ∀ k c (v u : Nat → Nat), (∀ j < w, v j = u j) → tF S w l n k c v = tF S w l n k c u := by
  intro k
  induction k with
  | zero =>
    intro c v u h
    have e : (∀ j < w, v j = 0) = (∀ j < w, u j = 0) := by
      apply propext
      exact ⟨fun q j hj => by rw [← h j hj]; exact q j hj, fun q j hj => by rw [h j hj]; exact q j hj⟩
    unfold tF
    by_cases q : ∀ j < w, u j = 0
    · rw [if_pos q, if_pos (by rw [e]; exact q)]
    · rw [if_neg q, if_neg (by rw [e]; exact q)]
  | succ k ih =>
    intro c v u h
    have hx : c % w < w := Nat.mod_lt c hw
    have e1 := h _ hx
    have e2 : tacr S w l n v (c % w) (c / w) = tacr S w l n u (c % w) (c / w) := by
      apply propext
      have key : ∀ v u : Nat → Nat, (∀ j < w, v j = u j) → tacr S w l n v (c % w) (c / w) → tacr S w l n u (c % w) (c / w) := by
        intro v u h q i h1 h2
        obtain ⟨q1, q2⟩ := q i h1 h2
        refine ⟨q1, ?_⟩
        unfold tout at q1
        simp only [Bool.or_eq_false_iff, decide_eq_false_iff_not] at q1
        rw [← h _ (by omega)]
        exact q2
      exact ⟨key v u h, key u v fun j hj => (h j hj).symm⟩
    have up : ∀ e, tF S w l n k (c + 1) (vup v (c % w) e) = tF S w l n k (c + 1) (vup u (c % w) e) := fun e => ih _ _ _ fun j hj => by unfold vup; rw [h j hj]
    have e4 : tF S w l n k (c + 1) (vlay v (c % w) S) = tF S w l n k (c + 1) (vlay u (c % w) S) := ih _ _ _ fun j hj => by unfold vlay; rw [h j hj]
    have e5 := ih (c + 1) v u h
    unfold tF
    rw [e1, e4, e5, up, up]
    by_cases q : tacr S w l n u (c % w) (c / w)
    · rw [if_pos q, if_pos (show tacr S w l n v (c % w) (c / w) by rw [e2]; exact q)]
    · rw [if_neg q, if_neg (show ¬tacr S w l n v (c % w) (c / w) by rw [e2]; exact q)]
theorem tG_congr (hw : 0 < w) : ∀ k c (v u : Nat → Nat), (∀ j < w, v j = u j) → tG S w l n k c v = tG S w l n k c u := by
  intro k
  induction k with
  | zero =>
    intro c v u h
    have e : (∀ j < w, v j = 0) = (∀ j < w, u j = 0) := by
      apply propext
      exact ⟨fun q j hj => by rw [← h j hj]; exact q j hj, fun q j hj => by rw [h j hj]; exact q j hj⟩
    unfold tG
    by_cases q : ∀ j < w, u j = 0
    · rw [if_pos q, if_pos (by rw [e]; exact q)]
    · rw [if_neg q, if_neg (by rw [e]; exact q)]
  | succ k ih =>
    intro c v u h
    have hx : c % w < w := Nat.mod_lt c hw
    have e1 := h _ hx
    have e2 : tacr S w l n v (c % w) (c / w) = tacr S w l n u (c % w) (c / w) := by
      apply propext
      have key : ∀ v u : Nat → Nat, (∀ j < w, v j = u j) → tacr S w l n v (c % w) (c / w) → tacr S w l n u (c % w) (c / w) := by
        intro v u h q i h1 h2
        obtain ⟨q1, q2⟩ := q i h1 h2
        refine ⟨q1, ?_⟩
        unfold tout at q1
        simp only [Bool.or_eq_false_iff, decide_eq_false_iff_not] at q1
        rw [← h _ (by omega)]
        exact q2
      exact ⟨key v u h, key u v fun j hj => (h j hj).symm⟩
    have up : ∀ e, tG S w l n k (c + 1) (vup v (c % w) e) = tG S w l n k (c + 1) (vup u (c % w) e) := fun e => ih _ _ _ fun j hj => by unfold vup; rw [h j hj]
    have e4 : tG S w l n k (c + 1) (vlay v (c % w) S) = tG S w l n k (c + 1) (vlay u (c % w) S) := ih _ _ _ fun j hj => by unfold vlay; rw [h j hj]
    have e5 := ih (c + 1) v u h
    unfold tG
    rw [e1, e4, e5, up, up]
    by_cases q : tacr S w l n u (c % w) (c / w)
    · rw [if_pos q, if_pos (show tacr S w l n v (c % w) (c / w) by rw [e2]; exact q)]
    · rw [if_neg q, if_neg (show ¬tacr S w l n v (c % w) (c / w) by rw [e2]; exact q)]
/-- the row of the next cell of column j -/
def trow (c j : Nat) : Nat := if j < c % w then c / w + 1 else c / w
theorem trow_next (hw : 0 < w) (c : Nat) {j : Nat} (hj : j < w) : trow w (c + 1) j = if j = c % w then c / w + 1 else trow w c j := by
  have hx : c % w < w := Nat.mod_lt c hw
  have e := Nat.div_add_mod c w
  have h2 : (c + 1) % w = (if c % w + 1 = w then 0 else c % w + 1) ∧ (c + 1) / w = (if c % w + 1 = w then c / w + 1 else c / w) := by
    have e3 : c + 1 = w * (c / w) + (c % w + 1) := by omega
    split
    · next hq =>
      have e4 : c + 1 = w * (c / w + 1) := by rw [Nat.mul_add, Nat.mul_one]; omega
      rw [e4]
      exact ⟨Nat.mul_mod_right _ _, Nat.mul_div_cancel_left _ hw⟩
    · next hq =>
      refine ⟨?_, ?_⟩
      · rw [e3, Nat.mul_add_mod, Nat.mod_eq_of_lt (by omega)]
      · rw [e3, Nat.mul_add_div hw, Nat.div_eq_of_lt (show c % w + 1 < w by omega), Nat.add_zero]
  unfold trow
  rw [h2.1, h2.2]
  split <;> split <;> (try split) <;> (try split) <;> omega
def Dm (c : Nat) (v : Nat → Nat) : Prop := ∃ j, j < w ∧ ∃ i, i < v j ∧ gb n (8 * (trow w c j + i) + j) = true
theorem tG_eq (hw : 0 < w) (hS : 1 ≤ S) : ∀ k c v, k + c = w * l → (∀ j < w, trow w c j + v j ≤ l) → (Dm w n c v → tG S w l n k c v = 0) ∧ (¬Dm w n c v → tG S w l n k c v = tF S w l n k c v) := by
  intro k
  induction k with
  | zero =>
    intro c v hc hv
    have hc : c = w * l := by omega
    have h0 : ∀ j < w, v j = 0 := fun j hj => by
      have := hv j hj
      unfold trow at this
      rw [hc, Nat.mul_mod_right, Nat.mul_div_cancel_left _ hw] at this
      split at this <;> omega
    refine ⟨fun ⟨j, hj, i, hi, _⟩ => absurd (h0 j hj) (by omega), fun _ => ?_⟩
    unfold tG tF
    rw [if_pos h0]
  | succ k ih =>
    intro c v hc hv
    have hx : c % w < w := Nat.mod_lt c hw
    have hy : c / w < l := by
      rw [Nat.div_lt_iff_lt_mul hw, Nat.mul_comm]; omega
    have rn := fun {j : Nat} (hj : j < w) => trow_next w hw c hj
    have rx : trow w c (c % w) = c / w := by unfold trow; rw [if_neg (by omega)]
    have hvx := hv _ hx
    rw [rx] at hvx
    have hk : k + (c + 1) = w * l := by omega
    by_cases hd : 0 < v (c % w)
    · by_cases hg : gb n (8 * (c / w) + c % w) = true
      · have hD : Dm w n c v := ⟨_, hx, 0, hd, by rw [rx, Nat.add_zero]; exact hg⟩
        refine ⟨fun _ => ?_, fun u => absurd hD u⟩
        unfold tG
        rw [if_pos hg, if_neg (by omega)]
      · have hval : ∀ j < w, trow w (c + 1) j + vup v (c % w) (v (c % w) - 1) j ≤ l := fun j hj => by
          rw [rn hj]
          unfold vup
          split
          · omega
          · exact hv j hj
        have hDD : Dm w n (c + 1) (vup v (c % w) (v (c % w) - 1)) ↔ Dm w n c v := by
          constructor
          · rintro ⟨j, hj, i, hi, hb⟩
            rw [rn hj] at hb
            unfold vup at hi
            split at hb
            · next e =>
              rw [if_pos e] at hi
              refine ⟨j, hj, i + 1, by rw [e]; omega, ?_⟩
              rw [e] at hb ⊢
              rw [rx, show c / w + (i + 1) = c / w + 1 + i by omega]
              exact hb
            · next e =>
              rw [if_neg e] at hi
              exact ⟨j, hj, i, hi, hb⟩
          · rintro ⟨j, hj, i, hi, hb⟩
            by_cases e : j = c % w
            · subst e
              rw [rx] at hb
              cases i with
              | zero => exact absurd hb hg
              | succ i =>
                refine ⟨_, hj, i, by unfold vup; rw [if_pos rfl]; omega, ?_⟩
                rw [rn hj, if_pos rfl, show c / w + 1 + i = c / w + (i + 1) by omega]
                exact hb
            · exact ⟨j, hj, i, by unfold vup; rw [if_neg e]; exact hi, by rw [rn hj, if_neg e]; exact hb⟩
        obtain ⟨i1, i2⟩ := ih (c + 1) _ hk hval
        rw [hDD] at i1 i2
        have eG : tG S w l n (k + 1) c v = tG S w l n k (c + 1) (vup v (c % w) (v (c % w) - 1)) := by
          rw [tG, if_neg hg, if_pos hd]
        have eF : tF S w l n (k + 1) c v = tF S w l n k (c + 1) (vup v (c % w) (v (c % w) - 1)) := by
          rw [tF, if_pos hd]
        rw [eG, eF]
        exact ⟨i1, i2⟩
    · have hvx0 : v (c % w) = 0 := by omega
      have hval : ∀ j < w, trow w (c + 1) j + v j ≤ l := fun j hj => by
        rw [rn hj]
        split
        · next e => rw [e, hvx0]; omega
        · exact hv j hj
      have hDD : Dm w n (c + 1) v ↔ Dm w n c v := by
        constructor
        · rintro ⟨j, hj, i, hi, hb⟩
          rw [rn hj, if_neg (fun e => by rw [e, hvx0] at hi; omega)] at hb
          exact ⟨j, hj, i, hi, hb⟩
        · rintro ⟨j, hj, i, hi, hb⟩
          refine ⟨j, hj, i, hi, ?_⟩
          rw [rn hj, if_neg (fun e => by rw [e, hvx0] at hi; omega)]
          exact hb
      by_cases hg : gb n (8 * (c / w) + c % w) = true
      · have eo : tout w l n (c % w) (c / w) = true := by unfold tout; rw [hg]; simp
        have eG : tG S w l n (k + 1) c v = tG S w l n k (c + 1) v := by rw [tG, if_pos hg, if_pos hvx0]
        have eF : tF S w l n (k + 1) c v = tF S w l n k (c + 1) v := by rw [tF, if_neg hd, if_pos eo]
        rw [eG, eF, ← hDD]
        exact ih (c + 1) v hk hval
      · have hgf : gb n (8 * (c / w) + c % w) = false := by simpa using hg
        have eo : tout w l n (c % w) (c / w) = false := by unfold tout; rw [hgf]; simp; omega
        rw [tG, if_neg hg, if_neg hd, tF, if_neg hd, if_neg (show ¬ tout w l n (c % w) (c / w) = true by rw [eo]; decide)]
        have hup : c / w + S ≤ l → ∀ j < w, trow w (c + 1) j + vup v (c % w) (S - 1) j ≤ l := fun hl j hj => by
          rw [rn hj]
          unfold vup
          split
          · omega
          · exact hv j hj
        have hUD : Dm w n (c + 1) (vup v (c % w) (S - 1)) ↔ Dm w n c v ∨ ∃ i, i < S - 1 ∧ gb n (8 * (c / w + 1 + i) + c % w) = true := by
          constructor
          · rintro ⟨j, hj, i, hi, hb⟩
            rw [rn hj] at hb
            unfold vup at hi
            split at hb
            · next e =>
              rw [if_pos e] at hi
              rw [e] at hb
              exact Or.inr ⟨i, hi, hb⟩
            · next e =>
              rw [if_neg e] at hi
              exact Or.inl ⟨j, hj, i, hi, hb⟩
          · rintro (⟨j, hj, i, hi, hb⟩ | ⟨i, hi, hb⟩)
            · have e : j ≠ c % w := fun e => by rw [e, hvx0] at hi; omega
              exact ⟨j, hj, i, by unfold vup; rw [if_neg e]; exact hi, by rw [rn hj, if_neg e]; exact hb⟩
            · exact ⟨_, hx, i, by unfold vup; rw [if_pos rfl]; exact hi, by rw [rn hx, if_pos rfl]; exact hb⟩
        have hroom : troom S w l n (c % w) (c / w) ↔ c / w + S ≤ l ∧ ¬∃ i, i < S - 1 ∧ gb n (8 * (c / w + 1 + i) + c % w) = true := by
          unfold troom tout
          constructor
          · intro q
            refine ⟨?_, fun ⟨i, hi, hb⟩ => ?_⟩
            · by_cases h1 : S = 1
              · omega
              · have := q (S - 1) (by omega) (by omega)
                simp only [Bool.or_eq_false_iff, decide_eq_false_iff_not] at this
                omega
            · have := q (i + 1) (by omega) (by omega)
              simp only [Bool.or_eq_false_iff, decide_eq_false_iff_not] at this
              rw [show c / w + (i + 1) = c / w + 1 + i by omega, hb] at this
              exact absurd this.2.2 (by decide)
          · rintro ⟨q1, q2⟩ i h1 h2
            simp only [Bool.or_eq_false_iff, decide_eq_false_iff_not]
            refine ⟨by omega, by omega, ?_⟩
            cases e : gb n (8 * (c / w + i) + c % w) with
            | false => rfl
            | true => exact absurd ⟨i - 1, by omega, by rw [show c / w + 1 + (i - 1) = c / w + i by omega]; exact e⟩ q2
        have hlv : tacr S w l n v (c % w) (c / w) → ∀ j < w, trow w (c + 1) j + vlay v (c % w) S j ≤ l := fun q j hj => by
          unfold vlay
          split
          · next e =>
            rw [rn hj, if_neg (by omega)]
            unfold trow
            rw [if_neg (by omega)]
            omega
          · exact hval j hj
        have hLD : tacr S w l n v (c % w) (c / w) → (Dm w n (c + 1) (vlay v (c % w) S) ↔ Dm w n c v) := fun q => by
          constructor
          · rintro ⟨j, hj, i, hi, hb⟩
            unfold vlay at hi
            split at hi
            · next e =>
              exfalso
              obtain ⟨q1, -⟩ := q (j - c % w) (by omega) (by omega)
              rw [rn hj, if_neg (by omega)] at hb
              unfold trow at hb
              rw [if_neg (by omega)] at hb
              have hi0 : i = 0 := by omega
              rw [hi0, Nat.add_zero] at hb
              unfold tout at q1
              simp only [Bool.or_eq_false_iff, decide_eq_false_iff_not] at q1
              rw [show c % w + (j - c % w) = j by omega, hb] at q1
              exact absurd q1.2.2 (by decide)
            · exact hDD.mp ⟨j, hj, i, hi, hb⟩
          · intro hD
            obtain ⟨j, hj, i, hi, hb⟩ := hDD.mpr hD
            refine ⟨j, hj, i, ?_, hb⟩
            unfold vlay
            split
            · next e =>
              obtain ⟨-, q2⟩ := q (j - c % w) (by omega) (by omega)
              rw [show c % w + (j - c % w) = j by omega] at q2
              omega
            · exact hi
        constructor
        · intro hD
          have a1 : (if c / w + S ≤ l then tG S w l n k (c + 1) (vup v (c % w) (S - 1)) else 0) = 0 := by
            split
            · next hl => exact (ih (c + 1) _ hk (hup hl)).1 (hUD.mpr (Or.inl hD))
            · rfl
          rw [a1]
          split
          · next q => rw [(ih (c + 1) _ hk (hlv q)).1 ((hLD q).mpr hD)]; rfl
          · rfl
        · intro hD
          congr 1
          · by_cases hr : troom S w l n (c % w) (c / w)
            · have h2 := hroom.mp hr
              rw [if_pos h2.1, if_pos hr]
              exact (ih (c + 1) _ hk (hup h2.1)).2 (fun u => (hUD.mp u).elim hD h2.2)
            · rw [if_neg hr]
              split
              · next hl =>
                refine (ih (c + 1) _ hk (hup hl)).1 (hUD.mpr (Or.inr ?_))
                exact Classical.byContradiction fun u => hr (hroom.mpr ⟨hl, u⟩)
              · rfl
          · split
            · next q => exact (ih (c + 1) _ hk (hlv q)).2 (fun u => hD ((hLD q).mp u))
            · rfl
/-- from the start on, both count the same -/
theorem tG_start (hw : 0 < w) (hS : 1 ≤ S) : tG S w l n (w * l) 0 (fun _ => 0) = tF S w l n (w * l) 0 (fun _ => 0) :=
  (tG_eq S w l n hw hS (w * l) 0 (fun _ => 0) (by omega) (fun j hj => by unfold trow; rw [if_neg (by rw [Nat.zero_mod]; omega), Nat.zero_div]; omega)).2 (fun ⟨j, hj, i, hi, _⟩ => absurd (show i < 0 from hi) (by omega))
end TF
/-! sums -/
def sm (n : Nat) (f : Nat → Int) : Int := match n with
  | 0 => 0
  | n + 1 => sm n f + f n
theorem sm_congr {n : Nat} {f g : Nat → Int} (h : ∀ i < n, f i = g i) : sm n f = sm n g := by
  induction n with
  | zero => rfl
  | succ n ih => unfold sm; rw [ih fun i hi => h i (by omega), h n (by omega)]
theorem sm_zero {n : Nat} {f : Nat → Int} (h : ∀ i < n, f i = 0) : sm n f = 0 := by
  induction n with
  | zero => rfl
  | succ n ih => unfold sm; rw [ih fun i hi => h i (by omega), h n (by omega)]; rfl
theorem sm_upd {n t : Nat} (ht : t < n) (f g : Nat → Int) (h : ∀ i, i ≠ t → g i = f i) : sm n g = sm n f + (g t - f t) := by
  induction n with
  | zero => omega
  | succ n ih =>
    unfold sm
    by_cases e : t = n
    · subst e
      rw [sm_congr (f := g) (g := f) fun i hi => h i (by omega)]
      omega
    · rw [ih (by omega), h n (fun q => e q.symm)]
      omega
theorem sm_one {n t : Nat} (ht : t < n) {f : Nat → Int} (h : ∀ i < n, i ≠ t → f i = 0) : sm n f = f t := by
  induction n with
  | zero => omega
  | succ n ih =>
    unfold sm
    by_cases e : t = n
    · subst e
      rw [sm_zero fun i hi => h i (by omega) (by omega)]
      omega
    · rw [ih (by omega) fun i hi => h i (by omega), h n (by omega) (fun q => e q.symm)]
      omega
def cg (x y : Int) : Prop := ∃ k : Int, x = y + 18446744073709551616 * k
theorem cg.rfl2 (x : Int) : cg x x := ⟨0, by omega⟩
theorem cg.trans {x y z : Int} (h : cg x y) (g : cg y z) : cg x z := by
  obtain ⟨a, rfl⟩ := h
  obtain ⟨b, rfl⟩ := g
  exact ⟨a + b, by omega⟩
theorem cg.symm {x y : Int} (h : cg x y) : cg y x := by
  obtain ⟨a, rfl⟩ := h
  exact ⟨-a, by omega⟩
theorem cg.add {x y z u : Int} (h : cg x y) (g : cg z u) : cg (x + z) (y + u) := by
  obtain ⟨a, rfl⟩ := h
  obtain ⟨b, rfl⟩ := g
  exact ⟨a + b, by omega⟩
theorem cg.mul {x y : Int} (h : cg x y) (z : Int) : cg (x * z) (y * z) := by
  obtain ⟨a, rfl⟩ := h
  exact ⟨a * z, by rw [Int.add_mul, Int.mul_assoc]⟩
theorem cg_w64 (x : Int) : cg (w64 x) x := by
  unfold w64
  exact ⟨-((x + 9223372036854775808) / 18446744073709551616), by omega⟩
theorem cg_r64 {x y : Int} (h : cg x y) (hx : r64 x) : x = w64 y := by
  obtain ⟨a, rfl⟩ := h
  unfold w64
  unfold r64 at hx
  omega
theorem r64_w64 (x : Int) : r64 (w64 x) := by unfold r64 w64; omega
theorem sm_add_cg {n t : Nat} (ht : t < n) {A B F : Nat → Int} {b T : Int} (hB : ∀ i, i ≠ t → B i = A i) (ht2 : cg (B t) (A t + b)) (h : cg (sm n fun i => A i * F i) T) : cg (sm n fun i => B i * F i) (T + b * F t) := by
  have e := sm_upd ht (fun i => A i * F i) (fun i => B i * F i) (fun i hi => by show B i * F i = A i * F i; rw [hB i hi])
  rw [e]
  refine cg.add h ?_
  have h2 := ht2.mul (F t)
  obtain ⟨k, hk⟩ := h2
  refine ⟨k, ?_⟩
  show B t * F t - A t * F t = _
  rw [hk, Int.add_mul]
  omega
/-! digits -/
theorem dg_add {S p e s j : Nat} (hS : 0 < S) (h : s / S ^ p % S + e < S) : (s + e * S ^ p) / S ^ j % S = if j = p then s / S ^ p % S + e else s / S ^ j % S := by
  have hp : 0 < S ^ p := Nat.pow_pos hS
  have e1 : (s + e * S ^ p) / S ^ p = s / S ^ p + e := by rw [Nat.add_mul_div_right _ _ hp]
  split
  · next q =>
    subst q
    rw [e1, Nat.add_mod, Nat.mod_eq_of_lt (show e < S by omega), Nat.mod_eq_of_lt h]
  · next q =>
    rcases Nat.lt_or_ge j p with hj | hj
    · have e2 : S ^ p = S ^ j * (S * S ^ (p - j - 1)) := by
        rw [← Nat.pow_succ', ← Nat.pow_add]
        congr 1
        omega
      have e3 : s + e * S ^ p = s + S ^ j * (S * (e * S ^ (p - j - 1))) := by
        rw [e2]
        congr 1
        ac_rfl
      rw [e3, Nat.add_mul_div_left _ _ (Nat.pow_pos hS), Nat.add_mul_mod_self_left]
    · have e2 : S ^ j = S ^ p * S * S ^ (j - p - 1) := by
        rw [← Nat.pow_succ, ← Nat.pow_add]
        congr 1
        omega
      have e4 : (s / S ^ p + e) / S = s / S ^ p / S := by
        have h1 := Nat.div_add_mod (s / S ^ p) S
        rw [show s / S ^ p + e = S * (s / S ^ p / S) + (s / S ^ p % S + e) by omega, Nat.mul_add_div hS, Nat.div_eq_of_lt h, Nat.add_zero]
      rw [e2, ← Nat.div_div_eq_div_mul, ← Nat.div_div_eq_div_mul, e1, e4, ← Nat.div_div_eq_div_mul, ← Nat.div_div_eq_div_mul]
theorem dg_sub {S p s j : Nat} (hS : 0 < S) (h : 0 < s / S ^ p % S) : S ^ p ≤ s ∧ (s - S ^ p) / S ^ j % S = if j = p then s / S ^ p % S - 1 else s / S ^ j % S := by
  have hp : 0 < S ^ p := Nat.pow_pos hS
  have h1 := Nat.div_add_mod (s / S ^ p) S
  have h2 : 1 ≤ s / S ^ p := by
    rcases Nat.eq_zero_or_pos (s / S ^ p) with q | q
    · rw [q, Nat.zero_mod] at h; omega
    · exact q
  have h3 : S ^ p ≤ s := by
    have := Nat.div_mul_le_self s (S ^ p)
    have := Nat.mul_le_mul_right (S ^ p) h2
    omega
  refine ⟨h3, ?_⟩
  have hm := Nat.mod_lt (s / S ^ p) hS
  have e1 : (s - S ^ p) / S ^ p = s / S ^ p - 1 := by
    have := Nat.sub_mul_div_of_le s (S ^ p) 1 (by omega)
    rw [Nat.mul_one] at this
    exact this
  have e2 : (s - S ^ p) / S ^ p % S = s / S ^ p % S - 1 := by
    rw [e1, show s / S ^ p - 1 = S * (s / S ^ p / S) + (s / S ^ p % S - 1) by omega, Nat.mul_add_mod, Nat.mod_eq_of_lt (by omega)]
  have e3 := dg_add (S := S) (p := p) (e := 1) (s := s - S ^ p) (j := j) hS (by rw [e2]; omega)
  rw [Nat.one_mul, Nat.sub_add_cancel h3] at e3
  split
  · next q => rw [q]; exact e2
  · next q => rw [if_neg q] at e3; exact e3.symm
theorem dg_zero {S w s : Nat} (hs : s < S ^ w) (h : ∀ j < w, s / S ^ j % S = 0) : s = 0 := by
  induction w generalizing s with
  | zero => simpa using hs
  | succ w ih =>
    have hS : 0 < S := by
      rcases Nat.eq_zero_or_pos S with q | q
      · rw [q, Nat.zero_pow (by omega)] at hs; omega
      · exact q
    have h0 := h 0 (by omega)
    rw [Nat.pow_zero, Nat.div_one] at h0
    have h1 : s / S = 0 := ih (by rw [Nat.div_lt_iff_lt_mul hS, ← Nat.pow_succ]; exact hs) (fun j hj => by
      have := h (j + 1) (by omega)
      rw [Nat.pow_succ', ← Nat.div_div_eq_div_mul] at this
      exact this)
    have := Nat.div_add_mod s S
    rw [h0, h1] at this
    simpa using this.symm
