/-! what both sides hold, in one picture: numbers, things, polygons, polynomials -/
abbrev aS : Type := (Nat × (Nat → Int × Int)) × (Nat × (Nat → Int) × (Nat → Nat → Int)) × (Nat × (Nat → Nat) × (Nat → Nat → Int × Int)) × (Nat × (Nat → Nat → Int))
def sN (S : aS) : Nat := S.1.1
def sNu (S : aS) (i : Nat) : Int × Int := S.1.2 i
def sT (S : aS) : Nat := S.2.1.1
def sTs (S : aS) (i : Nat) : Int := S.2.1.2.1 i
def sTp (S : aS) (i k : Nat) : Int := S.2.1.2.2 i k
def sG (S : aS) : Nat := S.2.2.1.1
def sGn (S : aS) (p : Nat) : Nat := S.2.2.1.2.1 p
def sGc (S : aS) (p i : Nat) : Int × Int := S.2.2.1.2.2 p i
def sPn (S : aS) : Nat := S.2.2.2.1
def sPc (S : aS) (a t : Nat) : Int := S.2.2.2.2 a t
def addN (S : aS) (p : Int × Int) : aS := ((sN S + 1, fun i => if i = sN S then p else sNu S i), S.2)
/-- the numbers are in lowest terms and small -/
def NuOk (p : Int × Int) : Prop := 0 < p.2 ∧ p.2 ≤ 1073741824 ∧ -1073741824 ≤ p.1 ∧ p.1 ≤ 1073741824 ∧ Int.gcd p.1 p.2 = 1
def OkN (S : aS) : Prop := sN S ≤ 200 ∧ ∀ i < sN S, NuOk (sNu S i)
def XN (V : Nat → Nat → Int) (c : Nat) (S : aS) : Prop := V (c + 3) 2 = sN S ∧ ∀ i < sN S, V (c + 4) i = (sNu S i).1 ∧ V (c + 5) i = (sNu S i).2
def MN (V : Nat → Nat → Int) (o : Nat) (S : aS) : Prop := V o 2 = sN S ∧ ∀ i < sN S, V (o + 2) i = (sNu S i).1 ∧ V (o + 3) i = (sNu S i).2
/-- a fraction brought down is kept, or there is no room -/
def keepN (S : aS) (p : Int × Int) : Int × aS := if smallF p = true ∧ sN S < 200 then ((sN S : Int), addN S p) else (-4, S)
def spF (S : aS) (n d : Int) : Int × aS := if badF n d = true then (-4, S) else keepN S (lowF n d)
theorem lowF_ok {n d : Int} (h0 : d ≠ 0) (hs : smallF (lowF n d) = true) : NuOk (lowF n d) := by
  rw [smallF_iff] at hs
  have hg := ed_low (n := n) h0
  have hb := lowF_b n h0
  have hgn : (Int.gcd n d : Int) ∣ n := Int.gcd_dvd_left n d
  have hgd : (Int.gcd n d : Int) ∣ d := Int.gcd_dvd_right n d
  have e1 : n.tdiv (Int.gcd n d) = n / (Int.gcd n d) := Int.tdiv_eq_ediv_of_dvd hgn
  have e2 : d.tdiv (Int.gcd n d) = d / (Int.gcd n d) := Int.tdiv_eq_ediv_of_dvd hgd
  have hne : d / (Int.gcd n d : Int) ≠ 0 := by
    intro q
    have := Int.ediv_mul_cancel hgd
    rw [q] at this
    omega
  have hco : Int.gcd (n / (Int.gcd n d : Int)) (d / (Int.gcd n d : Int)) = 1 := by
    refine Int.gcd_ediv_gcd_ediv_gcd ?_
    omega
  unfold NuOk
  have hz : (lowF n d).2 ≠ 0 := by
    unfold lowF
    rw [e1, e2]
    split <;> simp only [] <;> omega
  refine ⟨by omega, hs.2.2, hs.1, hs.2.1, ?_⟩
  unfold lowF
  rw [e1, e2]
  split
  · show Int.gcd (-(n / _)) (-(d / _)) = 1
    rw [Int.gcd_neg, Int.neg_gcd]
    exact hco
  · exact hco
theorem addN_ok {S : aS} (h : OkN S) {p : Int × Int} (hp : NuOk p) (h2 : sN S < 200) : OkN (addN S p) := by
  refine ⟨by show sN S + 1 ≤ 200; omega, fun i hi => ?_⟩
  have hi : i < sN S + 1 := hi
  show NuOk (if i = sN S then p else sNu S i)
  split
  · exact hp
  · exact h.2 i (by omega)
theorem keepN_ok {S : aS} (h : OkN S) {p : Int × Int} (hp : smallF p = true → NuOk p) : OkN (keepN S p).2 := by
  unfold keepN
  split
  · next q => exact addN_ok h (hp q.1) q.2
  · exact h
theorem spF_ok {S : aS} (h : OkN S) (n d : Int) : OkN (spF S n d).2 := by
  unfold spF
  cases q : badF n d with
  | true => rw [if_pos rfl]; exact h
  | false =>
    rw [if_neg (by decide)]
    have := badF_no q
    exact keepN_ok h fun hs => lowF_ok (by omega) hs
theorem XN.keep {V : Nat → Nat → Int} {c : Nat} {S : aS} (x : XN V c S) (p : Int × Int) : XN (xKeep c (sN S) V p) c (addN S p) := by
  refine ⟨by unfold xKeep; rw [vset_eq]; rfl, fun i hi => ?_⟩
  have hi : i < sN S + 1 := hi
  have e : sNu (addN S p) i = if i = sN S then p else sNu S i := rfl
  have e4 : xKeep c (sN S) V p (c + 4) i = vset V (c + 4) (sN S) p.1 (c + 4) i := by
    unfold xKeep
    rw [vset_ne _ _ _ _ (show ¬(c + 4 = c + 3 ∧ i = 2) by omega), vset_ne _ _ _ _ (show ¬(c + 4 = c + 5 ∧ i = sN S) by omega)]
  have e5 : xKeep c (sN S) V p (c + 5) i = vset (vset V (c + 4) (sN S) p.1) (c + 5) (sN S) p.2 (c + 5) i := by
    unfold xKeep
    rw [vset_ne _ _ _ _ (show ¬(c + 5 = c + 3 ∧ i = 2) by omega)]
  rw [e, e4, e5]
  by_cases q : i = sN S
  · rw [if_pos q, q, vset_eq, vset_eq]
    exact ⟨rfl, rfl⟩
  · rw [if_neg q, vset_ne _ _ _ _ (show ¬(c + 4 = c + 4 ∧ i = sN S) by omega), vset_ne _ _ _ _ (show ¬(c + 5 = c + 5 ∧ i = sN S) by omega), vset_ne _ _ _ _ (show ¬(c + 5 = c + 4 ∧ i = sN S) by omega)]
    exact x.2 i (by omega)
theorem XN.low {V : Nat → Nat → Int} {c : Nat} {S : aS} (x : XN V c S) (n d : Int) : XN (xLow c V n d) c S := by
  unfold xLow
  refine ⟨by rw [vset_ne _ _ _ _ (by omega), vset_ne _ _ _ _ (by omega)]; exact x.1, fun i hi => ?_⟩
  rw [vset_ne _ _ _ _ (by omega), vset_ne _ _ _ _ (by omega), vset_ne _ _ _ _ (by omega), vset_ne _ _ _ _ (by omega)]
  exact x.2 i hi
def FN (V V1 : Nat → Nat → Int) (c : Nat) : Prop := ∀ a, a ≠ c + 3 → a ≠ c + 4 → a ≠ c + 5 → V1 a = V a
theorem x_keepS {w : aW} {d : Nat} (hd : 4 ≤ d) {h : aH} {c : Nat} (cs : CS h c) (V : Nat → Nat → Int) {S : aS} (x : XN V c S) (ok : OkN S) (n d1 : Int) (hn : -9223372036854775808 ≤ n ∧ n < 9223372036854775808) (hd1 : -9223372036854775808 ≤ d1 ∧ d1 < 9223372036854775808) :
    WP w d 25 [aO (some (c + 3)), aJ n, aJ d1] (hw h V) (RI (fun r h1 => ∃ V1, h1 = hw h V1 ∧ XN V1 c (spF S n d1).2 ∧ FN V V1 c ∧ r = (spF S n d1).1)) := by
  refine (x_keep hd cs V (sN S) x.1 ok.1 n d1 hn hd1).imp ?_
  rintro _ h1 ⟨r, rfl, q⟩
  refine ⟨r, rfl, ?_⟩
  have fl : FN V (xLow c V n d1) c := fun a h1 h2 h3 => by
    funext j
    unfold xLow
    rw [vset_ne _ _ _ _ (by omega), vset_ne _ _ _ _ (by omega)]
  unfold spF
  cases hb : badF n d1 with
  | true =>
    rw [hb, if_pos rfl] at q
    rw [if_pos rfl]
    exact ⟨V, q.1, x, fun _ _ _ _ => rfl, q.2⟩
  | false =>
    rw [hb, if_neg (by decide)] at q
    rw [if_neg (by decide)]
    unfold keepN
    by_cases hs : smallF (lowF n d1) = true ∧ sN S < 200
    · rw [if_pos hs] at q ⊢
      refine ⟨_, q.1, (x.low n d1).keep _, fun a h1 h2 h3 => ?_, q.2⟩
      rw [← fl a h1 h2 h3]
      funext j
      unfold xKeep
      rw [vset_ne _ _ _ _ (by omega), vset_ne _ _ _ _ (by omega), vset_ne _ _ _ _ (by omega)]
    · rw [if_neg hs] at q ⊢
      exact ⟨_, q.1, x.low n d1, fl, q.2⟩
