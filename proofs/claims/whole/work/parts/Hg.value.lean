/-! value on both sides: printed by wip/whole/hv_.py -/
def stO (n d : Int) : Option (Int × Int) := if smallF (lowF n d) = true then some (lowF n d) else none
def mulO (x : Int × Int) : Nat → Option (Int × Int) → Option (Int × Int)
  | 0, u => u
  | k + 1, u => (mulO x k u).bind (fun p => stO (p.1 * x.1) (p.2 * x.2))
def valM (x y z : Int × Int) (v : Int) (i j k : Nat) : Option (Int × Int) := mulO z k (mulO y j (mulO x i (some (v, 1))))
def valT (x y z : Int × Int) (v : Int) (i j k : Nat) (u : Option (Int × Int)) : Option (Int × Int) := if v = 0 then u else u.bind (fun p => (valM x y z v i j k).bind (fun q => stO (p.1 * q.2 + q.1 * p.2) (p.2 * q.2)))
def valX (f : Nat → Int) (x y z : Int × Int) : Nat → Option (Int × Int) := fun n => itN (fun t u => valT x y z (f t) (pE t).1 (pE t).2.1 (pE t).2.2 u) n (some (0, 1))
def valY (f : Nat → Int) (x y z : Int × Int) : Nat → Option (Int × Int) := fun n => itN (fun t u => valT x y z (f t) (t / 121) (t / 11 % 11) (t % 11) u) n (some (0, 1))
theorem val_same {F f : Nat → Int} {x y z : Int × Int} (h : BigR F f) : valY F x y z 1331 = valX f x y z 286 := by
  unfold valY valX
  rw [it_all (fun s hs hg u => by show valT x y z (F s) _ _ _ u = u; rw [h.z hs hg]; exact if_pos rfl)]
  refine itN_co 286 (fun t ht u => ?_)
  try dsimp only
  rw [h.c ht, (pD_C ht).1, (pD_C ht).2.1, (pD_C ht).2.2]
theorem valT_none {x y z : Int × Int} {v : Int} {i j k : Nat} : valT x y z v i j k none = none := by
  unfold valT
  split <;> rfl
theorem valX_none {f : Nat → Int} {x y z : Int × Int} {n : Nat} (h : valX f x y z n = none) : ∀ j, valX f x y z (n + j) = none := by
  intro j
  induction j with
  | zero => exact h
  | succ j ih =>
    show valT x y z (f (n + j)) _ _ _ (valX f x y z (n + j)) = none
    rw [ih]
    exact valT_none
theorem valY_none {f : Nat → Int} {x y z : Int × Int} {n : Nat} (h : valY f x y z n = none) : ∀ j, valY f x y z (n + j) = none := by
  intro j
  induction j with
  | zero => exact h
  | succ j ih =>
    show valT x y z (f (n + j)) _ _ _ (valY f x y z (n + j)) = none
    rw [ih]
    exact valT_none
theorem mulO_none {x : Int × Int} {n : Nat} {u : Option (Int × Int)} (h : mulO x n u = none) : ∀ j, mulO x (n + j) u = none := by
  intro j
  induction j with
  | zero => exact h
  | succ j ih =>
    show (mulO x (n + j) u).bind _ = none
    rw [ih]
    rfl
theorem mulO_u {x : Int × Int} : ∀ k, mulO x k none = none := by
  intro k
  have h : mulO x 0 none = none := rfl
  have := mulO_none h k
  rw [Nat.zero_add] at this
  exact this
/-- within bounds -/
def BQ (p : Int × Int) : Prop := 0 < p.2 ∧ p.2 ≤ 1073741824 ∧ -1073741824 ≤ p.1 ∧ p.1 ≤ 1073741824
theorem stO_some {n d : Int} {p : Int × Int} (h0 : d ≠ 0) (h : stO n d = some p) : NuOk p ∧ p = lowF n d ∧ smallF (lowF n d) = true := by
  unfold stO at h
  split at h
  · next q =>
    cases h
    exact ⟨lowF_ok h0 q, rfl, q⟩
  · cases h
theorem stO_1 {n d : Int} (h : smallF (lowF n d) = true) : stO n d = some (lowF n d) := if_pos h
theorem stO_0 {n d : Int} (h : ¬ smallF (lowF n d) = true) : stO n d = none := if_neg h
theorem lowF_1v (v : Int) : lowF v 1 = (v, 1) := by
  unfold lowF
  rw [if_neg (by omega), Int.gcd_one]
  show (v.tdiv 1, (1 : Int).tdiv 1) = (v, 1)
  rw [Int.tdiv_one]
  rfl
theorem sm_1 {v : Int} (h : -67108864 ≤ v ∧ v ≤ 67108864) : smallF (lowF v 1) = true := by
  rw [lowF_1v, smallF_iff]
  dsimp only
  omega
theorem bq_1 {v : Int} (h : -67108864 ≤ v ∧ v ≤ 67108864) : BQ (v, 1) := by
  unfold BQ
  dsimp only
  omega
theorem NuOk.bq {p : Int × Int} (h : NuOk p) : BQ p := ⟨h.1, h.2.1, h.2.2.1, h.2.2.2.1⟩
theorem bq_mul {p x : Int × Int} (hp : BQ p) (hx : BQ x) : (-1152921504606846976 ≤ p.1 * x.1 ∧ p.1 * x.1 ≤ 1152921504606846976) ∧ 0 < p.2 * x.2 ∧ p.2 * x.2 ≤ 1152921504606846976 := by
  obtain ⟨a1, a2, a3, a4⟩ := hp
  obtain ⟨b1, b2, b3, b4⟩ := hx
  exact ⟨mulB a3 a4 b3 b4, Int.mul_pos a1 b1, (mulB (by omega) a2 (by omega) b2).2⟩
theorem bq_add {p q : Int × Int} (hp : BQ p) (hq : BQ q) : (-1152921504606846976 ≤ p.1 * q.2 ∧ p.1 * q.2 ≤ 1152921504606846976) ∧ (-1152921504606846976 ≤ q.1 * p.2 ∧ q.1 * p.2 ≤ 1152921504606846976) ∧ 0 < p.2 * q.2 ∧ p.2 * q.2 ≤ 1152921504606846976 := by
  obtain ⟨a1, a2, a3, a4⟩ := hp
  obtain ⟨b1, b2, b3, b4⟩ := hq
  exact ⟨mulB a3 a4 (by omega) b2, mulB b3 b4 (by omega) a2, Int.mul_pos a1 b1, (mulB (by omega) a2 (by omega) b2).2⟩
noncomputable def valueP (S : aS) (a x y z : Nat) : Int × aS := match valX (sPc S a) (sNu S x) (sNu S y) (sNu S z) 286 with
  | none => (-4, S)
  | some p => keepN S p
noncomputable def valueF (S : aS) (a x y z : Int) : Int × aS := if ¬((0 ≤ a ∧ a < sPn S) ∧ (0 ≤ x ∧ x < sN S) ∧ (0 ≤ y ∧ y < sN S) ∧ 0 ≤ z ∧ z < sN S) then (-1, S) else valueP S a.toNat x.toNat y.toNat z.toNat
theorem valueP_0 {S : aS} {a x y z : Nat} (h : valX (sPc S a) (sNu S x) (sNu S y) (sNu S z) 286 = none) : valueP S a x y z = (-4, S) := by
  unfold valueP
  rw [h]
theorem valueP_1 {S : aS} {a x y z : Nat} {p : Int × Int} (h : valX (sPc S a) (sNu S x) (sNu S y) (sNu S z) 286 = some p) : valueP S a x y z = keepN S p := by
  unfold valueP
  rw [h]
/-- numbers of the class beside what is reduced -/
def FU (V V1 : Nat → Nat → Int) (c : Nat) : Prop := ∀ b j, ¬(b = c + 3 ∧ (j = 3 ∨ j = 4)) → V1 b j = V b j
theorem FU.xn {V V1 : Nat → Nat → Int} {c : Nat} {S : aS} (f : FU V V1 c) (x : XN V c S) : XN V1 c S := by
  refine ⟨by rw [f _ _ (by omega)]; exact x.1, fun i hi => ?_⟩
  rw [f _ _ (by omega), f _ _ (by omega)]
  exact x.2 i hi
theorem FU.trans {V V1 V2 : Nat → Nat → Int} {c : Nat} (f : FU V V1 c) (g : FU V1 V2 c) : FU V V2 c := fun b j h => by rw [g b j h, f b j h]
theorem FU.set (V : Nat → Nat → Int) (c : Nat) (p q : Int) : FU V (vset (vset V (c + 3) 3 p) (c + 3) 4 q) c := fun b j h => by rw [vset_ne _ _ _ _ (by omega), vset_ne _ _ _ _ (by omega)]
set_option maxRecDepth 100000 in
theorem x_mulOft {w : aW} {d : Nat} (hd : 5 ≤ d) {h : aH} {c : Nat} (cs : CS h c) (V : Nat → Nat → Int) {S : aS} (xn : XN V c S) (okn : OkN S) (a : Nat) (ha : a < sN S) (k : Nat) (hk : k ≤ 10) (p0 : Int × Int) (hb0 : BQ p0) (h30 : V (c + 3) 3 = p0.1) (h40 : V (c + 3) 4 = p0.2) : WP w d 37 [aO (some (c + 3)), aI ((a : Int)), aI ((k : Int))] (hw h V) (RI (fun r h1 => ∃ V1, h1 = hw h V1 ∧ FU V V1 c ∧ ((mulO (sNu S a) k (some p0) = none ∧ r = 0) ∨ ∃ p, mulO (sNu S a) k (some p0) = some p ∧ BQ p ∧ V1 (c + 3) 3 = p.1 ∧ V1 (c + 3) 4 = p.2 ∧ r = 1))) := by
  obtain ⟨d, rfl⟩ : ∃ d1, d = d1 + 1 := ⟨d - 1, by omega⟩
  refine WP.enter (cd := cd_X1_multiplyOften) rfl ?_
  have hx := (okn.2 a ha).bq
  have hok := okn.1
  have hls : largs 0 [aO (some (c + 3)), aI ((a : Int)), aI ((k : Int))] = [(0, aO (some (c + 3))), (1, aI ((a : Int))), (2, aI ((k : Int)))] := rfl
  rw [hls]
  clear hls
  have l2 : ∀ (fuel : Nat) (i : Nat) (V1 : Nat → Nat → Int) (p : Int × Int), (i ≤ k) → (FU V V1 c) → (mulO (sNu S a) i (some p0) = some p) → (BQ p) → (V1 (c + 3) 3 = p.1) → (V1 (c + 3) 4 = p.2) → k - i < fuel → Wk w d cd_X1_multiplyOften 2 [(3, aI ((i : Int))), (0, aO (some (c + 3))), (1, aI ((a : Int))), (2, aI ((k : Int)))] [] (hw h V1) (RI (fun r h1 => ∃ V1, h1 = hw h V1 ∧ FU V V1 c ∧ ((mulO (sNu S a) k (some p0) = none ∧ r = 0) ∨ ∃ p, mulO (sNu S a) k (some p0) = some p ∧ BQ p ∧ V1 (c + 3) 3 = p.1 ∧ V1 (c + 3) 4 = p.2 ∧ r = 1))) := by
    intro fuel
    induction fuel with
    | zero => intros; omega
    | succ fuel ih2 =>
      intro i V1 p hi hf hp hb h3 h4 hfuel
      have xn1 := hf.xn xn
      have hbm := bq_mul hb hx
      refine g_iload_n rfl rfl ?_
      refine g_iload_n rfl rfl ?_
      refine g_icmp_ge rfl (fun cq4 => ?_) (fun cq4 => ?_)
      · skip
        refine g_iconst rfl ?_
        refine g_zret rfl (by omega) ?_
        refine ⟨V1, rfl, hf, Or.inr ⟨p, ?_, hb, h3, h4, rfl⟩⟩
        rw [show k = i by omega]
        exact hp
      · skip
        refine g_aload_n rfl rfl ?_
        refine g_aload_n rfl rfl ?_
        refine g_getJ rfl (cs.kd 3 (by omega) rfl) ?_
        refine g_top (v2 := aJ p.1) (congrArg aJ (by exact h3)) ?_
        refine g_aload_n rfl rfl ?_
        refine g_iload_n rfl rfl ?_
        refine g_callVJ [aI ((a : Int))] [aJ p.1, aO (some (c + 3))] rfl rfl rfl rfl (Nat.le_of_ble_eq_true rfl) (cs.kd 3 (by omega) rfl) (x_upOf (by omega) cs V1 (sN S) xn1.1 (by omega) (a : Int)) ?_
        rintro r1 hx1 ⟨ehx1, rfl⟩
        rw [ehx1, if_pos (by omega), Int.toNat_natCast, (xn1.2 a ha).1]
        clear ehx1 hx1
        refine g_lmul rfl (by omega) (by omega) ?_
        refine g_aload_n rfl rfl ?_
        refine g_getJ rfl (cs.kd 3 (by omega) rfl) ?_
        refine g_top (v2 := aJ p.2) (congrArg aJ (by exact h4)) ?_
        refine g_aload_n rfl rfl ?_
        refine g_iload_n rfl rfl ?_
        refine g_callVJ [aI ((a : Int))] [aJ p.2, aJ (p.1 * ((sNu S a).1)), aO (some (c + 3))] rfl rfl rfl rfl (Nat.le_of_ble_eq_true rfl) (cs.kd 3 (by omega) rfl) (x_downOf (by omega) cs V1 (sN S) xn1.1 (by omega) (a : Int)) ?_
        rintro r2 hx2 ⟨ehx2, rfl⟩
        rw [ehx2, if_pos (by omega), Int.toNat_natCast, (xn1.2 a ha).2]
        clear ehx2 hx2
        refine g_lmul rfl (by omega) (by omega) ?_
        refine g_callVI [aJ (p.1 * ((sNu S a).1)), aJ (p.2 * ((sNu S a).2))] [] rfl rfl rfl rfl (Nat.le_of_ble_eq_true rfl) (cs.kd 3 (by omega) rfl) (x_reduce (by omega) cs V1 (p.1 * (sNu S a).1) (p.2 * (sNu S a).2) (by omega) (by omega)) ?_
        rintro r9 h9 q9
        rw [if_neg (by omega)] at q9
        obtain ⟨e9, er9⟩ := q9
        rw [e9, er9]
        clear e9 er9
        refine g_b_ne rfl (fun cq31 => ?_) (fun cq31 => ?_)
        · skip
          refine g_iinc (l1 := [(3, aI ((i : Int) + 1)), (0, aO (some (c + 3))), (1, aI ((a : Int))), (2, aI ((k : Int)))]) rfl rfl (by omega) (by omega) rfl ?_
          refine g_goto rfl ?_
          exact ih2 (i + 1) _ (lowF (p.1 * (sNu S a).1) (p.2 * (sNu S a).2)) (by omega) (by exact hf.trans (FU.set _ _ _ _)) (by show (mulO (sNu S a) i (some p0)).bind _ = _; rw [hp]; exact stO_1 cq31) (by exact (lowF_ok (by omega) cq31).bq) (by rw [vset_ne _ _ _ _ (by omega), vset_eq]) (by rw [vset_eq]) (by omega)
        · skip
          refine g_iconst rfl ?_
          refine g_zret rfl (by omega) ?_
          refine ⟨_, rfl, hf.trans (FU.set _ _ _ _), Or.inl ⟨?_, rfl⟩⟩
          have hn : mulO (sNu S a) (i + 1) (some p0) = none := by
            show (mulO (sNu S a) i (some p0)).bind _ = _
            rw [hp]
            exact stO_0 cq31
          have := mulO_none hn (k - (i + 1))
          rw [show i + 1 + (k - (i + 1)) = k by omega] at this
          exact this
  refine g_iconst rfl ?_
  refine g_istore_n (l1 := [(3, aI 0), (0, aO (some (c + 3))), (1, aI ((a : Int))), (2, aI ((k : Int)))]) rfl rfl ?_
  exact l2 _ 0 V p0 (by omega) (by exact fun _ _ _ => rfl) (by rfl) (by exact hb0) (by exact h30) (by exact h40) (Nat.lt_succ_self _)
set_option maxRecDepth 100000 in
theorem x_keepVal {w : aW} {d : Nat} (hd : 24 ≤ d) {h : aH} {c : Nat} (cs : CS h c) (V : Nat → Nat → Int) (xe : XE V c) {S : aS} {ρ : Nat → Nat} (xp : XP h V c S ρ) (ok : OkP S) (xn : XN V c S) (okn : OkN S) (a : Nat) (ha : a < sPn S) (x : Nat) (hx : x < sN S) (y : Nat) (hy : y < sN S) (z : Nat) (hz : z < sN S) : WP w d 141 [aO (some (c + 17)), aI ((a : Int)), aO (some (c + 3)), aI ((x : Int)), aI ((y : Int)), aI ((z : Int))] (hw h V) (RI (fun r h1 => ∃ V1, h1 = hw h V1 ∧ FN V V1 c ∧ XN V1 c (valueP S a x y z).2 ∧ r = (valueP S a x y z).1)) := by
  obtain ⟨d, rfl⟩ : ∃ d1, d = d1 + 1 := ⟨d - 1, by omega⟩
  refine WP.enter (cd := cd_X4_keepValue) rfl ?_
  have hok := ok.1
  have hrho := (xp.2 a ha).2.2.1
  have hls : largs 0 [aO (some (c + 17)), aI ((a : Int)), aO (some (c + 3)), aI ((x : Int)), aI ((y : Int)), aI ((z : Int))] = [(0, aO (some (c + 17))), (1, aI ((a : Int))), (2, aO (some (c + 3))), (3, aI ((x : Int))), (4, aI ((y : Int))), (5, aI ((z : Int)))] := rfl
  rw [hls]
  clear hls
  have l19 : ∀ (fuel : Nat) (t : Nat) (V1 : Nat → Nat → Int) (p : Int × Int), (t ≤ 286) → (FU V V1 c) → (valX (sPc S a) (sNu S x) (sNu S y) (sNu S z) t = some p) → (NuOk p) → 286 - t < fuel → Wk w d cd_X4_keepValue 19 [(10, aI ((t : Int))), (8, aJ p.2), (6, aJ p.1), (0, aO (some (c + 17))), (1, aI ((a : Int))), (2, aO (some (c + 3))), (3, aI ((x : Int))), (4, aI ((y : Int))), (5, aI ((z : Int)))] [] (hw h V1) (RI (fun r h1 => ∃ V1, h1 = hw h V1 ∧ FN V V1 c ∧ XN V1 c (valueP S a x y z).2 ∧ r = (valueP S a x y z).1)) := by
    intro fuel
    induction fuel with
    | zero => intros; omega
    | succ fuel ih19 =>
      intro t V1 p ht hf hv nu hfuel
      have bp := nu.bq
      have bp2 := bp
      unfold BQ at bp2
      refine g_iload rfl rfl ?_
      refine g_sipush rfl ?_
      refine g_icmp_ge rfl (fun cq24 => ?_) (fun cq24 => ?_)
      · skip
        refine g_aload_n rfl rfl ?_
        refine g_lload rfl rfl ?_
        refine g_lload rfl rfl ?_
        refine g_callVI [aJ p.1, aJ p.2] [] rfl rfl rfl rfl (Nat.le_of_ble_eq_true rfl) (cs.kd 3 (by omega) rfl) (x_keepS (by omega) cs V1 (hf.xn xn) okn p.1 p.2 (by omega) (by omega)) ?_
        rintro _ _ ⟨V6, rfl, xn6, f6, rfl⟩
        rw [spF_id S nu] at xn6 ⊢
        refine g_iret rfl ?_
        have hv2 : valX (sPc S a) (sNu S x) (sNu S y) (sNu S z) 286 = some p := by rw [← hv, show t = 286 by omega]
        rw [valueP_1 hv2]
        exact ⟨V6, rfl, fun b h1 h2 h3 => by rw [f6 b h1 h2 h3]; funext j; exact hf b j (by omega), xn6, rfl⟩
      · skip
        refine g_aload_n rfl rfl ?_
        refine g_getR rfl (cs.kd 17 (by omega) rfl) (cs.rf 26 (by omega) rfl) ?_
        refine g_iload_n rfl rfl ?_
        refine g_aald (i := a) rfl (cs.ar 22 (by omega) rfl) (by decide) (by omega) (by omega) ((xp.2 a (by omega)).1) ?_
        refine g_iload rfl rfl ?_
        refine g_lald (i := t) rfl ((xp.2 a (by omega)).2.1) (by omega) (by omega) ?_
        refine g_top (v2 := aJ (sPc S a t)) (congrArg aJ (by show V1 (ρ a) t = _; rw [hf _ _ (by omega)]; exact (xp.2 a ha).2.2.2.2 t (by omega))) ?_
        have hcf := ok.2 a ha t (by omega)
        have hpe := (pI_pE t (by omega)).1
        refine g_lconst0 rfl ?_
        refine g_lc_eq rfl rfl (fun cq37 => ?_) (fun cq37 => ?_)
        · skip
          first
            | (have hdone := hvN)
            | (have hv0 : valX (sPc S a) (sNu S x) (sNu S y) (sNu S z) (t + 1) = some p := by
                 show valT (sNu S x) (sNu S y) (sNu S z) (sPc S a t) _ _ _ (valX (sPc S a) (sNu S x) (sNu S y) (sNu S z) t) = _
                 rw [hv]
                 exact if_pos cq37)
          refine g_iinc (l1 := [(10, aI ((t : Int) + 1)), (8, aJ p.2), (6, aJ p.1), (0, aO (some (c + 17))), (1, aI ((a : Int))), (2, aO (some (c + 3))), (3, aI ((x : Int))), (4, aI ((y : Int))), (5, aI ((z : Int)))]) rfl rfl (by omega) (by omega) rfl ?_
          refine g_goto rfl ?_
          exact ih19 (t + 1) _ _ (by omega) (by first | exact hf | exact hfN) (by first | exact hv0 | exact hvN) (by first | exact nu | exact nuN) (by first | (clear q3 q4 q5; omega) | omega)
        · skip
          refine g_aload_n rfl rfl ?_
          refine g_aload_n rfl rfl ?_
          refine g_getR rfl (cs.kd 17 (by omega) rfl) (cs.rf 26 (by omega) rfl) ?_
          refine g_iload_n rfl rfl ?_
          refine g_aald (i := a) rfl (cs.ar 22 (by omega) rfl) (by decide) (by omega) (by omega) ((xp.2 a (by omega)).1) ?_
          refine g_iload rfl rfl ?_
          refine g_lald (i := t) rfl ((xp.2 a (by omega)).2.1) (by omega) (by omega) ?_
          refine g_top (v2 := aJ (sPc S a t)) (congrArg aJ (by show V1 (ρ a) t = _; rw [hf _ _ (by omega)]; exact (xp.2 a ha).2.2.2.2 t (by omega))) ?_
          refine g_lconst1 rfl ?_
          refine g_callVI [aJ (sPc S a t), aJ 1] [] rfl rfl rfl rfl (Nat.le_of_ble_eq_true rfl) (cs.kd 3 (by omega) rfl) (x_reduce (by omega) cs V1 (sPc S a t) 1 (by omega) (by omega)) ?_
          rintro r9 h9 q9
          rw [if_neg (by omega)] at q9
          obtain ⟨e9, er9⟩ := q9
          rw [e9, er9]
          clear e9 er9
          obtain ⟨V2, eV2⟩ : ∃ W, W = vset (vset V1 (c + 3) 3 (lowF (sPc S a t) 1).1) (c + 3) 4 (lowF (sPc S a t) 1).2 := ⟨_, rfl⟩
          rw [← eV2]
          have hf2 : FU V V2 c := by rw [eV2]; exact hf.trans (FU.set _ _ _ _)
          refine g_if_eq_f rfl (by rw [if_pos (sm_1 hcf)]; decide) ?_
          refine g_aload_n rfl rfl ?_
          refine g_iload_n rfl rfl ?_
          refine g_aload_n rfl rfl ?_
          refine g_getR rfl (cs.kd 17 (by omega) rfl) (cs.rf 22 (by omega) rfl) ?_
          refine g_iload rfl rfl ?_
          refine g_iald (i := t) rfl (cs.ar 18 (by omega) rfl) (by omega) (by omega) ?_
          refine g_top (v2 := aI ((((pE t).1 : Nat) : Int))) (congrArg aI (by exact ((xe.fr (fun b h1 h2 => funext (fun j => hf2 b j (by omega)))).1 t (by omega)).1)) ?_
          refine g_callVI [aI ((x : Int)), aI ((((pE t).1 : Nat) : Int))] [] rfl rfl rfl rfl (Nat.le_of_ble_eq_true rfl) (cs.kd 3 (by omega) rfl) (x_mulOft (by omega) cs V2 (hf2.xn xn) okn x hx ((pE t).1) (by omega) (sPc S a t, 1) (bq_1 hcf) (by rw [eV2, vset_ne _ _ _ _ (by omega), vset_eq, lowF_1v]) (by rw [eV2, vset_eq, lowF_1v])) ?_
          rintro r3 _ ⟨V3, rfl, g3, q3⟩
          have hf3 := hf2.trans g3
          have hmn : r3 = 0 → valM (sNu S x) (sNu S y) (sNu S z) (sPc S a t) (pE t).1 (pE t).2.1 (pE t).2.2 = none := fun e => by
            rcases q3 with ⟨w1, w2⟩ | ⟨p1, w1, w2, w3, w4, w5⟩
            · unfold valM
              rw [w1, mulO_u, mulO_u]
            · omega
          refine g_if_eq rfl (fun cq70 => ?_) (fun cq70 => ?_)
          · skip
            refine g_bipush rfl ?_
            refine g_iret rfl ?_
            first
              | have hmn := hmn (by omega)
              | skip
            have hn : valX (sPc S a) (sNu S x) (sNu S y) (sNu S z) 286 = none := by
              have h0 : valX (sPc S a) (sNu S x) (sNu S y) (sNu S z) (t + 1) = none := by
                show valT (sNu S x) (sNu S y) (sNu S z) (sPc S a t) _ _ _ (valX (sPc S a) (sNu S x) (sNu S y) (sNu S z) t) = none
                rw [hv]
                unfold valT
                rw [if_neg cq37]
                show (valM (sNu S x) (sNu S y) (sNu S z) (sPc S a t) (pE t).1 (pE t).2.1 (pE t).2.2).bind _ = none
                first
                  | (rw [hmn]; rfl)
                  | (rw [hmy]; exact stO_0 cq131)
              have := valX_none h0 (286 - (t + 1))
              rw [show t + 1 + (286 - (t + 1)) = 286 by omega] at this
              exact this
            rw [valueP_0 hn]
            exact ⟨_, rfl, fun b h1 h2 h3 => by funext j; first | exact hf3 b j (by omega) | exact hf4 b j (by omega) | exact hf5 b j (by omega) | exact (hf5.trans (FU.set _ _ _ _)) b j (by omega), by first | exact hf3.xn xn | exact hf4.xn xn | exact hf5.xn xn | exact (hf5.trans (FU.set _ _ _ _)).xn xn, rfl⟩
          · skip
            obtain ⟨p1, e1, b1, h31, h41, -⟩ := q3.resolve_left (fun w => by have := w.2; omega)
            clear hmn
            refine g_aload_n rfl rfl ?_
            refine g_iload rfl rfl ?_
            refine g_aload_n rfl rfl ?_
            refine g_getR rfl (cs.kd 17 (by omega) rfl) (cs.rf 23 (by omega) rfl) ?_
            refine g_iload rfl rfl ?_
            refine g_iald (i := t) rfl (cs.ar 19 (by omega) rfl) (by omega) (by omega) ?_
            refine g_top (v2 := aI ((((pE t).2.1 : Nat) : Int))) (congrArg aI (by exact ((xe.fr (fun b h1 h2 => funext (fun j => hf3 b j (by omega)))).1 t (by omega)).2.1)) ?_
            refine g_callVI [aI ((y : Int)), aI ((((pE t).2.1 : Nat) : Int))] [] rfl rfl rfl rfl (Nat.le_of_ble_eq_true rfl) (cs.kd 3 (by omega) rfl) (x_mulOft (by omega) cs V3 (hf3.xn xn) okn y hy ((pE t).2.1) (by omega) p1 b1 h31 h41) ?_
            rintro r4 _ ⟨V4, rfl, g4, q4⟩
            have hf4 := hf3.trans g4
            have hmn : r4 = 0 → valM (sNu S x) (sNu S y) (sNu S z) (sPc S a t) (pE t).1 (pE t).2.1 (pE t).2.2 = none := fun e => by
              rcases q4 with ⟨w1, w2⟩ | ⟨p2, w1, w2, w3, w4, w5⟩
              · unfold valM
                rw [e1, w1, mulO_u]
              · omega
            refine g_if_eq rfl (fun cq86 => ?_) (fun cq86 => ?_)
            · skip
              refine g_bipush rfl ?_
              refine g_iret rfl ?_
              first
                | have hmn := hmn (by omega)
                | skip
              have hn : valX (sPc S a) (sNu S x) (sNu S y) (sNu S z) 286 = none := by
                have h0 : valX (sPc S a) (sNu S x) (sNu S y) (sNu S z) (t + 1) = none := by
                  show valT (sNu S x) (sNu S y) (sNu S z) (sPc S a t) _ _ _ (valX (sPc S a) (sNu S x) (sNu S y) (sNu S z) t) = none
                  rw [hv]
                  unfold valT
                  rw [if_neg cq37]
                  show (valM (sNu S x) (sNu S y) (sNu S z) (sPc S a t) (pE t).1 (pE t).2.1 (pE t).2.2).bind _ = none
                  first
                    | (rw [hmn]; rfl)
                    | (rw [hmy]; exact stO_0 cq131)
                have := valX_none h0 (286 - (t + 1))
                rw [show t + 1 + (286 - (t + 1)) = 286 by omega] at this
                exact this
              rw [valueP_0 hn]
              exact ⟨_, rfl, fun b h1 h2 h3 => by funext j; first | exact hf3 b j (by omega) | exact hf4 b j (by omega) | exact hf5 b j (by omega) | exact (hf5.trans (FU.set _ _ _ _)) b j (by omega), by first | exact hf3.xn xn | exact hf4.xn xn | exact hf5.xn xn | exact (hf5.trans (FU.set _ _ _ _)).xn xn, rfl⟩
            · skip
              obtain ⟨p2, e2, b2, h32, h42, -⟩ := q4.resolve_left (fun w => by have := w.2; omega)
              clear hmn
              refine g_aload_n rfl rfl ?_
              refine g_iload rfl rfl ?_
              refine g_aload_n rfl rfl ?_
              refine g_getR rfl (cs.kd 17 (by omega) rfl) (cs.rf 24 (by omega) rfl) ?_
              refine g_iload rfl rfl ?_
              refine g_iald (i := t) rfl (cs.ar 20 (by omega) rfl) (by omega) (by omega) ?_
              refine g_top (v2 := aI ((((pE t).2.2 : Nat) : Int))) (congrArg aI (by exact ((xe.fr (fun b h1 h2 => funext (fun j => hf4 b j (by omega)))).1 t (by omega)).2.2)) ?_
              refine g_callVI [aI ((z : Int)), aI ((((pE t).2.2 : Nat) : Int))] [] rfl rfl rfl rfl (Nat.le_of_ble_eq_true rfl) (cs.kd 3 (by omega) rfl) (x_mulOft (by omega) cs V4 (hf4.xn xn) okn z hz ((pE t).2.2) (by omega) p2 b2 h32 h42) ?_
              rintro r5 _ ⟨V5, rfl, g5, q5⟩
              have hf5 := hf4.trans g5
              have hmn : r5 = 0 → valM (sNu S x) (sNu S y) (sNu S z) (sPc S a t) (pE t).1 (pE t).2.1 (pE t).2.2 = none := fun e => by
                rcases q5 with ⟨w1, w2⟩ | ⟨p3, w1, w2, w3, w4, w5⟩
                · unfold valM
                  rw [e1, e2, w1]
                · omega
              refine g_if_eq rfl (fun cq102 => ?_) (fun cq102 => ?_)
              · skip
                refine g_bipush rfl ?_
                refine g_iret rfl ?_
                first
                  | have hmn := hmn (by omega)
                  | skip
                have hn : valX (sPc S a) (sNu S x) (sNu S y) (sNu S z) 286 = none := by
                  have h0 : valX (sPc S a) (sNu S x) (sNu S y) (sNu S z) (t + 1) = none := by
                    show valT (sNu S x) (sNu S y) (sNu S z) (sPc S a t) _ _ _ (valX (sPc S a) (sNu S x) (sNu S y) (sNu S z) t) = none
                    rw [hv]
                    unfold valT
                    rw [if_neg cq37]
                    show (valM (sNu S x) (sNu S y) (sNu S z) (sPc S a t) (pE t).1 (pE t).2.1 (pE t).2.2).bind _ = none
                    first
                      | (rw [hmn]; rfl)
                      | (rw [hmy]; exact stO_0 cq131)
                  have := valX_none h0 (286 - (t + 1))
                  rw [show t + 1 + (286 - (t + 1)) = 286 by omega] at this
                  exact this
                rw [valueP_0 hn]
                exact ⟨_, rfl, fun b h1 h2 h3 => by funext j; first | exact hf3 b j (by omega) | exact hf4 b j (by omega) | exact hf5 b j (by omega) | exact (hf5.trans (FU.set _ _ _ _)) b j (by omega), by first | exact hf3.xn xn | exact hf4.xn xn | exact hf5.xn xn | exact (hf5.trans (FU.set _ _ _ _)).xn xn, rfl⟩
              · skip
                obtain ⟨p3, e3, b3, h35, h45, -⟩ := q5.resolve_left (fun w => by have := w.2; omega)
                clear hmn
                have hmy : valM (sNu S x) (sNu S y) (sNu S z) (sPc S a t) (pE t).1 (pE t).2.1 (pE t).2.2 = some p3 := by
                  unfold valM
                  rw [e1, e2, e3]
                have hadd := bq_add bp b3
                refine g_aload_n rfl rfl ?_
                refine g_lload rfl rfl ?_
                refine g_aload_n rfl rfl ?_
                refine g_getJ rfl (cs.kd 3 (by omega) rfl) ?_
                refine g_top (v2 := aJ p3.2) (congrArg aJ (by exact h45)) ?_
                refine g_lmul rfl (by omega) (by omega) ?_
                refine g_aload_n rfl rfl ?_
                refine g_getJ rfl (cs.kd 3 (by omega) rfl) ?_
                refine g_top (v2 := aJ p3.1) (congrArg aJ (by exact h35)) ?_
                refine g_lload rfl rfl ?_
                refine g_lmul rfl (by omega) (by omega) ?_
                refine g_ladd rfl (by omega) (by omega) ?_
                refine g_lload rfl rfl ?_
                refine g_aload_n rfl rfl ?_
                refine g_getJ rfl (cs.kd 3 (by omega) rfl) ?_
                refine g_top (v2 := aJ p3.2) (congrArg aJ (by exact h45)) ?_
                refine g_lmul rfl (by omega) (by omega) ?_
                refine g_callVI [aJ ((p.1 * p3.2) + (p3.1 * p.2)), aJ (p.2 * p3.2)] [] rfl rfl rfl rfl (Nat.le_of_ble_eq_true rfl) (cs.kd 3 (by omega) rfl) (x_reduce (by omega) cs V5 (p.1 * p3.2 + p3.1 * p.2) (p.2 * p3.2) (by omega) (by omega)) ?_
                rintro r9 h9 q9
                rw [if_neg (by omega)] at q9
                obtain ⟨e9, er9⟩ := q9
                rw [e9, er9]
                clear e9 er9
                refine g_b_ne rfl (fun cq131 => ?_) (fun cq131 => ?_)
                · skip
                  have hfN := hf5.trans (FU.set V5 c (lowF (p.1 * p3.2 + p3.1 * p.2) (p.2 * p3.2)).1 (lowF (p.1 * p3.2 + p3.1 * p.2) (p.2 * p3.2)).2)
                  have nuN : NuOk (lowF (p.1 * p3.2 + p3.1 * p.2) (p.2 * p3.2)) := lowF_ok (by omega) cq131
                  have hvN : valX (sPc S a) (sNu S x) (sNu S y) (sNu S z) (t + 1) = some (lowF (p.1 * p3.2 + p3.1 * p.2) (p.2 * p3.2)) := by
                    show valT (sNu S x) (sNu S y) (sNu S z) (sPc S a t) _ _ _ (valX (sPc S a) (sNu S x) (sNu S y) (sNu S z) t) = _
                    rw [hv]
                    unfold valT
                    rw [if_neg cq37]
                    show (valM (sNu S x) (sNu S y) (sNu S z) (sPc S a t) (pE t).1 (pE t).2.1 (pE t).2.2).bind _ = _
                    rw [hmy]
                    exact stO_1 cq131
                  refine g_aload_n rfl rfl ?_
                  refine g_getJ rfl (cs.kd 3 (by omega) rfl) ?_
                  refine g_top (v2 := aJ ((lowF (p.1 * p3.2 + p3.1 * p.2) (p.2 * p3.2)).1)) (congrArg aJ (by show (vset (vset V5 (c + 3) 3 (lowF (p.1 * p3.2 + p3.1 * p.2) (p.2 * p3.2)).1) (c + 3) 4 (lowF (p.1 * p3.2 + p3.1 * p.2) (p.2 * p3.2)).2) (c + 3) 3 = ((lowF (p.1 * p3.2 + p3.1 * p.2) (p.2 * p3.2)).1); rw [vset_ne _ _ _ _ (by omega), vset_eq])) ?_
                  refine g_lstore (l1 := [(6, aJ ((lowF (p.1 * p3.2 + p3.1 * p.2) (p.2 * p3.2)).1)), (10, aI ((t : Int))), (8, aJ p.2), (0, aO (some (c + 17))), (1, aI ((a : Int))), (2, aO (some (c + 3))), (3, aI ((x : Int))), (4, aI ((y : Int))), (5, aI ((z : Int)))]) rfl rfl ?_
                  refine g_aload_n rfl rfl ?_
                  refine g_getJ rfl (cs.kd 3 (by omega) rfl) ?_
                  refine g_top (v2 := aJ ((lowF (p.1 * p3.2 + p3.1 * p.2) (p.2 * p3.2)).2)) (congrArg aJ (by show (vset (vset V5 (c + 3) 3 (lowF (p.1 * p3.2 + p3.1 * p.2) (p.2 * p3.2)).1) (c + 3) 4 (lowF (p.1 * p3.2 + p3.1 * p.2) (p.2 * p3.2)).2) (c + 3) 4 = ((lowF (p.1 * p3.2 + p3.1 * p.2) (p.2 * p3.2)).2); rw [vset_eq])) ?_
                  refine g_lstore (l1 := [(8, aJ ((lowF (p.1 * p3.2 + p3.1 * p.2) (p.2 * p3.2)).2)), (6, aJ ((lowF (p.1 * p3.2 + p3.1 * p.2) (p.2 * p3.2)).1)), (10, aI ((t : Int))), (0, aO (some (c + 17))), (1, aI ((a : Int))), (2, aO (some (c + 3))), (3, aI ((x : Int))), (4, aI ((y : Int))), (5, aI ((z : Int)))]) rfl rfl ?_
                  first
                    | (have hdone := hvN)
                    | (have hv0 : valX (sPc S a) (sNu S x) (sNu S y) (sNu S z) (t + 1) = some p := by
                         show valT (sNu S x) (sNu S y) (sNu S z) (sPc S a t) _ _ _ (valX (sPc S a) (sNu S x) (sNu S y) (sNu S z) t) = _
                         rw [hv]
                         exact if_pos cq37)
                  refine g_iinc (l1 := [(10, aI ((t : Int) + 1)), (8, aJ ((lowF (p.1 * p3.2 + p3.1 * p.2) (p.2 * p3.2)).2)), (6, aJ ((lowF (p.1 * p3.2 + p3.1 * p.2) (p.2 * p3.2)).1)), (0, aO (some (c + 17))), (1, aI ((a : Int))), (2, aO (some (c + 3))), (3, aI ((x : Int))), (4, aI ((y : Int))), (5, aI ((z : Int)))]) rfl rfl (by omega) (by omega) rfl ?_
                  refine g_goto rfl ?_
                  exact ih19 (t + 1) _ _ (by omega) (by first | exact hf | exact hfN) (by first | exact hv0 | exact hvN) (by first | exact nu | exact nuN) (by first | (clear q3 q4 q5; omega) | omega)
                · skip
                  refine g_bipush rfl ?_
                  refine g_iret rfl ?_
                  first
                    | have hmn := hmn (by omega)
                    | skip
                  have hn : valX (sPc S a) (sNu S x) (sNu S y) (sNu S z) 286 = none := by
                    have h0 : valX (sPc S a) (sNu S x) (sNu S y) (sNu S z) (t + 1) = none := by
                      show valT (sNu S x) (sNu S y) (sNu S z) (sPc S a t) _ _ _ (valX (sPc S a) (sNu S x) (sNu S y) (sNu S z) t) = none
                      rw [hv]
                      unfold valT
                      rw [if_neg cq37]
                      show (valM (sNu S x) (sNu S y) (sNu S z) (sPc S a t) (pE t).1 (pE t).2.1 (pE t).2.2).bind _ = none
                      first
                        | (rw [hmn]; rfl)
                        | (rw [hmy]; exact stO_0 cq131)
                    have := valX_none h0 (286 - (t + 1))
                    rw [show t + 1 + (286 - (t + 1)) = 286 by omega] at this
                    exact this
                  rw [valueP_0 hn]
                  exact ⟨_, rfl, fun b h1 h2 h3 => by funext j; first | exact hf3 b j (by omega) | exact hf4 b j (by omega) | exact hf5 b j (by omega) | exact (hf5.trans (FU.set _ _ _ _)) b j (by omega), by first | exact hf3.xn xn | exact hf4.xn xn | exact hf5.xn xn | exact (hf5.trans (FU.set _ _ _ _)).xn xn, rfl⟩
  refine g_aload_n rfl rfl ?_
  refine g_iload_n rfl rfl ?_
  refine g_callVI [aI ((a : Int))] [] rfl rfl rfl rfl (Nat.le_of_ble_eq_true rfl) (cs.kd 17 (by omega) rfl) (x_pHas (by omega) cs V xe xp ok (a : Int)) ?_
  rintro r hx_ ⟨ehx, rfl⟩
  rw [ehx, if_pos (by omega)]
  clear ehx hx_
  refine g_if_ne_t rfl (by omega) ?_
  refine g_lconst0 rfl ?_
  refine g_lstore (l1 := [(6, aJ 0), (0, aO (some (c + 17))), (1, aI ((a : Int))), (2, aO (some (c + 3))), (3, aI ((x : Int))), (4, aI ((y : Int))), (5, aI ((z : Int)))]) rfl rfl ?_
  refine g_lconst1 rfl ?_
  refine g_lstore (l1 := [(8, aJ 1), (6, aJ 0), (0, aO (some (c + 17))), (1, aI ((a : Int))), (2, aO (some (c + 3))), (3, aI ((x : Int))), (4, aI ((y : Int))), (5, aI ((z : Int)))]) rfl rfl ?_
  refine g_iconst rfl ?_
  refine g_istore (l1 := [(10, aI 0), (8, aJ 1), (6, aJ 0), (0, aO (some (c + 17))), (1, aI ((a : Int))), (2, aO (some (c + 3))), (3, aI ((x : Int))), (4, aI ((y : Int))), (5, aI ((z : Int)))]) rfl rfl ?_
  exact l19 _ 0 V (0, 1) (by omega) (by exact fun _ _ _ => rfl) (by rfl) (by exact nu01) (Nat.lt_succ_self _)
set_option maxRecDepth 100000 in
theorem f_value {w : aW} {d : Nat} (hd : 30 ≤ d) {h : aH} {c : Nat} (cs : CS h c) (V : Nat → Nat → Int) (xe : XE V c) {S : aS} {ρ : Nat → Nat} (xp : XP h V c S ρ) (ok : OkP S) (xn : XN V c S) (okn : OkN S) (a x y z : Int) : WP w d 219 [aO (some c), aI a, aI x, aI y, aI z] (hw h V) (RI (fun r h1 => ∃ V1, h1 = hw h V1 ∧ FN V V1 c ∧ XN V1 c (valueF S a x y z).2 ∧ r = (valueF S a x y z).1)) := by
  obtain ⟨d, rfl⟩ : ∃ d1, d = d1 + 1 := ⟨d - 1, by omega⟩
  refine WP.enter (cd := cd_X11_value) rfl ?_
  have hok := ok.1
  have hokn := okn.1
  have hls : largs 0 [aO (some c), aI a, aI x, aI y, aI z] = [(0, aO (some c)), (1, aI a), (2, aI x), (3, aI y), (4, aI z)] := rfl
  rw [hls]
  clear hls
  refine g_aload_n rfl rfl ?_
  refine g_getR rfl (cs.kd 0 (by omega) rfl) (cs.rf 31 (by omega) rfl) ?_
  refine g_iload_n rfl rfl ?_
  refine g_callVI [aI a] [] rfl rfl rfl rfl (Nat.le_of_ble_eq_true rfl) (cs.kd 17 (by omega) rfl) (x_pHas (by omega) cs V xe xp ok a) ?_
  rintro r hx_ ⟨ehx, rfl⟩
  rw [ehx]
  clear ehx hx_
  refine g_b_eq rfl (fun cq8 => ?_) (fun cq8 => ?_)
  · skip
    refine g_iconst rfl ?_
    refine g_iret rfl ?_
    have eF : valueF S a x y z = (-1, S) := if_pos (by omega)
    rw [eF]
    exact ⟨V, rfl, fun _ _ _ _ => rfl, xn, rfl⟩
  · skip
    refine g_aload_n rfl rfl ?_
    refine g_getR rfl (cs.kd 0 (by omega) rfl) (cs.rf 4 (by omega) rfl) ?_
    refine g_iload_n rfl rfl ?_
    refine g_callVI [aI x] [] rfl rfl rfl rfl (Nat.le_of_ble_eq_true rfl) (cs.kd 3 (by omega) rfl) (x_has (by omega) cs V (sN S) xn.1 (by omega) x) ?_
    rintro r hx_ ⟨ehx, rfl⟩
    rw [ehx]
    clear ehx hx_
    refine g_b_eq rfl (fun cq19 => ?_) (fun cq19 => ?_)
    · skip
      refine g_iconst rfl ?_
      refine g_iret rfl ?_
      have eF : valueF S a x y z = (-1, S) := if_pos (by omega)
      rw [eF]
      exact ⟨V, rfl, fun _ _ _ _ => rfl, xn, rfl⟩
    · skip
      refine g_aload_n rfl rfl ?_
      refine g_getR rfl (cs.kd 0 (by omega) rfl) (cs.rf 4 (by omega) rfl) ?_
      refine g_iload_n rfl rfl ?_
      refine g_callVI [aI y] [] rfl rfl rfl rfl (Nat.le_of_ble_eq_true rfl) (cs.kd 3 (by omega) rfl) (x_has (by omega) cs V (sN S) xn.1 (by omega) y) ?_
      rintro r hx_ ⟨ehx, rfl⟩
      rw [ehx]
      clear ehx hx_
      refine g_b_eq rfl (fun cq30 => ?_) (fun cq30 => ?_)
      · skip
        refine g_iconst rfl ?_
        refine g_iret rfl ?_
        have eF : valueF S a x y z = (-1, S) := if_pos (by omega)
        rw [eF]
        exact ⟨V, rfl, fun _ _ _ _ => rfl, xn, rfl⟩
      · skip
        refine g_aload_n rfl rfl ?_
        refine g_getR rfl (cs.kd 0 (by omega) rfl) (cs.rf 4 (by omega) rfl) ?_
        refine g_iload rfl rfl ?_
        refine g_callVI [aI z] [] rfl rfl rfl rfl (Nat.le_of_ble_eq_true rfl) (cs.kd 3 (by omega) rfl) (x_has (by omega) cs V (sN S) xn.1 (by omega) z) ?_
        rintro r hx_ ⟨ehx, rfl⟩
        rw [ehx]
        clear ehx hx_
        refine g_b_ne rfl (fun cq42 => ?_) (fun cq42 => ?_)
        · skip
          obtain ⟨a1, ea⟩ : ∃ k : Nat, a = (k : Int) := ⟨a.toNat, by omega⟩
          obtain ⟨x1, ex⟩ : ∃ k : Nat, x = (k : Int) := ⟨x.toNat, by omega⟩
          obtain ⟨y1, ey⟩ : ∃ k : Nat, y = (k : Int) := ⟨y.toNat, by omega⟩
          obtain ⟨z1, ez⟩ : ∃ k : Nat, z = (k : Int) := ⟨z.toNat, by omega⟩
          subst ea
          subst ex
          subst ey
          subst ez
          have eF : valueF S a1 x1 y1 z1 = valueP S a1 x1 y1 z1 := if_neg (by omega)
          rw [eF]
          refine g_aload_n rfl rfl ?_
          refine g_getR rfl (cs.kd 0 (by omega) rfl) (cs.rf 31 (by omega) rfl) ?_
          refine g_iload_n rfl rfl ?_
          refine g_aload_n rfl rfl ?_
          refine g_getR rfl (cs.kd 0 (by omega) rfl) (cs.rf 4 (by omega) rfl) ?_
          refine g_iload_n rfl rfl ?_
          refine g_iload_n rfl rfl ?_
          refine g_iload rfl rfl ?_
          refine g_callVI [aI ((a1 : Int)), aO (some (c + 3)), aI ((x1 : Int)), aI ((y1 : Int)), aI ((z1 : Int))] [] rfl rfl rfl rfl (Nat.le_of_ble_eq_true rfl) (cs.kd 17 (by omega) rfl) (x_keepVal (by omega) cs V xe xp ok xn okn a1 (by omega) x1 (by omega) y1 (by omega) z1 (by omega)) ?_
          rintro r h2 hq
          refine g_iret rfl ?_
          exact hq
        · skip
          refine g_iconst rfl ?_
          refine g_iret rfl ?_
          have eF : valueF S a x y z = (-1, S) := if_pos (by omega)
          rw [eF]
          exact ⟨V, rfl, fun _ _ _ _ => rfl, xn, rfl⟩
