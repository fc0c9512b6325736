/-! the class's polynomials, kept: printed by wip/whole/hc.py -/
def OkP (S : aS) : Prop := sPn S ≤ 60 ∧ ∀ a < sPn S, smX (sPc S a)
/-- the rows of the kept ones: ρ -/
def XP (h : aH) (V : Nat → Nat → Int) (c : Nat) (S : aS) (ρ : Nat → Nat) : Prop := V (c + 17) 9 = sPn S ∧ ∀ a < sPn S, hR h (c + 22) a = some (ρ a) ∧ hT h (ρ a) = (2, 286) ∧ c + 67 ≤ ρ a ∧ ρ a < hz h ∧ ∀ t < 286, V (ρ a) t = sPc S a t
theorem XP.fr {h : aH} {V V1 : Nat → Nat → Int} {c : Nat} {S : aS} {ρ : Nat → Nat} (x : XP h V c S ρ) (h1 : V1 (c + 17) = V (c + 17)) (h2 : ∀ a < sPn S, V1 (ρ a) = V (ρ a)) : XP h V1 c S ρ :=
  ⟨by rw [h1]; exact x.1, fun a ha => by
    obtain ⟨a1, a2, a3, a4, a5⟩ := x.2 a ha
    exact ⟨a1, a2, a3, a4, fun t ht => by rw [h2 a ha]; exact a5 t ht⟩⟩
set_option maxRecDepth 100000 in
theorem x_pHas {w : aW} {d : Nat} (hd : 2 ≤ d) {h : aH} {c : Nat} (cs : CS h c) (V : Nat → Nat → Int) (xe : XE V c) {S : aS} {ρ : Nat → Nat} (xp : XP h V c S ρ) (ok : OkP S) (a : Int) : WP w d 125 [aO (some (c + 17)), aI a] (hw h V) (RI (fun r h1 => h1 = hw h V ∧ r = if 0 ≤ a ∧ a < sPn S then 1 else 0)) := by
  obtain ⟨d, rfl⟩ : ∃ d1, d = d1 + 1 := ⟨d - 1, by omega⟩
  refine WP.enter (cd := cd_X4_has) rfl ?_
  have hok := ok.1
  have hls : largs 0 [aO (some (c + 17)), aI a] = [(0, aO (some (c + 17))), (1, aI a)] := rfl
  rw [hls]
  clear hls
  refine g_iload_n rfl rfl ?_
  refine g_if_lt rfl (fun cq1 => ?_) (fun cq1 => ?_)
  · skip
    refine g_iconst rfl ?_
    refine g_zret rfl (by omega) ?_
    refine ⟨rfl, ?_⟩
    first
      | (rw [if_pos (by omega)]; done)
      | (rw [if_neg (by omega)]; done)
  · skip
    refine g_iload_n rfl rfl ?_
    refine g_aload_n rfl rfl ?_
    refine g_getI rfl (cs.kd 17 (by omega) rfl) ?_
    refine g_top (v2 := aI ((sPn S : Int))) (congrArg aI (by exact xp.1)) ?_
    refine g_icmp_ge rfl (fun cq9 => ?_) (fun cq9 => ?_)
    · skip
      refine g_iconst rfl ?_
      refine g_zret rfl (by omega) ?_
      refine ⟨rfl, ?_⟩
      first
        | (rw [if_pos (by omega)]; done)
        | (rw [if_neg (by omega)]; done)
    · skip
      refine g_iload_n rfl rfl ?_
      refine g_bipush rfl ?_
      refine g_icmp_ge_f rfl (by omega) ?_
      refine g_aload_n rfl rfl ?_
      refine g_getR rfl (cs.kd 17 (by omega) rfl) (cs.rf 26 (by omega) rfl) ?_
      refine g_iload_n rfl rfl ?_
      refine g_aald (i := a.toNat) rfl (cs.ar 22 (by omega) rfl) (by decide) (by omega) (by omega) ((xp.2 a.toNat (by omega)).1) ?_
      refine g_ifnull_f rfl ?_
      refine g_iconst rfl ?_
      refine g_goto rfl ?_
      refine g_zret rfl (by omega) ?_
      refine ⟨rfl, ?_⟩
      first
        | (rw [if_pos (by omega)]; done)
        | (rw [if_neg (by omega)]; done)
set_option maxRecDepth 100000 in
theorem x_pCoef {w : aW} {d : Nat} (hd : 3 ≤ d) {h : aH} {c : Nat} (cs : CS h c) (V : Nat → Nat → Int) (xe : XE V c) {S : aS} {ρ : Nat → Nat} (xp : XP h V c S ρ) (ok : OkP S) (a i j k : Int) : WP w d 127 [aO (some (c + 17)), aI a, aI i, aI j, aI k] (hw h V) (RJ (fun r h1 => h1 = hw h V ∧ r = if (0 ≤ a ∧ a < sPn S) ∧ 0 ≤ i ∧ 0 ≤ j ∧ 0 ≤ k ∧ i + j + k ≤ 10 then sPc S a.toNat (pI i.toNat j.toNat k.toNat) else 0)) := by
  obtain ⟨d, rfl⟩ : ∃ d1, d = d1 + 1 := ⟨d - 1, by omega⟩
  refine WP.enter (cd := cd_X4_coefficientOf) rfl ?_
  have hok := ok.1
  have hls : largs 0 [aO (some (c + 17)), aI a, aI i, aI j, aI k] = [(0, aO (some (c + 17))), (1, aI a), (2, aI i), (3, aI j), (4, aI k)] := rfl
  rw [hls]
  clear hls
  refine g_aload_n rfl rfl ?_
  refine g_iload_n rfl rfl ?_
  refine g_iload_n rfl rfl ?_
  refine g_iload rfl rfl ?_
  refine g_callVI [aI i, aI j, aI k] [] rfl rfl rfl rfl (Nat.le_of_ble_eq_true rfl) (cs.kd 17 (by omega) rfl) (x_indexOf (by omega) cs V xe i j k) ?_
  rintro r _ ⟨rfl, hr1, hr2⟩
  have hpl : 0 ≤ i ∧ 0 ≤ j ∧ 0 ≤ k ∧ i + j + k ≤ 10 → pI i.toNat j.toNat k.toNat < 286 := fun z => pI_lt (by omega)
  refine g_istore (l1 := [(5, aI r), (0, aO (some (c + 17))), (1, aI a), (2, aI i), (3, aI j), (4, aI k)]) rfl rfl ?_
  refine g_iload rfl rfl ?_
  refine g_if_lt rfl (fun cq12 => ?_) (fun cq12 => ?_)
  · skip
    refine g_lconst0 rfl ?_
    refine g_goto rfl ?_
    refine g_lret rfl ?_
    refine ⟨rfl, ?_⟩
    first
      | (rw [if_pos (by omega)]; exact (xp.2 a.toNat (by omega)).2.2.2.2 _ (by omega))
      | (refine (if_neg ?_).symm; intro z; have := hr1 z.2; omega)
      | (refine (if_neg ?_).symm; intro z; omega)
  · skip
    refine g_iload rfl rfl ?_
    refine g_sipush rfl ?_
    have hij : 0 ≤ i ∧ 0 ≤ j ∧ 0 ≤ k ∧ i + j + k ≤ 10 := Decidable.byContradiction fun z => by have := hr2 z; omega
    have hr3 := hr1 hij
    have hr4 := hpl hij
    refine g_icmp_ge_f rfl (by omega) ?_
    refine g_aload_n rfl rfl ?_
    refine g_iload_n rfl rfl ?_
    refine g_callVI [aI a] [] rfl rfl rfl rfl (Nat.le_of_ble_eq_true rfl) (cs.kd 17 (by omega) rfl) (x_pHas (by omega) cs V xe xp ok a) ?_
    rintro r hx ⟨ehx, rfl⟩
    rw [ehx]
    clear ehx hx
    refine g_b_ne rfl (fun cq28 => ?_) (fun cq28 => ?_)
    · skip
      refine g_aload_n rfl rfl ?_
      refine g_getR rfl (cs.kd 17 (by omega) rfl) (cs.rf 26 (by omega) rfl) ?_
      refine g_iload_n rfl rfl ?_
      refine g_aald (i := a.toNat) rfl (cs.ar 22 (by omega) rfl) (by decide) (by omega) (by omega) ((xp.2 a.toNat (by omega)).1) ?_
      refine g_iload rfl rfl ?_
      refine g_lald (i := pI i.toNat j.toNat k.toNat) rfl ((xp.2 a.toNat (by omega)).2.1) (by omega) (by omega) ?_
      refine g_top (v2 := aJ (V ((ρ a.toNat)) (pI i.toNat j.toNat k.toNat))) (congrArg aJ (by rfl)) ?_
      refine g_lret rfl ?_
      refine ⟨rfl, ?_⟩
      first
        | (rw [if_pos (by omega)]; exact (xp.2 a.toNat (by omega)).2.2.2.2 _ (by omega))
        | (refine (if_neg ?_).symm; intro z; have := hr1 z.2; omega)
        | (refine (if_neg ?_).symm; intro z; omega)
    · skip
      refine g_lconst0 rfl ?_
      refine g_goto rfl ?_
      refine g_lret rfl ?_
      refine ⟨rfl, ?_⟩
      first
        | (rw [if_pos (by omega)]; exact (xp.2 a.toNat (by omega)).2.2.2.2 _ (by omega))
        | (refine (if_neg ?_).symm; intro z; have := hr1 z.2; omega)
        | (refine (if_neg ?_).symm; intro z; omega)
set_option maxRecDepth 100000 in
theorem x_pSame {w : aW} {d : Nat} (hd : 3 ≤ d) {h : aH} {c : Nat} (cs : CS h c) (V : Nat → Nat → Int) (xe : XE V c) {S : aS} {ρ : Nat → Nat} (xp : XP h V c S ρ) (ok : OkP S) (a : Nat) (ha : a < sPn S) (b : Nat) (hb : b < sPn S) : WP w d 140 [aO (some (c + 17)), aI ((a : Int)), aI ((b : Int))] (hw h V) (RI (fun r h1 => h1 = hw h V ∧ r = if bt (∀ t < 286, sPc S a t = sPc S b t) = true then 1 else 0)) := by
  obtain ⟨d, rfl⟩ : ∃ d1, d = d1 + 1 := ⟨d - 1, by omega⟩
  refine WP.enter (cd := cd_X4_areSame) rfl ?_
  have hok := ok.1
  have hls : largs 0 [aO (some (c + 17)), aI ((a : Int)), aI ((b : Int))] = [(0, aO (some (c + 17))), (1, aI ((a : Int))), (2, aI ((b : Int)))] := rfl
  rw [hls]
  clear hls
  have l20 : ∀ (fuel : Nat) (i : Nat), (i ≤ 286) → (∀ t < i, sPc S a t = sPc S b t) → 286 - i < fuel → Wk w d cd_X4_areSame 20 [(3, aI ((i : Int))), (0, aO (some (c + 17))), (1, aI ((a : Int))), (2, aI ((b : Int)))] [] (hw h V) (RI (fun r h1 => h1 = hw h V ∧ r = if bt (∀ t < 286, sPc S a t = sPc S b t) = true then 1 else 0)) := by
    intro fuel
    induction fuel with
    | zero => intros; omega
    | succ fuel ih20 =>
      intro i hi hs hfuel
      refine g_iload_n rfl rfl ?_
      refine g_sipush rfl ?_
      refine g_icmp_ge rfl (fun cq24 => ?_) (fun cq24 => ?_)
      · skip
        refine g_iconst rfl ?_
        refine g_zret rfl (by omega) ?_
        refine ⟨rfl, (if_pos ?_).symm⟩
        exact bt_iff.mpr fun t ht => hs t (by omega)
      · skip
        refine g_aload_n rfl rfl ?_
        refine g_getR rfl (cs.kd 17 (by omega) rfl) (cs.rf 26 (by omega) rfl) ?_
        refine g_iload_n rfl rfl ?_
        refine g_aald (i := a) rfl (cs.ar 22 (by omega) rfl) (by decide) (by omega) (by omega) ((xp.2 a (by omega)).1) ?_
        refine g_iload_n rfl rfl ?_
        refine g_lald (i := i) rfl ((xp.2 a (by omega)).2.1) (by omega) (by omega) ?_
        refine g_top (v2 := aJ (V ((ρ a)) i)) (congrArg aJ (by rfl)) ?_
        refine g_aload_n rfl rfl ?_
        refine g_getR rfl (cs.kd 17 (by omega) rfl) (cs.rf 26 (by omega) rfl) ?_
        refine g_iload_n rfl rfl ?_
        refine g_aald (i := b) rfl (cs.ar 22 (by omega) rfl) (by decide) (by omega) (by omega) ((xp.2 b (by omega)).1) ?_
        refine g_iload_n rfl rfl ?_
        refine g_lald (i := i) rfl ((xp.2 b (by omega)).2.1) (by omega) (by omega) ?_
        refine g_top (v2 := aJ (V ((ρ b)) i)) (congrArg aJ (by rfl)) ?_
        refine g_lc_eq rfl rfl (fun cq43 => ?_) (fun cq43 => ?_)
        · skip
          refine g_iinc (l1 := [(3, aI ((i : Int) + 1)), (0, aO (some (c + 17))), (1, aI ((a : Int))), (2, aI ((b : Int)))]) rfl rfl (by omega) (by omega) rfl ?_
          refine g_goto rfl ?_
          exact ih20 (i + 1) (by omega) (by exact fun t ht => if e : t = i then by (subst e; rw [← (xp.2 a ha).2.2.2.2 t (by omega), ← (xp.2 b hb).2.2.2.2 t (by omega)]; omega) else hs t (by omega)) (by omega)
        · skip
          refine g_iconst rfl ?_
          refine g_zret rfl (by omega) ?_
          refine ⟨rfl, (if_neg ?_).symm⟩
          intro z
          have z1 := bt_iff.mp z i (by omega)
          rw [← (xp.2 a ha).2.2.2.2 i (by omega), ← (xp.2 b hb).2.2.2.2 i (by omega)] at z1
          omega
  refine g_aload_n rfl rfl ?_
  refine g_iload_n rfl rfl ?_
  refine g_callVI [aI ((a : Int))] [] rfl rfl rfl rfl (Nat.le_of_ble_eq_true rfl) (cs.kd 17 (by omega) rfl) (x_pHas (by omega) cs V xe xp ok ((a : Int))) ?_
  rintro r hx ⟨ehx, rfl⟩
  rw [ehx, if_pos (by omega)]
  clear ehx hx
  refine g_if_eq_f rfl (by omega) ?_
  refine g_aload_n rfl rfl ?_
  refine g_iload_n rfl rfl ?_
  refine g_callVI [aI ((b : Int))] [] rfl rfl rfl rfl (Nat.le_of_ble_eq_true rfl) (cs.kd 17 (by omega) rfl) (x_pHas (by omega) cs V xe xp ok ((b : Int))) ?_
  rintro r hx ⟨ehx, rfl⟩
  rw [ehx, if_pos (by omega)]
  clear ehx hx
  refine g_if_ne_t rfl (by omega) ?_
  refine g_iconst rfl ?_
  refine g_istore_n (l1 := [(3, aI 0), (0, aO (some (c + 17))), (1, aI ((a : Int))), (2, aI ((b : Int)))]) rfl rfl ?_
  exact l20 _ 0 (by omega) (by exact fun t ht => by omega) (Nat.lt_succ_self _)
def gtX (f : Nat → Int) : Nat → Nat := fun n => itN (fun t m => if f t = 0 then m else max m (pE t).1) n 0
theorem gtX_le (f : Nat → Int) : ∀ n, n ≤ 286 → gtX f n ≤ 10
  | 0, _ => Nat.zero_le _
  | n + 1, h => by
    have ih := gtX_le f n (by omega)
    have e : gtX f (n + 1) = if f n = 0 then gtX f n else max (gtX f n) (pE n).1 := rfl
    have h1 := (pI_pE n (by omega)).1
    rw [e]
    split <;> omega
def onX : Nat → Int := fun t => if t = 0 then 1 else 0
def putG (f g : Nat → Int) (m e : Nat) (R P : Nat → Int) : Prop := (okX (prt f e) P ∧ smX (mulX (prt f e) P)) ∧ smX (fun t => R t + mulX (prt f e) P t) ∧ (e < m → okX P g ∧ smX (mulX P g))
abbrev pS : Type := Bool × (Nat → Int) × (Nat → Int)
noncomputable def putS (f g : Nat → Int) (m e : Nat) (u : pS) : pS := if u.1 = true then (bt (putG f g m e u.2.1 u.2.2), (fun t => u.2.1 t + mulX (prt f e) u.2.2 t), if e < m then mulX u.2.2 g else u.2.2) else u
noncomputable def putI (f g : Nat → Int) (m n : Nat) : pS := itN (putS f g m) n (true, (fun _ => 0), onX)
noncomputable def putX (f g : Nat → Int) : pS := putI f g (gtX f 286) (gtX f 286 + 1)
theorem put_step {f g R P : Nat → Int} {m e : Nat} (hu : putI f g m e = (true, R, P)) (hg : putG f g m e R P) : putI f g m (e + 1) = (true, (fun t => R t + mulX (prt f e) P t), if e < m then mulX P g else P) := by
  show putS f g m e (putI f g m e) = _
  rw [hu]
  unfold putS
  rw [if_pos rfl]
  dsimp only
  rw [bt_iff.mpr hg]
theorem put_stuck {f g : Nat → Int} {m : Nat} : ∀ k n, (putI f g m n).1 = false → (putI f g m (n + k)).1 = false
  | 0, _, h => h
  | k + 1, n, h => by
    have ih := put_stuck k n h
    show (putS f g m (n + k) (putI f g m (n + k))).1 = false
    unfold putS
    rw [if_neg (by rw [ih]; decide)]
    exact ih
theorem put_bad {f g R P : Nat → Int} {m e : Nat} (he : e ≤ m) (hu : putI f g m e = (true, R, P)) (hg : ¬ putG f g m e R P) : (putI f g m (m + 1)).1 = false := by
  have h1 : (putI f g m (e + 1)).1 = false := by
    show (putS f g m e (putI f g m e)).1 = false
    rw [hu]
    unfold putS
    rw [if_pos rfl]
    dsimp only
    cases q : bt (putG f g m e R P)
    · rfl
    · exact absurd (bt_iff.mp q) hg
  have := put_stuck (f := f) (g := g) (m := m) (m - e) (e + 1) h1
  rw [show e + 1 + (m - e) = m + 1 by omega] at this
  exact this
theorem prt_sm {f : Nat → Int} (h : smX f) (e : Nat) : smX (prt f e) := fun t ht => by
  unfold prt
  by_cases g : (pE t).1 = 0 ∧ e + (pE t).2.1 + (pE t).2.2 ≤ 10
  · rw [if_pos g]
    exact h _ (pI_lt g.2)
  · rw [if_neg g]
    omega
theorem on_sm : smX onX := fun t _ => by
  unfold onX
  split <;> omega
set_option maxRecDepth 100000 in
theorem x_pput {w : aW} {d : Nat} (hd : 5 ≤ d) {h : aH} {c : Nat} (cs : CS h c) (V : Nat → Nat → Int) (xe : XE V c) (ra rb : Nat) (ta : hT h ra = (2, 286)) (tb : hT h rb = (2, 286)) (hra : ra < c + 23 ∨ c + 26 < ra) (hrb : rb < c + 23 ∨ c + 26 < rb) (ba : smX (V ra)) (bb : smX (V rb)) : WP w d 137 [aO (some (c + 17)), aO (some ra), aO (some rb)] (hw h V) (RI (fun r h1 => ∃ V1, h1 = hw h V1 ∧ (∀ a, (a < c + 23 ∨ c + 26 < a) → V1 a = V a) ∧ (((putX (V ra) (V rb)).1 = false ∧ r = 0) ∨ ((putX (V ra) (V rb)).1 = true ∧ (∀ t < 286, V1 (c + 23) t = (putX (V ra) (V rb)).2.1 t) ∧ r = 1)))) := by
  obtain ⟨d, rfl⟩ : ∃ d1, d = d1 + 1 := ⟨d - 1, by omega⟩
  refine WP.enter (cd := cd_X4_putIn) rfl ?_
  have hls : largs 0 [aO (some (c + 17)), aO (some ra), aO (some rb)] = [(0, aO (some (c + 17))), (1, aO (some ra)), (2, aO (some rb))] := rfl
  rw [hls]
  clear hls
  have l70 : ∀ (m : Nat), (m = gtX (V ra) 286) → ∀ (fuel : Nat) (e : Nat) (V2 : Nat → Nat → Int) (R P : Nat → Int), (e ≤ m + 1) → (∀ a, (a < c + 23 ∨ c + 26 < a) → V2 a = V a) → (putI (V ra) (V rb) m e = (true, R, P)) → (∀ t < 286, V2 (c + 23) t = R t) → (∀ t < 286, V2 (c + 24) t = P t) → (smX R) → (smX P) → m + 1 - e < fuel → Wk w d cd_X4_putIn 70 [(4, aI ((e : Int))), (3, aI ((m : Int))), (0, aO (some (c + 17))), (1, aO (some ra)), (2, aO (some rb))] [] (hw h V2) (RI (fun r h1 => ∃ V1, h1 = hw h V1 ∧ (∀ a, (a < c + 23 ∨ c + 26 < a) → V1 a = V a) ∧ (((putX (V ra) (V rb)).1 = false ∧ r = 0) ∨ ((putX (V ra) (V rb)).1 = true ∧ (∀ t < 286, V1 (c + 23) t = (putX (V ra) (V rb)).2.1 t) ∧ r = 1)))) := by
    intro m em fuel
    induction fuel with
    | zero => intros; omega
    | succ fuel ih70 =>
      intro e V2 R P he hf2 hu hR hP sR sP hfuel
      have e1 : V2 ra = V ra := hf2 ra hra
      have e2 : V2 rb = V rb := hf2 rb hrb
      have xe2 : XE V2 c := xe.fr (fun a h1 h2 => hf2 a (by omega))
      have hml : m ≤ 10 := by rw [em]; exact gtX_le _ _ (Nat.le_refl _)
      refine g_iload rfl rfl ?_
      refine g_iload_n rfl rfl ?_
      refine g_icmp_gt rfl (fun cq73 => ?_) (fun cq73 => ?_)
      · skip
        refine g_iconst rfl ?_
        refine g_zret rfl (by omega) ?_
        refine ⟨V2, rfl, hf2, Or.inr ?_⟩
        have eX : putX (V ra) (V rb) = (true, R, P) := by
          unfold putX
          rw [← em, show m + 1 = e by omega]
          exact hu
        rw [eX]
        exact ⟨rfl, hR, rfl⟩
      · skip
        refine g_aload_n rfl rfl ?_
        refine g_aload_n rfl rfl ?_
        refine g_iload rfl rfl ?_
        refine g_callVN [aO (some ra), aI ((e : Int))] [] rfl rfl rfl rfl (Nat.le_of_ble_eq_true rfl) (cs.kd 17 (by omega) rfl) (x_ptake (by omega) cs V2 xe2 ra e ta (by omega)) ?_
        rintro _ ⟨V3, rfl, hf3, hz3⟩
        have p1 : ∀ t < 286, V3 (c + 26) t = prt (V ra) e t := fun t ht => by rw [hz3 t ht, e1]
        have p2 : ∀ t < 286, V3 (c + 24) t = P t := fun t ht => by rw [hf3 _ (by omega)]; exact hP t ht
        have xe3 : XE V3 c := xe2.fr (fun a h1 h2 => hf3 a (by omega))
        refine g_aload_n rfl rfl ?_
        refine g_aload_n rfl rfl ?_
        refine g_getR rfl (cs.kd 17 (by omega) rfl) (cs.rf 30 (by omega) rfl) ?_
        refine g_aload_n rfl rfl ?_
        refine g_getR rfl (cs.kd 17 (by omega) rfl) (cs.rf 28 (by omega) rfl) ?_
        refine g_aload_n rfl rfl ?_
        refine g_getR rfl (cs.kd 17 (by omega) rfl) (cs.rf 29 (by omega) rfl) ?_
        refine g_callVI [aO (some (c + 26)), aO (some (c + 24)), aO (some (c + 25))] [] rfl rfl rfl rfl (Nat.le_of_ble_eq_true rfl) (cs.kd 17 (by omega) rfl) (x_pmul (by omega) cs V3 xe3 (c + 26) (c + 24) (c + 25) (cs.ar 26 (by omega) rfl) (cs.ar 24 (by omega) rfl) (cs.ar 25 (by omega) rfl) (by omega) (by omega) (by omega) ((smX_co p1).mpr (prt_sm ba e)) ((smX_co p2).mpr sP)) ?_
        rintro r _ ⟨V4, rfl, hf4, hq4⟩
        rw [mul_sm p1 p2, okX_co p1 p2] at hq4
        refine g_if_eq rfl (fun cq99 => ?_) (fun cq99 => ?_)
        · skip
          refine g_iconst rfl ?_
          refine g_zret rfl (by omega) ?_
          refine ⟨_, rfl, ?_, Or.inl ⟨?_, rfl⟩⟩
          · first
              | (exact hfD)
              | (intro a ha; rw [hf4 _ (by omega), hf3 _ (by omega)]; exact hf2 a ha)
          · unfold putX
            rw [← em]
            refine put_bad (by omega) hu ?_
            intro z
            first
              | (exact cq115 (bt_iff.mpr z.2.1))
              | (rcases hq4 with y | y; exact y.1 z.1.1; have h9 := y.2.2; rw [if_pos (bt_iff.mpr z.1.2)] at h9; omega)
        · skip
          have hm4 : okX (prt (V ra) e) P ∧ (∀ t < 286, V4 (c + 25) t = mulX (prt (V ra) e) P t) ∧ r = if bt (smX (mulX (prt (V ra) e) P)) = true then 1 else 0 := hq4.resolve_left (fun z => by have := z.2; omega)
          have sM : smX (mulX (prt (V ra) e) P) := bt_iff.mp (Decidable.byContradiction fun z => by have h9 := hm4.2.2; rw [if_neg z] at h9; omega)
          have p4 : ∀ t < 286, V4 (c + 23) t = R t := fun t ht => by rw [hf4 _ (by omega), hf3 _ (by omega)]; exact hR t ht
          refine g_aload_n rfl rfl ?_
          refine g_aload_n rfl rfl ?_
          refine g_getR rfl (cs.kd 17 (by omega) rfl) (cs.rf 27 (by omega) rfl) ?_
          refine g_aload_n rfl rfl ?_
          refine g_getR rfl (cs.kd 17 (by omega) rfl) (cs.rf 29 (by omega) rfl) ?_
          refine g_iconst rfl ?_
          refine g_callVI [aO (some (c + 23)), aO (some (c + 25)), aI 1] [] rfl rfl rfl rfl (Nat.le_of_ble_eq_true rfl) (cs.kd 17 (by omega) rfl) (x_padd (by omega) cs V4 (c + 23) (c + 25) (cs.ar 23 (by omega) rfl) (cs.ar 25 (by omega) rfl) (by omega) 1 (Or.inl rfl) ((smX_co p4).mpr sR) ((smX_co hm4.2.1).mpr sM)) ?_
          rintro r5 hx5 ⟨V5, rfl, hf5, hz5, ehx5⟩
          have p7 : ∀ t < 286, V5 (c + 23) t = R t + mulX (prt (V ra) e) P t := fun t ht => by rw [hz5 t ht, p4 t ht, hm4.2.1 t ht, Int.one_mul]
          rw [ehx5, bt_co (smX_co (g := fun t => R t + mulX (prt (V ra) e) P t) p7)]
          clear ehx5
          have p5 : ∀ t < 286, V5 (c + 24) t = P t := fun t ht => by rw [hf5 _ (by omega), hf4 _ (by omega)]; exact p2 t ht
          have p6 : V5 rb = V rb := by rw [hf5 _ (by omega), hf4 _ (by omega), hf3 _ (by omega)]; exact e2
          have xe5 : XE V5 c := xe3.fr (fun a h1 h2 => by rw [hf5 _ (by omega), hf4 _ (by omega)])
          have hfD : ∀ a, (a < c + 23 ∨ c + 26 < a) → V5 a = V a := fun a ha => by rw [hf5 _ (by omega), hf4 _ (by omega), hf3 _ (by omega)]; exact hf2 a ha
          refine g_b_ne rfl (fun cq115 => ?_) (fun cq115 => ?_)
          · skip
            refine g_iload rfl rfl ?_
            refine g_iload_n rfl rfl ?_
            refine g_icmp_ge rfl (fun cq123 => ?_) (fun cq123 => ?_)
            · skip
              refine g_iinc (l1 := [(4, aI ((e : Int) + 1)), (3, aI ((m : Int))), (0, aO (some (c + 17))), (1, aO (some ra)), (2, aO (some rb))]) rfl rfl (by omega) (by omega) rfl ?_
              refine g_goto rfl ?_
              exact ih70 (e + 1) _ (fun t => R t + mulX (prt (V ra) e) P t) (if e < m then mulX P (V rb) else P) (by omega) (by first | exact hfE | exact hfD) (by first | exact put_step hu hG | exact put_step hu ⟨⟨hm4.1, sM⟩, bt_iff.mp cq115, fun z => absurd z (by omega)⟩) (by exact fun t ht => by first | (rw [hf7 _ (by omega), hf6 _ (by omega)]; exact p7 t ht) | exact p7 t ht) (by exact fun t ht => by first | (rw [if_pos (show e < m by omega), hz7 t ht]; exact hm6.2.1 t ht) | (rw [if_neg (show ¬ e < m by omega)]; exact p5 t ht)) (by exact bt_iff.mp cq115) (by first | (rw [if_pos (show e < m by omega)]; exact sN) | (rw [if_neg (show ¬ e < m by omega)]; exact sP)) (by omega)
            · skip
              refine g_aload_n rfl rfl ?_
              refine g_aload_n rfl rfl ?_
              refine g_getR rfl (cs.kd 17 (by omega) rfl) (cs.rf 28 (by omega) rfl) ?_
              refine g_aload_n rfl rfl ?_
              refine g_aload_n rfl rfl ?_
              refine g_getR rfl (cs.kd 17 (by omega) rfl) (cs.rf 29 (by omega) rfl) ?_
              refine g_callVI [aO (some (c + 24)), aO (some rb), aO (some (c + 25))] [] rfl rfl rfl rfl (Nat.le_of_ble_eq_true rfl) (cs.kd 17 (by omega) rfl) (x_pmul (by omega) cs V5 xe5 (c + 24) rb (c + 25) (cs.ar 24 (by omega) rfl) tb (cs.ar 25 (by omega) rfl) (by omega) (by omega) (by omega) ((smX_co p5).mpr sP) (by rw [p6]; exact bb)) ?_
              rintro r _ ⟨V6, rfl, hf6, hq6⟩
              rw [mul_sm p5 (fun t _ => congrFun p6 t), okX_co p5 (fun t _ => congrFun p6 t)] at hq6
              refine g_if_ne rfl (fun cq139 => ?_) (fun cq139 => ?_)
              · skip
                have hm6 : okX P (V rb) ∧ (∀ t < 286, V6 (c + 25) t = mulX P (V rb) t) ∧ r = if bt (smX (mulX P (V rb))) = true then 1 else 0 := hq6.resolve_left (fun z => by have := z.2; omega)
                have sN : smX (mulX P (V rb)) := bt_iff.mp (Decidable.byContradiction fun z => by have h9 := hm6.2.2; rw [if_neg z] at h9; omega)
                have hG : putG (V ra) (V rb) m e R P := ⟨⟨hm4.1, sM⟩, bt_iff.mp cq115, fun _ => ⟨hm6.1, sN⟩⟩
                refine g_aload_n rfl rfl ?_
                refine g_aload_n rfl rfl ?_
                refine g_getR rfl (cs.kd 17 (by omega) rfl) (cs.rf 29 (by omega) rfl) ?_
                refine g_aload_n rfl rfl ?_
                refine g_getR rfl (cs.kd 17 (by omega) rfl) (cs.rf 28 (by omega) rfl) ?_
                refine g_callVN [aO (some (c + 25)), aO (some (c + 24))] [] rfl rfl rfl rfl (Nat.le_of_ble_eq_true rfl) (cs.kd 17 (by omega) rfl) (x_copy (by omega) cs V6 (c + 25) (c + 24) (cs.ar 25 (by omega) rfl) (cs.ar 24 (by omega) rfl) (by omega)) ?_
                rintro _ ⟨V7, rfl, hf7, hz7⟩
                have hfE : ∀ a, (a < c + 23 ∨ c + 26 < a) → V7 a = V a := fun a ha => by rw [hf7 _ (by omega), hf6 _ (by omega)]; exact hfD a ha
                refine g_iinc (l1 := [(4, aI ((e : Int) + 1)), (3, aI ((m : Int))), (0, aO (some (c + 17))), (1, aO (some ra)), (2, aO (some rb))]) rfl rfl (by omega) (by omega) rfl ?_
                refine g_goto rfl ?_
                exact ih70 (e + 1) _ (fun t => R t + mulX (prt (V ra) e) P t) (if e < m then mulX P (V rb) else P) (by omega) (by first | exact hfE | exact hfD) (by first | exact put_step hu hG | exact put_step hu ⟨⟨hm4.1, sM⟩, bt_iff.mp cq115, fun z => absurd z (by omega)⟩) (by exact fun t ht => by first | (rw [hf7 _ (by omega), hf6 _ (by omega)]; exact p7 t ht) | exact p7 t ht) (by exact fun t ht => by first | (rw [if_pos (show e < m by omega), hz7 t ht]; exact hm6.2.1 t ht) | (rw [if_neg (show ¬ e < m by omega)]; exact p5 t ht)) (by exact bt_iff.mp cq115) (by first | (rw [if_pos (show e < m by omega)]; exact sN) | (rw [if_neg (show ¬ e < m by omega)]; exact sP)) (by omega)
              · skip
                refine g_iconst rfl ?_
                refine g_zret rfl (by omega) ?_
                refine ⟨V6, rfl, fun a ha => by rw [hf6 _ (by omega)]; exact hfD a ha, Or.inl ⟨?_, rfl⟩⟩
                unfold putX
                rw [← em]
                refine put_bad (by omega) hu ?_
                intro z
                have z1 := z.2.2 (by omega)
                rcases hq6 with y | y
                · exact y.1 z1.1
                · have h9 := y.2.2
                  rw [if_pos (bt_iff.mpr z1.2)] at h9
                  omega
          · skip
            refine g_iconst rfl ?_
            refine g_zret rfl (by omega) ?_
            refine ⟨_, rfl, ?_, Or.inl ⟨?_, rfl⟩⟩
            · first
                | (exact hfD)
                | (intro a ha; rw [hf4 _ (by omega), hf3 _ (by omega)]; exact hf2 a ha)
            · unfold putX
              rw [← em]
              refine put_bad (by omega) hu ?_
              intro z
              first
                | (exact cq115 (bt_iff.mpr z.2.1))
                | (rcases hq4 with y | y; exact y.1 z.1.1; have h9 := y.2.2; rw [if_pos (bt_iff.mpr z.1.2)] at h9; omega)
  have l5 : ∀ (fuel : Nat) (i : Nat) (gr : Int), (i ≤ 286) → (gr = (gtX (V ra) i : Nat)) → 286 - i < fuel → Wk w d cd_X4_putIn 5 [(4, aI ((i : Int))), (3, aI gr), (0, aO (some (c + 17))), (1, aO (some ra)), (2, aO (some rb))] [] (hw h V) (RI (fun r h1 => ∃ V1, h1 = hw h V1 ∧ (∀ a, (a < c + 23 ∨ c + 26 < a) → V1 a = V a) ∧ (((putX (V ra) (V rb)).1 = false ∧ r = 0) ∨ ((putX (V ra) (V rb)).1 = true ∧ (∀ t < 286, V1 (c + 23) t = (putX (V ra) (V rb)).2.1 t) ∧ r = 1)))) := by
    intro fuel
    induction fuel with
    | zero => intros; omega
    | succ fuel ih5 =>
      intro i gr hi hg hfuel
      have hgl := gtX_le (V ra) i hi
      refine g_iload rfl rfl ?_
      refine g_sipush rfl ?_
      refine g_icmp_ge rfl (fun cq10 => ?_) (fun cq10 => ?_)
      · skip
        obtain ⟨m, em⟩ : ∃ m : Nat, m = gtX (V ra) 286 := ⟨_, rfl⟩
        obtain rfl : gr = (m : Int) := by rw [hg, em, show i = 286 by omega]
        refine g_aload_n rfl rfl ?_
        refine g_aload_n rfl rfl ?_
        refine g_getR rfl (cs.kd 17 (by omega) rfl) (cs.rf 27 (by omega) rfl) ?_
        refine g_callVN [aO (some (c + 23))] [] rfl rfl rfl rfl (Nat.le_of_ble_eq_true rfl) (cs.kd 17 (by omega) rfl) (x_clear (by omega) cs V (c + 23) (cs.ar 23 (by omega) rfl)) ?_
        rintro _ ⟨VA, rfl, hfA, hzA⟩
        refine g_aload_n rfl rfl ?_
        refine g_aload_n rfl rfl ?_
        refine g_getR rfl (cs.kd 17 (by omega) rfl) (cs.rf 28 (by omega) rfl) ?_
        refine g_callVN [aO (some (c + 24))] [] rfl rfl rfl rfl (Nat.le_of_ble_eq_true rfl) (cs.kd 17 (by omega) rfl) (x_clear (by omega) cs VA (c + 24) (cs.ar 24 (by omega) rfl)) ?_
        rintro _ ⟨VB, rfl, hfB, hzB⟩
        refine g_aload_n rfl rfl ?_
        refine g_getR rfl (cs.kd 17 (by omega) rfl) (cs.rf 28 (by omega) rfl) ?_
        refine g_iconst rfl ?_
        refine g_lconst1 rfl ?_
        refine g_last (i := 0) rfl (cs.ar 24 (by omega) rfl) (by omega) (by omega) ?_
        refine g_hp (h2 := hw h (vset VB (c + 24) 0 1)) rfl ?_
        refine g_iconst rfl ?_
        refine g_istore (l1 := [(4, aI 0), (3, aI ((m : Int))), (0, aO (some (c + 17))), (1, aO (some ra)), (2, aO (some rb))]) rfl rfl ?_
        exact l70 m (by exact em) _ 0 _ (fun _ => 0) onX (by omega) (by exact fun a ha => by funext j; rw [vset_ne _ _ _ _ (by omega), hfB a (by omega), hfA a (by omega)]) (by rfl) (by exact fun t ht => by rw [vset_ne _ _ _ _ (by omega), hfB _ (by omega)]; exact hzA t ht) (by exact fun t ht => by unfold onX; by_cases y : t = 0; (rw [y, vset_eq, if_pos rfl]); (rw [vset_ne _ _ _ _ (by omega), if_neg y]; exact hzB t ht)) (by exact sm_none) (by exact on_sm) (Nat.lt_succ_self _)
      · skip
        refine g_aload_n rfl rfl ?_
        refine g_iload rfl rfl ?_
        refine g_lald (i := i) rfl ta (by omega) (by omega) ?_
        refine g_top (v2 := aJ (V ra i)) (congrArg aJ (by rfl)) ?_
        refine g_lconst0 rfl ?_
        refine g_lc_eq rfl rfl (fun cq18 => ?_) (fun cq18 => ?_)
        · skip
          refine g_iload_n rfl rfl ?_
          refine g_istore_n (l1 := [(3, aI gr), (4, aI ((i : Int))), (0, aO (some (c + 17))), (1, aO (some ra)), (2, aO (some rb))]) rfl rfl ?_
          refine g_iinc (l1 := [(4, aI ((i : Int) + 1)), (3, aI gr), (0, aO (some (c + 17))), (1, aO (some ra)), (2, aO (some rb))]) rfl rfl (by omega) (by omega) rfl ?_
          refine g_goto rfl ?_
          exact ih5 (i + 1) _ (by omega) (by show _ = ((if V ra i = 0 then gtX (V ra) i else max (gtX (V ra) i) (pE i).1 : Nat) : Int); first | (rw [if_pos (by omega)]; exact hg) | (rw [if_neg (by omega), hg]; omega)) (by omega)
        · skip
          refine g_iload_n rfl rfl ?_
          refine g_aload_n rfl rfl ?_
          refine g_getR rfl (cs.kd 17 (by omega) rfl) (cs.rf 22 (by omega) rfl) ?_
          refine g_iload rfl rfl ?_
          refine g_iald (i := i) rfl (cs.ar 18 (by omega) rfl) (by omega) (by omega) ?_
          refine g_top (v2 := aI ((((pE i).1 : Nat) : Int))) (congrArg aI (by exact (xe.1 i (by omega)).1)) ?_
          refine g_callSI [aI gr, aI ((((pE i).1 : Nat) : Int))] [] rfl rfl rfl rfl (Nat.le_of_ble_eq_true rfl) (c_imax (by omega) gr ((((pE i).1 : Nat) : Int)) _) ?_
          rintro _ _ ⟨rfl, rfl⟩
          refine g_goto rfl ?_
          refine g_istore_n (l1 := [(3, aI (max (gr) ((((pE i).1 : Nat) : Int)))), (4, aI ((i : Int))), (0, aO (some (c + 17))), (1, aO (some ra)), (2, aO (some rb))]) rfl rfl ?_
          refine g_iinc (l1 := [(4, aI ((i : Int) + 1)), (3, aI (max (gr) ((((pE i).1 : Nat) : Int)))), (0, aO (some (c + 17))), (1, aO (some ra)), (2, aO (some rb))]) rfl rfl (by omega) (by omega) rfl ?_
          refine g_goto rfl ?_
          exact ih5 (i + 1) _ (by omega) (by show _ = ((if V ra i = 0 then gtX (V ra) i else max (gtX (V ra) i) (pE i).1 : Nat) : Int); first | (rw [if_pos (by omega)]; exact hg) | (rw [if_neg (by omega), hg]; omega)) (by omega)
  refine g_iconst rfl ?_
  refine g_istore_n (l1 := [(3, aI 0), (0, aO (some (c + 17))), (1, aO (some ra)), (2, aO (some rb))]) rfl rfl ?_
  refine g_iconst rfl ?_
  refine g_istore (l1 := [(4, aI 0), (3, aI 0), (0, aO (some (c + 17))), (1, aO (some ra)), (2, aO (some rb))]) rfl rfl ?_
  exact l5 _ 0 _ (by omega) (by rfl) (Nat.lt_succ_self _)
