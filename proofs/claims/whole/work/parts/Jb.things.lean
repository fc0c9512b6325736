/-! one picture of both sides: things: printed by wip/whole/ja.py (Jb) -/
theorem keepT_fr {S : aS} {s : Int} {R : T4} : (keepT S s R).2.1 = S.1 ∧ (keepT S s R).2.2.2 = S.2.2 := by
  unfold keepT
  split <;> exact ⟨rfl, rfl⟩
theorem keepM_fr {S : aS} {s : Int} {O : Option T4} : (keepM S s O).2.1 = S.1 ∧ (keepM S s O).2.2.2 = S.2.2 := by
  cases O with
  | none => exact ⟨rfl, rfl⟩
  | some R => exact keepT_fr
theorem stepM_fr {S : aS} {sa sb s a b : Int} {O : Option T4} : (stepM S sa sb s a b O).2.1 = S.1 ∧ (stepM S sa sb s a b O).2.2.2 = S.2.2 := by
  unfold stepM
  split
  · exact keepM_fr
  · exact ⟨rfl, rfl⟩
theorem step0M_fr {S : aS} {a b : Int} : (step0M S a b).2.1 = S.1 ∧ (step0M S a b).2.2.2 = S.2.2 := by
  unfold step0M
  split
  · exact keepM_fr
  · exact ⟨rfl, rfl⟩
theorem threeM_fr {S : aS} {s a b e : Int} {O : Option T4} : (threeM S s a b e O).2.1 = S.1 ∧ (threeM S s a b e O).2.2.2 = S.2.2 := by
  unfold threeM
  split
  · exact keepM_fr
  · exact ⟨rfl, rfl⟩
theorem three7M_fr {S : aS} {a b e : Int} : (three7M S a b e).2.1 = S.1 ∧ (three7M S a b e).2.2.2 = S.2.2 := by
  unfold three7M
  split
  · exact keepM_fr
  · exact ⟨rfl, rfl⟩
theorem three8M_fr {S : aS} {a b e : Int} : (three8M S a b e).2.1 = S.1 ∧ (three8M S a b e).2.2.2 = S.2.2 := by
  unfold three8M
  split
  · exact keepM_fr
  · exact ⟨rfl, rfl⟩
theorem keepGO_fr {S : aS} {O : Option (Int × Int)} : (keepGO S O).2.2 = S.2 := by
  cases O with
  | none => rfl
  | some R =>
    show (keepG S R.1 R.2).2.2 = S.2
    unfold keepG
    split
    · exact keepN_fr
    · rfl
theorem measM_fr {S : aS} {sa sb sc a b e : Int} {O : Option (Int × Int)} : (measM S sa sb sc a b e O).2.2 = S.2 := by
  unfold measM
  split
  · exact keepGO_fr
  · rfl
theorem keepMQ_ok {S : aS} (ok : OkN S) {O : Option T3} : OkN (keepMQ S O).2 := by
  cases O with
  | none => exact ok
  | some R =>
    show OkN (keepF S R.1 R.2.2).2
    unfold keepF
    split
    · exact spF_ok ok _ _
    · exact ok
theorem if_okN {S : aS} {p : Prop} [Decidable p] {X : Int × aS} (ok : OkN S) (h : OkN X.2) : OkN (if p then X else (-1, S)).2 := by
  split
  · exact h
  · exact ok
theorem xn_fx {H H1 : aH} {c : Nat} {S : aS} {T : Nat → Prop} (f : FX H H1 c T) (hT : ∀ a, T a → a = c + 7 ∨ a = c + 8 ∨ a = c + 9) (hc : c + 67 ≤ hz H) (x : XN (hV H) c S) : XN (hV H1) c S := by
  have own : ∀ a, a = c + 3 ∨ a = c + 4 ∨ a = c + 5 → hV H1 a = hV H a := fun a h => f.2.2.2.2.2 a (by omega) (by omega) (Or.inr (by omega)) (fun q => by have := hT a q; omega)
  exact x.frJ (by rw [own _ (Or.inl rfl)]) (own _ (Or.inr (Or.inl rfl))) (own _ (Or.inr (Or.inr rfl)))
theorem xt_fx {H H1 : aH} {c : Nat} {S : aS} {T : Nat → Prop} (f : FX H H1 c T) (hT : ∀ a, T a → a = c + 3 ∨ a = c + 4 ∨ a = c + 5) (hc : c + 67 ≤ hz H) (x : XT H c S) : XT H1 c S := by
  have own : ∀ a, a = c + 7 ∨ a = c + 8 ∨ a = c + 9 → hV H1 a = hV H a := fun a h => f.2.2.2.2.2 a (by omega) (by omega) (Or.inr (by omega)) (fun q => by have := hT a q; omega)
  exact x.fr (own _ (Or.inl rfl)) (own _ (Or.inr (Or.inl rfl))) (own _ (Or.inr (Or.inr rfl)))
theorem IX.thg {w : aW} {H : aH} {c : Nat} {S : aS} (x : IX w H c S) {d m : Nat} {as : List aV} {P : Int × aS} (e : P.2.1 = S.1 ∧ P.2.2.2 = S.2.2) (q : WP w d m as H (RI (fun r h1 => FX H h1 c (thT c) ∧ r = P.1 ∧ XT h1 c P.2))) : WP w d m as H (RI (fun r H1 => r = P.1 ∧ IX w H1 c P.2 ∧ KX H H1 c)) := by
  refine q.imp ?_
  rintro _ H1 ⟨r, rfl, f, rfl, xt⟩
  exact ⟨_, rfl, rfl, x.geo f (fun a h => by unfold thT at h; omega) (XN.st e.1 (xn_fx f (fun a h => h) x.ci.2.1 x.xn)) xt e.2⟩
theorem IX.mea {w : aW} {H : aH} {c : Nat} {S : aS} (x : IX w H c S) {d m : Nat} {as : List aV} {P : Int × aS} (e : P.2.2 = S.2) (q : WP w d m as H (RI (fun r h1 => FX H h1 c (nuT c) ∧ r = P.1 ∧ XN (hV h1) c P.2))) : WP w d m as H (RI (fun r H1 => r = P.1 ∧ IX w H1 c P.2 ∧ KX H H1 c)) := by
  refine q.imp ?_
  rintro _ H1 ⟨r, rfl, f, rfl, xn⟩
  exact ⟨_, rfl, rfl, x.geo f (fun a h => by unfold nuT at h; omega) xn (XT.st (by rw [e]) (xt_fx f (fun a h => h) x.ci.2.1 x.xt)) (by rw [e])⟩
theorem IX.hol {w : aW} {H : aH} {c : Nat} {S : aS} (x : IX w H c S) {d m : Nat} {as : List aV} {R : Int} (q : WP w d m as H (RI (fun r h1 => FX H h1 c (fun _ => False) ∧ r = R))) : WP w d m as H (RI (fun r H1 => r = R ∧ IX w H1 c S ∧ KX H H1 c)) := by
  refine q.imp ?_
  rintro _ H1 ⟨r, rfl, f, rfl⟩
  exact ⟨_, rfl, rfl, x.geo f (fun a h => h.elim) (xn_fx f (fun a h => h.elim) x.ci.2.1 x.xn) (xt_fx f (fun a h => h.elim) x.ci.2.1 x.xt) rfl⟩
theorem IM.thw {H : aH} {o : Nat} {S : aS} (x : IM H o S) {w : aW} {d m : Nat} {as : List aV} {P : Int × aS} (e : P.2.1 = S.1 ∧ P.2.2.2 = S.2.2) (q : WP w d m as (hw H (hV H)) (RI (fun r h1 => ∃ V1, h1 = hw H V1 ∧ FR (hV H) V1 o ∧ r = P.1 ∧ MT V1 o P.2))) : WP w d m as H (RI (fun r H1 => r = P.1 ∧ IM H1 o P.2 ∧ KO H H1 o)) := by
  rw [hw_self] at q
  refine q.imp ?_
  rintro _ _ ⟨r, rfl, V1, rfl, f, rfl, mt⟩
  exact ⟨_, rfl, rfl, x.thg f mt e.1 e.2⟩
theorem IM.mew {H : aH} {o : Nat} {S : aS} (x : IM H o S) {w : aW} {d m : Nat} {as : List aV} {P : Int × aS} (e : P.2.2 = S.2) (q : WP w d m as (hw H (hV H)) (RI (fun r h1 => ∃ V1, h1 = hw H V1 ∧ FQ (hV H) V1 o ∧ r = P.1 ∧ MN V1 o P.2))) : WP w d m as H (RI (fun r H1 => r = P.1 ∧ IM H1 o P.2 ∧ KO H H1 o)) := by
  rw [hw_self] at q
  refine q.imp ?_
  rintro _ _ ⟨r, rfl, V1, rfl, f, rfl, mn⟩
  exact ⟨_, rfl, rfl, x.mea f mn e⟩
theorem IM.how {H : aH} {o : Nat} {S : aS} (x : IM H o S) {w : aW} {d m : Nat} {as : List aV} {R : Int} (q : WP w d m as (hw H (hV H)) (RI (fun r h1 => ∃ V1, h1 = hw H V1 ∧ FS (hV H) V1 o ∧ r = R))) : WP w d m as H (RI (fun r H1 => r = R ∧ IM H1 o S ∧ KO H H1 o)) := by
  rw [hw_self] at q
  refine q.imp ?_
  rintro _ _ ⟨r, rfl, V1, rfl, f, rfl⟩
  exact ⟨_, rfl, rfl, x.hol f⟩
theorem IX.noK {w : aW} {H : aH} {c : Nat} {S : aS} (x : IX w H c S) {d m : Nat} {as : List aV} (q : WP w d m as H (RI (fun r h1 => h1 = H ∧ r = -1))) : WP w d m as H (RI (fun r H1 => r = -1 ∧ IX w H1 c S ∧ KX H H1 c)) := by
  refine q.imp ?_
  rintro _ _ ⟨r, rfl, rfl, rfl⟩
  exact ⟨_, rfl, rfl, x, KX.refl _ _⟩
theorem IM.noK {H : aH} {o : Nat} {S : aS} (x : IM H o S) {w : aW} {d m : Nat} {as : List aV} (q : WP w d m as (hw H (hV H)) (RI (fun r h1 => h1 = hw H (vset (vset (hV H) o 31 0) o 1 0) ∧ r = -1))) : WP w d m as H (RI (fun r H1 => r = -1 ∧ IM H1 o S ∧ KO H H1 o)) := by
  rw [hw_self] at q
  refine q.imp ?_
  rintro _ _ ⟨r, rfl, rfl, rfl⟩
  exact ⟨_, rfl, rfl, x.look (fun a i h1 _ _ => by rw [vset_ne _ _ _ _ (by omega), vset_ne _ _ _ _ (by omega)])⟩
noncomputable def stepF (S : aS) (k a b : Int) : Int × aS := if k = 0 then step0M S a b else if k = 1 then stepM S 0 0 1 a b (m_s1_O S a b) else if k = 2 then stepM S 1 1 0 a b (m_s1_O S a b) else if k = 3 then stepM S 0 0 0 a b (m_s3_O S a b) else if k = 4 then stepM S 0 1 0 a b (m_s4_O S a b) else if k = 5 then stepM S 0 1 1 a b (m_s5_O S a b) else if k = 6 then stepM S 0 1 1 a b (m_s6_O S a b) else if k = 7 then stepM S 0 1 0 a b (m_s7_O S a b) else if k = 8 then stepM S 0 2 0 a b (m_s8_O S a b) else if k = 9 then stepM S 0 2 1 a b (m_s9_O S a b) else if k = 10 then stepM S 1 2 0 a b (m_s10_O S a b) else if k = 11 then stepM S 2 2 1 a b (m_s11_O S a b) else if k = 12 then stepM S 0 0 2 a b (m_s12_O S a b) else if k = 13 then stepM S 0 0 2 a b (m_s13_O S a b) else if k = 14 then stepM S 1 2 0 a b (m_s14_O S a b) else if k = 15 then stepM S 1 2 0 a b (m_s15_O S a b) else if k = 16 then stepM S 2 2 0 a b (m_s16_O S a b) else if k = 17 then stepM S 2 2 0 a b (m_s17_O S a b) else if k = 18 then stepM S 0 2 1 a b (m_s18_O S a b) else if k = 19 then stepM S 0 2 1 a b (m_s19_O S a b) else (-1, S)
noncomputable def threeF (S : aS) (k a b e : Int) : Int × aS := if k = 0 then threeM S 2 a b e (m_t0_O S a b e) else if k = 1 then threeM S 0 a b e (m_t1_O S a b e) else if k = 2 then threeM S 0 a b e (m_t_heights_O S a b e) else if k = 3 then threeM S 0 a b e (m_t3_O S a b e) else if k = 4 then threeM S 2 a b e (m_t_nine_O S a b e) else if k = 5 then threeM S 0 a b e (m_t5_O S a b e) else if k = 6 then threeM S 0 a b e (m_t_moved_O S a b e) else if k = 7 then three7M S a b e else if k = 8 then three8M S a b e else (-1, S)
noncomputable def measF (S : aS) (k a b e : Int) : Int × aS := if k = 0 then measM S 0 (-1) (-1) a b e (m_q0_O S a b e) else if k = 1 then measM S 0 (-1) (-1) a b e (m_q1_O S a b e) else if k = 2 then measM S 0 0 (-1) a b e (m_q2_O S a b e) else if k = 3 then measM S 0 2 (-1) a b e (m_q3_O S a b e) else if k = 4 then measM S 2 (-1) (-1) a b e (m_q4_O S a b e) else if k = 5 then measM S 0 0 0 a b e (m_q5_O S a b e) else if k = 6 then measM S 0 1 (-1) a b e (m_q6_O S a b e) else (-1, S)
noncomputable def holdsF (S : aS) (k a b e f : Int) : Int := if k = 0 then (if isS S a 0 ∧ isS S b 0 ∧ isS S e 0 then (if m_det_S (tpR S a) (tpR S b) (tpR S e) = 0 then 1 else 0) else -1) else if k = 1 then (if isS S a 1 ∧ isS S b 1 ∧ isS S e 1 then (if m_det_S (tpR S a) (tpR S b) (tpR S e) = 0 then 1 else 0) else -1) else if k = 2 then (if isS S a 0 ∧ isS S b 1 then (if m_dot_S (tpR S a) (tpR S b) = 0 then 1 else 0) else -1) else if k = 3 then (if isS S a 0 ∧ isS S b 2 then (if ¬ sTp S a.toNat 2 = 0 ∧ m_within_S (tpR S a) (tpR S b) = 0 then 1 else 0) else -1) else if k = 4 then (if isS S a 1 ∧ isS S b 1 then (if ((tpR S a).1 * (tpR S b).2.1) - ((tpR S a).2.1 * (tpR S b).1) = 0 then 1 else 0) else -1) else if k = 5 then (if isS S a 1 ∧ isS S b 1 then (if ¬ (sTp S a.toNat 0 = 0 ∧ sTp S a.toNat 1 = 0) ∧ ¬ (sTp S b.toNat 0 = 0 ∧ sTp S b.toNat 1 = 0) ∧ ((tpR S a).1 * (tpR S b).1) + ((tpR S a).2.1 * (tpR S b).2.1) = 0 then 1 else 0) else -1) else if k = 6 then (if isS S a 0 ∧ isS S b 0 ∧ isS S e 0 ∧ isS S f 0 then (if (¬ sTp S a.toNat 2 = 0 ∧ ¬ sTp S b.toNat 2 = 0 ∧ ¬ sTp S e.toNat 2 = 0 ∧ ¬ sTp S f.toNat 2 = 0) ∧ m_apart_S (tpR S a) (tpR S b) * (((tpR S e).2.2.1 * (tpR S f).2.2.1) * ((tpR S e).2.2.1 * (tpR S f).2.2.1)) = m_apart_S (tpR S e) (tpR S f) * (((tpR S a).2.2.1 * (tpR S b).2.2.1) * ((tpR S a).2.2.1 * (tpR S b).2.2.1)) then 1 else 0) else -1) else if k = 7 then (if isS S a 0 ∧ isS S b 0 ∧ isS S e 0 ∧ isS S f 0 then (if (¬ sTp S a.toNat 2 = 0 ∧ ¬ sTp S b.toNat 2 = 0 ∧ ¬ sTp S e.toNat 2 = 0 ∧ ¬ sTp S f.toNat 2 = 0) ∧ (¬ (sTp S a.toNat 0 = sTp S b.toNat 0 ∧ sTp S a.toNat 1 = sTp S b.toNat 1 ∧ sTp S a.toNat 2 = sTp S b.toNat 2 ∧ sTp S a.toNat 3 = sTp S b.toNat 3) ∧ ¬ (sTp S a.toNat 0 = sTp S e.toNat 0 ∧ sTp S a.toNat 1 = sTp S e.toNat 1 ∧ sTp S a.toNat 2 = sTp S e.toNat 2 ∧ sTp S a.toNat 3 = sTp S e.toNat 3) ∧ ¬ (sTp S a.toNat 0 = sTp S f.toNat 0 ∧ sTp S a.toNat 1 = sTp S f.toNat 1 ∧ sTp S a.toNat 2 = sTp S f.toNat 2 ∧ sTp S a.toNat 3 = sTp S f.toNat 3) ∧ ¬ (sTp S b.toNat 0 = sTp S e.toNat 0 ∧ sTp S b.toNat 1 = sTp S e.toNat 1 ∧ sTp S b.toNat 2 = sTp S e.toNat 2 ∧ sTp S b.toNat 3 = sTp S e.toNat 3) ∧ ¬ (sTp S b.toNat 0 = sTp S f.toNat 0 ∧ sTp S b.toNat 1 = sTp S f.toNat 1 ∧ sTp S b.toNat 2 = sTp S f.toNat 2 ∧ sTp S b.toNat 3 = sTp S f.toNat 3) ∧ ¬ (sTp S e.toNat 0 = sTp S f.toNat 0 ∧ sTp S e.toNat 1 = sTp S f.toNat 1 ∧ sTp S e.toNat 2 = sTp S f.toNat 2 ∧ sTp S e.toNat 3 = sTp S f.toNat 3)) ∧ m_onB (tpR S f) (m_thru_O (tpR S a) (tpR S b) (tpR S e)) = true then 1 else 0) else -1) else if k = 8 then (if isS S a 1 ∧ isS S b 2 then (if ¬ (sTp S a.toNat 0 = 0 ∧ sTp S a.toNat 1 = 0) ∧ (m_bulge_S (tpR S b)) * (m_norm_S ((tpR S a))) = (m_reach_S ((tpR S a)) (tpR S b)) * (m_reach_S ((tpR S a)) (tpR S b)) then 1 else 0) else -1) else if k = 9 then (if isS S a 2 ∧ isS S b 2 then (if (¬ (m_powers_S (tpR S a) (tpR S b)).1 = 0 ∨ ¬ (m_powers_S (tpR S a) (tpR S b)).2.1 = 0) ∧ (m_bulge_S (tpR S a)) * (m_norm_S (m_powers_S (tpR S a) (tpR S b))) = (m_reach_S (m_powers_S (tpR S a) (tpR S b)) (tpR S a)) * (m_reach_S (m_powers_S (tpR S a) (tpR S b)) (tpR S a)) then 1 else 0) else -1) else if k = 10 then (if isS S a 2 ∧ isS S b 2 then (if ((tpR S a).2.1 * (tpR S b).2.1) + ((tpR S a).2.2.1 * (tpR S b).2.2.1) = 2 * (((tpR S a).2.2.2 * (tpR S b).1) + ((tpR S b).2.2.2 * (tpR S a).1)) then 1 else 0) else -1) else if k = 11 then (if isS S a 0 ∧ isS S b 0 ∧ isS S e 0 then (if ¬ sTp S a.toNat 2 = 0 ∧ ¬ sTp S b.toNat 2 = 0 ∧ ¬ sTp S e.toNat 2 = 0 ∧ 0 < m_det_S (tpR S a) (tpR S b) (tpR S e) then 1 else 0) else -1) else if k = 12 then (if isS S a 0 ∧ isS S b 2 then (if ¬ sTp S a.toNat 2 = 0 ∧ m_within_S (tpR S a) (tpR S b) < 0 then 1 else 0) else -1) else if k = 13 then (if isS S a 1 ∧ isS S b 1 ∧ isS S e 2 then (if m_dot_S (m_pole_S (tpR S a) (tpR S e)) (tpR S b) = 0 then 1 else 0) else -1) else if k = 14 then (if isS S a 0 ∧ isS S b 0 ∧ isS S e 0 ∧ isS S f 0 then (if (¬ (sTp S a.toNat 0 = sTp S b.toNat 0 ∧ sTp S a.toNat 1 = sTp S b.toNat 1 ∧ sTp S a.toNat 2 = sTp S b.toNat 2 ∧ sTp S a.toNat 3 = sTp S b.toNat 3) ∧ ¬ (sTp S a.toNat 0 = sTp S e.toNat 0 ∧ sTp S a.toNat 1 = sTp S e.toNat 1 ∧ sTp S a.toNat 2 = sTp S e.toNat 2 ∧ sTp S a.toNat 3 = sTp S e.toNat 3) ∧ ¬ (sTp S a.toNat 0 = sTp S f.toNat 0 ∧ sTp S a.toNat 1 = sTp S f.toNat 1 ∧ sTp S a.toNat 2 = sTp S f.toNat 2 ∧ sTp S a.toNat 3 = sTp S f.toNat 3) ∧ ¬ (sTp S b.toNat 0 = sTp S e.toNat 0 ∧ sTp S b.toNat 1 = sTp S e.toNat 1 ∧ sTp S b.toNat 2 = sTp S e.toNat 2 ∧ sTp S b.toNat 3 = sTp S e.toNat 3) ∧ ¬ (sTp S b.toNat 0 = sTp S f.toNat 0 ∧ sTp S b.toNat 1 = sTp S f.toNat 1 ∧ sTp S b.toNat 2 = sTp S f.toNat 2 ∧ sTp S b.toNat 3 = sTp S f.toNat 3) ∧ ¬ (sTp S e.toNat 0 = sTp S f.toNat 0 ∧ sTp S e.toNat 1 = sTp S f.toNat 1 ∧ sTp S e.toNat 2 = sTp S f.toNat 2 ∧ sTp S e.toNat 3 = sTp S f.toNat 3)) ∧ m_det_S (tpR S a) (tpR S b) (tpR S e) = 0 ∧ m_det_S (tpR S a) (tpR S b) (tpR S f) = 0 ∧ m_crB (m_t3 (tpR S f)) (m_harm_O (tpR S a) (tpR S b) (m_t3 (tpR S e))) = true then 1 else 0) else -1) else -1
theorem stepF_no {S : aS} {k a b : Int} (h : k < 0 ∨ 20 ≤ k) : stepF S k a b = (-1, S) := by
  unfold stepF
  rw [if_neg (by omega), if_neg (by omega), if_neg (by omega), if_neg (by omega), if_neg (by omega), if_neg (by omega), if_neg (by omega), if_neg (by omega), if_neg (by omega), if_neg (by omega), if_neg (by omega), if_neg (by omega), if_neg (by omega), if_neg (by omega), if_neg (by omega), if_neg (by omega), if_neg (by omega), if_neg (by omega), if_neg (by omega), if_neg (by omega)]
theorem threeF_no {S : aS} {k a b e : Int} (h : k < 0 ∨ 9 ≤ k) : threeF S k a b e = (-1, S) := by
  unfold threeF
  rw [if_neg (by omega), if_neg (by omega), if_neg (by omega), if_neg (by omega), if_neg (by omega), if_neg (by omega), if_neg (by omega), if_neg (by omega), if_neg (by omega)]
theorem measF_no {S : aS} {k a b e : Int} (h : k < 0 ∨ 7 ≤ k) : measF S k a b e = (-1, S) := by
  unfold measF
  rw [if_neg (by omega), if_neg (by omega), if_neg (by omega), if_neg (by omega), if_neg (by omega), if_neg (by omega), if_neg (by omega)]
theorem holdsF_no {S : aS} {k a b e f : Int} (h : k < 0 ∨ 15 ≤ k) : holdsF S k a b e f = -1 := by
  unfold holdsF
  rw [if_neg (by omega), if_neg (by omega), if_neg (by omega), if_neg (by omega), if_neg (by omega), if_neg (by omega), if_neg (by omega), if_neg (by omega), if_neg (by omega), if_neg (by omega), if_neg (by omega), if_neg (by omega), if_neg (by omega), if_neg (by omega), if_neg (by omega)]
theorem jx_step {w : aW} {d : Nat} (hd : 60 ≤ d) {H : aH} {c : Nat} {S : aS} (x : IX w H c S) (ok : OkS S) (k a b : Int) : WP w d 205 [aO (some c), aI k, aI a, aI b] H (RI (fun r H1 => r = (stepF S k a b).1 ∧ IX w H1 c (stepF S k a b).2 ∧ KX H H1 c)) := by
  by_cases hk : k < 0 ∨ 20 ≤ k
  · rw [stepF_no hk]
    exact x.noK (x_stepX (by omega) x.ci x.xt ok.1.2 x.xn ok.1.1 x.tx k hk a b)
  rcases (show k = 0 ∨ k = 1 ∨ k = 2 ∨ k = 3 ∨ k = 4 ∨ k = 5 ∨ k = 6 ∨ k = 7 ∨ k = 8 ∨ k = 9 ∨ k = 10 ∨ k = 11 ∨ k = 12 ∨ k = 13 ∨ k = 14 ∨ k = 15 ∨ k = 16 ∨ k = 17 ∨ k = 18 ∨ k = 19 by omega) with h | h | h | h | h | h | h | h | h | h | h | h | h | h | h | h | h | h | h | h <;> subst h
  · have q := x_step0 (w := w) (d := d) (by omega) x.ci x.xt ok.1.2 x.xn ok.1.1 x.tx a b
    rw [g_step0 a b] at q
    exact x.thg step0M_fr q
  · have q := x_step1 (w := w) (d := d) (by omega) x.ci x.xt ok.1.2 x.xn ok.1.1 x.tx a b
    rw [g_step1 ok.2.1.1 a b] at q
    exact x.thg stepM_fr q
  · have q := x_step2 (w := w) (d := d) (by omega) x.ci x.xt ok.1.2 x.xn ok.1.1 x.tx a b
    rw [g_step2 ok.2.1.1 a b] at q
    exact x.thg stepM_fr q
  · have q := x_step3 (w := w) (d := d) (by omega) x.ci x.xt ok.1.2 x.xn ok.1.1 x.tx a b
    rw [g_step3 a b] at q
    exact x.thg stepM_fr q
  · have q := x_step4 (w := w) (d := d) (by omega) x.ci x.xt ok.1.2 x.xn ok.1.1 x.tx a b
    rw [g_step4 a b] at q
    exact x.thg stepM_fr q
  · have q := x_step5 (w := w) (d := d) (by omega) x.ci x.xt ok.1.2 x.xn ok.1.1 x.tx a b
    rw [g_step5 a b] at q
    exact x.thg stepM_fr q
  · have q := x_step6 (w := w) (d := d) (by omega) x.ci x.xt ok.1.2 x.xn ok.1.1 x.tx a b
    rw [g_step6 a b] at q
    exact x.thg stepM_fr q
  · have q := x_step7 (w := w) (d := d) (by omega) x.ci x.xt ok.1.2 x.xn ok.1.1 x.tx a b
    rw [g_step7 a b] at q
    exact x.thg stepM_fr q
  · have q := x_step8 (w := w) (d := d) (by omega) x.ci x.xt ok.1.2 x.xn ok.1.1 x.tx a b
    rw [g_step8 ok.2.1.1 a b] at q
    exact x.thg stepM_fr q
  · have q := x_step9 (w := w) (d := d) (by omega) x.ci x.xt ok.1.2 x.xn ok.1.1 x.tx a b
    rw [g_step9 a b] at q
    exact x.thg stepM_fr q
  · have q := x_step10 (w := w) (d := d) (by omega) x.ci x.xt ok.1.2 x.xn ok.1.1 x.tx a b
    rw [g_step10 a b] at q
    exact x.thg stepM_fr q
  · have q := x_step11 (w := w) (d := d) (by omega) x.ci x.xt ok.1.2 x.xn ok.1.1 x.tx a b
    rw [g_step11 a b] at q
    exact x.thg stepM_fr q
  · have q := x_step12 (w := w) (d := d) (by omega) x.ci x.xt ok.1.2 x.xn ok.1.1 x.tx a b
    rw [g_step12 ok.2.1.1 a b] at q
    exact x.thg stepM_fr q
  · have q := x_step13 (w := w) (d := d) (by omega) x.ci x.xt ok.1.2 x.xn ok.1.1 x.tx a b
    rw [g_step13 ok.2.1.1 a b] at q
    exact x.thg stepM_fr q
  · have q := x_step14 (w := w) (d := d) (by omega) x.ci x.xt ok.1.2 x.xn ok.1.1 x.tx a b
    rw [g_step14 a b] at q
    exact x.thg stepM_fr q
  · have q := x_step15 (w := w) (d := d) (by omega) x.ci x.xt ok.1.2 x.xn ok.1.1 x.tx a b
    rw [g_step15 a b] at q
    exact x.thg stepM_fr q
  · have q := x_step16 (w := w) (d := d) (by omega) x.ci x.xt ok.1.2 x.xn ok.1.1 x.tx a b
    rw [g_step16 a b] at q
    exact x.thg stepM_fr q
  · have q := x_step17 (w := w) (d := d) (by omega) x.ci x.xt ok.1.2 x.xn ok.1.1 x.tx a b
    rw [g_step17 a b] at q
    exact x.thg stepM_fr q
  · have q := x_step18 (w := w) (d := d) (by omega) x.ci x.xt ok.1.2 x.xn ok.1.1 x.tx a b
    rw [g_step18 ok.2.1.1 a b] at q
    exact x.thg stepM_fr q
  · have q := x_step19 (w := w) (d := d) (by omega) x.ci x.xt ok.1.2 x.xn ok.1.1 x.tx a b
    rw [g_step19 ok.2.1.1 a b] at q
    exact x.thg stepM_fr q
theorem jm_step {w : aW} {d : Nat} (hd : 60 ≤ d) {H : aH} {o : Nat} {S : aS} (x : IM H o S) (ok : OkS S) (k a b : Int) : WP w d 307 [aO (some o), aI k, aI a, aI b] H (RI (fun r H1 => r = (stepF S k a b).1 ∧ IM H1 o (stepF S k a b).2 ∧ KO H H1 o)) := by
  by_cases hk : k < 0 ∨ 20 ≤ k
  · rw [stepF_no hk]
    exact x.noK (m_stepX (by omega) x.1 (hV H) k hk a b)
  rcases (show k = 0 ∨ k = 1 ∨ k = 2 ∨ k = 3 ∨ k = 4 ∨ k = 5 ∨ k = 6 ∨ k = 7 ∨ k = 8 ∨ k = 9 ∨ k = 10 ∨ k = 11 ∨ k = 12 ∨ k = 13 ∨ k = 14 ∨ k = 15 ∨ k = 16 ∨ k = 17 ∨ k = 18 ∨ k = 19 by omega) with h | h | h | h | h | h | h | h | h | h | h | h | h | h | h | h | h | h | h | h <;> subst h
  · exact x.thw step0M_fr (m_step0 (w := w) (d := d) (by omega) x.1 (hV H) ok.1.2 x.2.2.1 ok.1.1 x.2.1 a b)
  · exact x.thw stepM_fr (m_step1 (w := w) (d := d) (by omega) x.1 (hV H) ok.1.2 x.2.2.1 a b)
  · exact x.thw stepM_fr (m_step2 (w := w) (d := d) (by omega) x.1 (hV H) ok.1.2 x.2.2.1 a b)
  · exact x.thw stepM_fr (m_step3 (w := w) (d := d) (by omega) x.1 (hV H) ok.1.2 x.2.2.1 a b)
  · exact x.thw stepM_fr (m_step4 (w := w) (d := d) (by omega) x.1 (hV H) ok.1.2 x.2.2.1 a b)
  · exact x.thw stepM_fr (m_step5 (w := w) (d := d) (by omega) x.1 (hV H) ok.1.2 x.2.2.1 a b)
  · exact x.thw stepM_fr (m_step6 (w := w) (d := d) (by omega) x.1 (hV H) ok.1.2 x.2.2.1 a b)
  · exact x.thw stepM_fr (m_step7 (w := w) (d := d) (by omega) x.1 (hV H) ok.1.2 x.2.2.1 a b)
  · exact x.thw stepM_fr (m_step8 (w := w) (d := d) (by omega) x.1 (hV H) ok.1.2 x.2.2.1 a b)
  · exact x.thw stepM_fr (m_step9 (w := w) (d := d) (by omega) x.1 (hV H) ok.1.2 x.2.2.1 a b)
  · exact x.thw stepM_fr (m_step10 (w := w) (d := d) (by omega) x.1 (hV H) ok.1.2 x.2.2.1 a b)
  · exact x.thw stepM_fr (m_step11 (w := w) (d := d) (by omega) x.1 (hV H) ok.1.2 x.2.2.1 a b)
  · exact x.thw stepM_fr (m_step12 (w := w) (d := d) (by omega) x.1 (hV H) ok.1.2 x.2.2.1 a b)
  · exact x.thw stepM_fr (m_step13 (w := w) (d := d) (by omega) x.1 (hV H) ok.1.2 x.2.2.1 a b)
  · exact x.thw stepM_fr (m_step14 (w := w) (d := d) (by omega) x.1 (hV H) ok.1.2 x.2.2.1 a b)
  · exact x.thw stepM_fr (m_step15 (w := w) (d := d) (by omega) x.1 (hV H) ok.1.2 x.2.2.1 a b)
  · exact x.thw stepM_fr (m_step16 (w := w) (d := d) (by omega) x.1 (hV H) ok.1.2 x.2.2.1 a b)
  · exact x.thw stepM_fr (m_step17 (w := w) (d := d) (by omega) x.1 (hV H) ok.1.2 x.2.2.1 a b)
  · exact x.thw stepM_fr (m_step18 (w := w) (d := d) (by omega) x.1 (hV H) ok.1.2 x.2.2.1 a b)
  · exact x.thw stepM_fr (m_step19 (w := w) (d := d) (by omega) x.1 (hV H) ok.1.2 x.2.2.1 a b)
theorem jx_three {w : aW} {d : Nat} (hd : 60 ≤ d) {H : aH} {c : Nat} {S : aS} (x : IX w H c S) (ok : OkS S) (k a b e : Int) : WP w d 206 [aO (some c), aI k, aI a, aI b, aI e] H (RI (fun r H1 => r = (threeF S k a b e).1 ∧ IX w H1 c (threeF S k a b e).2 ∧ KX H H1 c)) := by
  by_cases hk : k < 0 ∨ 9 ≤ k
  · rw [threeF_no hk]
    exact x.noK (x_threeX (by omega) x.ci x.xt ok.1.2 x.xn ok.1.1 x.tx k hk a b e)
  rcases (show k = 0 ∨ k = 1 ∨ k = 2 ∨ k = 3 ∨ k = 4 ∨ k = 5 ∨ k = 6 ∨ k = 7 ∨ k = 8 by omega) with h | h | h | h | h | h | h | h | h <;> subst h
  · have q := x_three0 (w := w) (d := d) (by omega) x.ci x.xt ok.1.2 x.xn ok.1.1 x.tx a b e
    rw [g_three0 a b e] at q
    exact x.thg threeM_fr q
  · have q := x_three1 (w := w) (d := d) (by omega) x.ci x.xt ok.1.2 x.xn ok.1.1 x.tx a b e
    rw [g_three1 a b e] at q
    exact x.thg threeM_fr q
  · have q := x_three2 (w := w) (d := d) (by omega) x.ci x.xt ok.1.2 x.xn ok.1.1 x.tx a b e
    rw [g_three2 a b e] at q
    exact x.thg threeM_fr q
  · have q := x_three3 (w := w) (d := d) (by omega) x.ci x.xt ok.1.2 x.xn ok.1.1 x.tx a b e
    rw [g_three3 a b e] at q
    exact x.thg threeM_fr q
  · have q := x_three4 (w := w) (d := d) (by omega) x.ci x.xt ok.1.2 x.xn ok.1.1 x.tx a b e
    rw [g_three4 a b e] at q
    exact x.thg threeM_fr q
  · have q := x_three5 (w := w) (d := d) (by omega) x.ci x.xt ok.1.2 x.xn ok.1.1 x.tx a b e
    rw [g_three5 a b e] at q
    exact x.thg threeM_fr q
  · have q := x_three6 (w := w) (d := d) (by omega) x.ci x.xt ok.1.2 x.xn ok.1.1 x.tx a b e
    rw [g_three6 a b e] at q
    exact x.thg threeM_fr q
  · have q := x_three7 (w := w) (d := d) (by omega) x.ci x.xt ok.1.2 x.xn ok.1.1 x.tx a b e
    rw [g_three7 a b e] at q
    exact x.thg three7M_fr q
  · have q := x_three8 (w := w) (d := d) (by omega) x.ci x.xt ok.1.2 x.xn ok.1.1 x.tx a b e
    rw [g_three8 a b e] at q
    exact x.thg three8M_fr q
theorem jm_three {w : aW} {d : Nat} (hd : 60 ≤ d) {H : aH} {o : Nat} {S : aS} (x : IM H o S) (ok : OkS S) (k a b e : Int) : WP w d 312 [aO (some o), aI k, aI a, aI b, aI e] H (RI (fun r H1 => r = (threeF S k a b e).1 ∧ IM H1 o (threeF S k a b e).2 ∧ KO H H1 o)) := by
  by_cases hk : k < 0 ∨ 9 ≤ k
  · rw [threeF_no hk]
    exact x.noK (m_threeX (by omega) x.1 (hV H) k hk a b e)
  rcases (show k = 0 ∨ k = 1 ∨ k = 2 ∨ k = 3 ∨ k = 4 ∨ k = 5 ∨ k = 6 ∨ k = 7 ∨ k = 8 by omega) with h | h | h | h | h | h | h | h | h <;> subst h
  · exact x.thw threeM_fr (m_three0 (w := w) (d := d) (by omega) x.1 (hV H) ok.1.2 x.2.2.1 a b e)
  · exact x.thw threeM_fr (m_three1 (w := w) (d := d) (by omega) x.1 (hV H) ok.1.2 x.2.2.1 a b e)
  · exact x.thw threeM_fr (m_three2 (w := w) (d := d) (by omega) x.1 (hV H) ok.1.2 x.2.2.1 a b e)
  · exact x.thw threeM_fr (m_three3 (w := w) (d := d) (by omega) x.1 (hV H) ok.1.2 x.2.2.1 a b e)
  · exact x.thw threeM_fr (m_three4 (w := w) (d := d) (by omega) x.1 (hV H) ok.1.2 x.2.2.1 a b e)
  · exact x.thw threeM_fr (m_three5 (w := w) (d := d) (by omega) x.1 (hV H) ok.1.2 x.2.2.1 a b e)
  · exact x.thw threeM_fr (m_three6 (w := w) (d := d) (by omega) x.1 (hV H) ok.1.2 x.2.2.1 a b e)
  · exact x.thw three7M_fr (m_three7 (w := w) (d := d) (by omega) x.1 (hV H) ok.1.2 x.2.2.1 a b e)
  · exact x.thw three8M_fr (m_three8 (w := w) (d := d) (by omega) x.1 (hV H) ok.1.2 x.2.2.1 ok.1.1 x.2.1 a b e)
theorem jx_meas {w : aW} {d : Nat} (hd : 60 ≤ d) {H : aH} {c : Nat} {S : aS} (x : IX w H c S) (ok : OkS S) (k a b e : Int) : WP w d 208 [aO (some c), aI k, aI a, aI b, aI e] H (RI (fun r H1 => r = (measF S k a b e).1 ∧ IX w H1 c (measF S k a b e).2 ∧ KX H H1 c)) := by
  by_cases hk : k < 0 ∨ 7 ≤ k
  · rw [measF_no hk]
    exact x.noK (x_measX (by omega) x.ci x.xt ok.1.2 x.xn ok.1.1 x.tx k hk a b e)
  rcases (show k = 0 ∨ k = 1 ∨ k = 2 ∨ k = 3 ∨ k = 4 ∨ k = 5 ∨ k = 6 by omega) with h | h | h | h | h | h | h <;> subst h
  · have q := x_meas0 (w := w) (d := d) (by omega) x.ci x.xt ok.1.2 x.xn ok.1.1 x.tx a b e
    rw [g_meas0 ok.2.1.1 a b e] at q
    exact x.mea measM_fr q
  · have q := x_meas1 (w := w) (d := d) (by omega) x.ci x.xt ok.1.2 x.xn ok.1.1 x.tx a b e
    rw [g_meas1 ok.2.1.1 a b e] at q
    exact x.mea measM_fr q
  · have q := x_meas2 (w := w) (d := d) (by omega) x.ci x.xt ok.1.2 x.xn ok.1.1 x.tx a b e
    rw [g_meas2 ok.2.1.1 a b e] at q
    exact x.mea measM_fr q
  · have q := x_meas3 (w := w) (d := d) (by omega) x.ci x.xt ok.1.2 x.xn ok.1.1 x.tx a b e
    rw [g_meas3 ok.2.1.1 a b e] at q
    exact x.mea measM_fr q
  · have q := x_meas4 (w := w) (d := d) (by omega) x.ci x.xt ok.1.2 x.xn ok.1.1 x.tx a b e
    rw [g_meas4 ok.2.1.1 a b e] at q
    exact x.mea measM_fr q
  · have q := x_meas5 (w := w) (d := d) (by omega) x.ci x.xt ok.1.2 x.xn ok.1.1 x.tx a b e
    rw [g_meas5 ok.2.1.1 a b e] at q
    exact x.mea measM_fr q
  · have q := x_meas6 (w := w) (d := d) (by omega) x.ci x.xt ok.1.2 x.xn ok.1.1 x.tx a b e
    rw [g_meas6 ok.2.1.1 a b e] at q
    exact x.mea measM_fr q
theorem jm_meas {w : aW} {d : Nat} (hd : 60 ≤ d) {H : aH} {o : Nat} {S : aS} (x : IM H o S) (ok : OkS S) (k a b e : Int) : WP w d 320 [aO (some o), aI k, aI a, aI b, aI e] H (RI (fun r H1 => r = (measF S k a b e).1 ∧ IM H1 o (measF S k a b e).2 ∧ KO H H1 o)) := by
  by_cases hk : k < 0 ∨ 7 ≤ k
  · rw [measF_no hk]
    exact x.noK (m_measX (by omega) x.1 (hV H) k hk a b e)
  rcases (show k = 0 ∨ k = 1 ∨ k = 2 ∨ k = 3 ∨ k = 4 ∨ k = 5 ∨ k = 6 by omega) with h | h | h | h | h | h | h <;> subst h
  · exact x.mew measM_fr (m_meas0 (w := w) (d := d) (by omega) x.1 (hV H) ok.1.2 x.2.2.1 ok.1.1 x.2.1 a b e)
  · exact x.mew measM_fr (m_meas1 (w := w) (d := d) (by omega) x.1 (hV H) ok.1.2 x.2.2.1 ok.1.1 x.2.1 a b e)
  · exact x.mew measM_fr (m_meas2 (w := w) (d := d) (by omega) x.1 (hV H) ok.1.2 x.2.2.1 ok.1.1 x.2.1 a b e)
  · exact x.mew measM_fr (m_meas3 (w := w) (d := d) (by omega) x.1 (hV H) ok.1.2 x.2.2.1 ok.1.1 x.2.1 a b e)
  · exact x.mew measM_fr (m_meas4 (w := w) (d := d) (by omega) x.1 (hV H) ok.1.2 x.2.2.1 ok.1.1 x.2.1 a b e)
  · exact x.mew measM_fr (m_meas5 (w := w) (d := d) (by omega) x.1 (hV H) ok.1.2 x.2.2.1 ok.1.1 x.2.1 a b e)
  · exact x.mew measM_fr (m_meas6 (w := w) (d := d) (by omega) x.1 (hV H) ok.1.2 x.2.2.1 ok.1.1 x.2.1 a b e)
theorem jx_holds {w : aW} {d : Nat} (hd : 60 ≤ d) {H : aH} {c : Nat} {S : aS} (x : IX w H c S) (ok : OkS S) (k a b e f : Int) : WP w d 209 [aO (some c), aI k, aI a, aI b, aI e, aI f] H (RI (fun r H1 => r = (holdsF S k a b e f) ∧ IX w H1 c S ∧ KX H H1 c)) := by
  by_cases hk : k < 0 ∨ 15 ≤ k
  · rw [holdsF_no hk]
    exact x.noK (x_holdsX (by omega) x.ci x.xt ok.1.2 x.xn ok.1.1 x.tx k hk a b e f)
  rcases (show k = 0 ∨ k = 1 ∨ k = 2 ∨ k = 3 ∨ k = 4 ∨ k = 5 ∨ k = 6 ∨ k = 7 ∨ k = 8 ∨ k = 9 ∨ k = 10 ∨ k = 11 ∨ k = 12 ∨ k = 13 ∨ k = 14 by omega) with h | h | h | h | h | h | h | h | h | h | h | h | h | h | h <;> subst h
  · have q := x_holds0 (w := w) (d := d) (by omega) x.ci x.xt ok.1.2 x.xn ok.1.1 x.tx a b e f
    rw [g_holds0 ok.2.1.1 a b e f] at q
    exact x.hol q
  · have q := x_holds1 (w := w) (d := d) (by omega) x.ci x.xt ok.1.2 x.xn ok.1.1 x.tx a b e f
    rw [g_holds1 ok.2.1.1 a b e f] at q
    exact x.hol q
  · have q := x_holds2 (w := w) (d := d) (by omega) x.ci x.xt ok.1.2 x.xn ok.1.1 x.tx a b e f
    rw [g_holds2 ok.2.1.1 a b e f] at q
    exact x.hol q
  · have q := x_holds3 (w := w) (d := d) (by omega) x.ci x.xt ok.1.2 x.xn ok.1.1 x.tx a b e f
    rw [g_holds3 ok.2.1.1 a b e f] at q
    exact x.hol q
  · have q := x_holds4 (w := w) (d := d) (by omega) x.ci x.xt ok.1.2 x.xn ok.1.1 x.tx a b e f
    rw [g_holds4 ok.2.1.1 a b e f] at q
    exact x.hol q
  · have q := x_holds5 (w := w) (d := d) (by omega) x.ci x.xt ok.1.2 x.xn ok.1.1 x.tx a b e f
    rw [g_holds5 ok.2.1.1 a b e f] at q
    exact x.hol q
  · have q := x_holds6 (w := w) (d := d) (by omega) x.ci x.xt ok.1.2 x.xn ok.1.1 x.tx a b e f
    rw [g_holds6 ok.2.1.1 a b e f] at q
    exact x.hol q
  · have q := x_holds7 (w := w) (d := d) (by omega) x.ci x.xt ok.1.2 x.xn ok.1.1 x.tx a b e f
    rw [g_holds7 ok.2.1.1 a b e f] at q
    exact x.hol q
  · have q := x_holds8 (w := w) (d := d) (by omega) x.ci x.xt ok.1.2 x.xn ok.1.1 x.tx a b e f
    rw [g_holds8 ok.2.1.1 a b e f] at q
    exact x.hol q
  · have q := x_holds9 (w := w) (d := d) (by omega) x.ci x.xt ok.1.2 x.xn ok.1.1 x.tx a b e f
    rw [g_holds9 ok.2.1.1 a b e f] at q
    exact x.hol q
  · have q := x_holds10 (w := w) (d := d) (by omega) x.ci x.xt ok.1.2 x.xn ok.1.1 x.tx a b e f
    rw [g_holds10 ok.2.1.1 a b e f] at q
    exact x.hol q
  · have q := x_holds11 (w := w) (d := d) (by omega) x.ci x.xt ok.1.2 x.xn ok.1.1 x.tx a b e f
    rw [g_holds11 ok.2.1.1 a b e f] at q
    exact x.hol q
  · have q := x_holds12 (w := w) (d := d) (by omega) x.ci x.xt ok.1.2 x.xn ok.1.1 x.tx a b e f
    rw [g_holds12 ok.2.1.1 a b e f] at q
    exact x.hol q
  · have q := x_holds13 (w := w) (d := d) (by omega) x.ci x.xt ok.1.2 x.xn ok.1.1 x.tx a b e f
    rw [g_holds13 ok.2.1.1 a b e f] at q
    exact x.hol q
  · have q := x_holds14 (w := w) (d := d) (by omega) x.ci x.xt ok.1.2 x.xn ok.1.1 x.tx a b e f
    rw [g_holds14 ok.2.1.1 a b e f] at q
    exact x.hol q
theorem jm_holds {w : aW} {d : Nat} (hd : 60 ≤ d) {H : aH} {o : Nat} {S : aS} (x : IM H o S) (ok : OkS S) (k a b e f : Int) : WP w d 324 [aO (some o), aI k, aI a, aI b, aI e, aI f] H (RI (fun r H1 => r = (holdsF S k a b e f) ∧ IM H1 o S ∧ KO H H1 o)) := by
  by_cases hk : k < 0 ∨ 15 ≤ k
  · rw [holdsF_no hk]
    exact x.noK (m_holdsX (by omega) x.1 (hV H) k hk a b e f)
  rcases (show k = 0 ∨ k = 1 ∨ k = 2 ∨ k = 3 ∨ k = 4 ∨ k = 5 ∨ k = 6 ∨ k = 7 ∨ k = 8 ∨ k = 9 ∨ k = 10 ∨ k = 11 ∨ k = 12 ∨ k = 13 ∨ k = 14 by omega) with h | h | h | h | h | h | h | h | h | h | h | h | h | h | h <;> subst h
  · exact x.how (m_holds0 (w := w) (d := d) (by omega) x.1 (hV H) ok.1.2 x.2.2.1 a b e f)
  · exact x.how (m_holds1 (w := w) (d := d) (by omega) x.1 (hV H) ok.1.2 x.2.2.1 a b e f)
  · exact x.how (m_holds2 (w := w) (d := d) (by omega) x.1 (hV H) ok.1.2 x.2.2.1 a b e f)
  · exact x.how (m_holds3 (w := w) (d := d) (by omega) x.1 (hV H) ok.1.2 x.2.2.1 a b e f)
  · exact x.how (m_holds4 (w := w) (d := d) (by omega) x.1 (hV H) ok.1.2 x.2.2.1 a b e f)
  · exact x.how (m_holds5 (w := w) (d := d) (by omega) x.1 (hV H) ok.1.2 x.2.2.1 a b e f)
  · exact x.how (m_holds6 (w := w) (d := d) (by omega) x.1 (hV H) ok.1.2 x.2.2.1 a b e f)
  · exact x.how (m_holds7 (w := w) (d := d) (by omega) x.1 (hV H) ok.1.2 x.2.2.1 a b e f)
  · exact x.how (m_holds8 (w := w) (d := d) (by omega) x.1 (hV H) ok.1.2 x.2.2.1 a b e f)
  · exact x.how (m_holds9 (w := w) (d := d) (by omega) x.1 (hV H) ok.1.2 x.2.2.1 a b e f)
  · exact x.how (m_holds10 (w := w) (d := d) (by omega) x.1 (hV H) ok.1.2 x.2.2.1 a b e f)
  · exact x.how (m_holds11 (w := w) (d := d) (by omega) x.1 (hV H) ok.1.2 x.2.2.1 a b e f)
  · exact x.how (m_holds12 (w := w) (d := d) (by omega) x.1 (hV H) ok.1.2 x.2.2.1 a b e f)
  · exact x.how (m_holds13 (w := w) (d := d) (by omega) x.1 (hV H) ok.1.2 x.2.2.1 a b e f)
  · exact x.how (m_holds14 (w := w) (d := d) (by omega) x.1 (hV H) ok.1.2 x.2.2.1 a b e f)
theorem ok_step {S : aS} (ok : OkS S) (k a b : Int) : OkS (stepF S k a b).2 := by
  have L := ok.2.1.1
  by_cases hk : k < 0 ∨ 20 ≤ k
  · rw [stepF_no hk]
    exact ok
  rcases (show k = 0 ∨ k = 1 ∨ k = 2 ∨ k = 3 ∨ k = 4 ∨ k = 5 ∨ k = 6 ∨ k = 7 ∨ k = 8 ∨ k = 9 ∨ k = 10 ∨ k = 11 ∨ k = 12 ∨ k = 13 ∨ k = 14 ∨ k = 15 ∨ k = 16 ∨ k = 17 ∨ k = 18 ∨ k = 19 by omega) with h | h | h | h | h | h | h | h | h | h | h | h | h | h | h | h | h | h | h | h <;> subst h
  · refine ok.thg ?_ step0M_fr.1 step0M_fr.2
    show OkT (step0M S a b).2 ∧ OkL (step0M S a b).2
    unfold step0M
    split
    · next q =>
      refine keepM_ok ok.1.2 L (Or.inl rfl) (gd_w (by decide) rfl (Int.mul_ne_zero ?_ ?_))
      · have := (ok.1.1.2 a.toNat (by omega)).1
        omega
      · have := (ok.1.1.2 b.toNat (by omega)).1
        omega
    · exact ⟨ok.1.2, L⟩
  · exact ok.thg (stepM_ok ok.1.2 L (by decide) (fun ha hb => gi_1 (by decide) (L.p ha) (L.p hb))) stepM_fr.1 stepM_fr.2
  · exact ok.thg (stepM_ok ok.1.2 L (by decide) (fun ha hb => gi_1 (by decide) (L.l ha) (L.l hb))) stepM_fr.1 stepM_fr.2
  · exact ok.thg (stepM_ok ok.1.2 L (by decide) (fun ha hb => gi_3)) stepM_fr.1 stepM_fr.2
  · exact ok.thg (stepM_ok ok.1.2 L (by decide) (fun ha hb => gi_4)) stepM_fr.1 stepM_fr.2
  · exact ok.thg (stepM_ok ok.1.2 L (by decide) (fun ha hb => gi_5)) stepM_fr.1 stepM_fr.2
  · exact ok.thg (stepM_ok ok.1.2 L (by decide) (fun ha hb => gi_6)) stepM_fr.1 stepM_fr.2
  · exact ok.thg (stepM_ok ok.1.2 L (by decide) (fun ha hb => gi_7)) stepM_fr.1 stepM_fr.2
  · exact ok.thg (stepM_ok ok.1.2 L (by decide) (fun ha hb => gi_8 (L.c hb))) stepM_fr.1 stepM_fr.2
  · exact ok.thg (stepM_ok ok.1.2 L (by decide) (fun ha hb => gi_9 (L.p ha) (L.c hb))) stepM_fr.1 stepM_fr.2
  · exact ok.thg (stepM_ok ok.1.2 L (by decide) (fun ha hb => gi_10 (L.l ha) (L.c hb))) stepM_fr.1 stepM_fr.2
  · exact ok.thg (stepM_ok ok.1.2 L (by decide) (fun ha hb => gi_11)) stepM_fr.1 stepM_fr.2
  · exact ok.thg (stepM_ok ok.1.2 L (by decide) (fun ha hb => gi_12 (L.p ha) (L.p hb))) stepM_fr.1 stepM_fr.2
  · exact ok.thg (stepM_ok ok.1.2 L (by decide) (fun ha hb => gi_13 (L.p ha) (L.p hb))) stepM_fr.1 stepM_fr.2
  · exact ok.thg (stepM_ok ok.1.2 L (by decide) (fun ha hb => gi_meet (by decide) (L.c hb).2.1)) stepM_fr.1 stepM_fr.2
  · exact ok.thg (stepM_ok ok.1.2 L (by decide) (fun ha hb => gi_meet (by decide) (L.c hb).2.1)) stepM_fr.1 stepM_fr.2
  · exact ok.thg (stepM_ok ok.1.2 L (by decide) (fun ha hb => gi_meet (by decide) (L.c ha).2.1)) stepM_fr.1 stepM_fr.2
  · exact ok.thg (stepM_ok ok.1.2 L (by decide) (fun ha hb => gi_meet (by decide) (L.c ha).2.1)) stepM_fr.1 stepM_fr.2
  · exact ok.thg (stepM_ok ok.1.2 L (by decide) (fun ha hb => gi_tan (L.p ha) (L.c hb))) stepM_fr.1 stepM_fr.2
  · exact ok.thg (stepM_ok ok.1.2 L (by decide) (fun ha hb => gi_tan (L.p ha) (L.c hb))) stepM_fr.1 stepM_fr.2
theorem low_w {R : T4} (h4 : R.2.2.2 = 0) (h : R.2.2.1 ≠ 0) : (m_low R).2.2.1 ≠ 0 := by
  intro z
  obtain ⟨g, hg, e⟩ := low_ex h4
  have e4 : R.2.2.1 = g * (m_low R).2.2.1 := congrArg (fun Q : T4 => Q.2.2.1) e
  rw [z, Int.mul_zero] at e4
  exact h e4
theorem gi_nine {S : aS} {a b e : Int} (h1 : sTp S a.toNat 2 ≠ 0) (h2 : sTp S b.toNat 2 ≠ 0) (h3 : sTp S e.toNat 2 ≠ 0) : gdO 2 (m_t_nine_O S a b e) := gi_thru (low_w rfl (Int.mul_ne_zero (Int.mul_ne_zero (by decide) h1) h2)) (low_w rfl (Int.mul_ne_zero (Int.mul_ne_zero (by decide) h2) h3))
theorem ok_three {S : aS} (ok : OkS S) (k a b e : Int) : OkS (threeF S k a b e).2 := by
  have L := ok.2.1.1
  by_cases hk : k < 0 ∨ 9 ≤ k
  · rw [threeF_no hk]
    exact ok
  rcases (show k = 0 ∨ k = 1 ∨ k = 2 ∨ k = 3 ∨ k = 4 ∨ k = 5 ∨ k = 6 ∨ k = 7 ∨ k = 8 by omega) with h | h | h | h | h | h | h | h | h <;> subst h
  · exact ok.thg (threeM_ok ok.1.2 L (by decide) (fun _ _ _ h1 h2 h3 => gi_thru h1 h2)) threeM_fr.1 threeM_fr.2
  · exact ok.thg (threeM_ok ok.1.2 L (by decide) (fun _ _ _ h1 h2 h3 => gi_mid3 h1 h2 h3)) threeM_fr.1 threeM_fr.2
  · exact ok.thg (threeM_ok ok.1.2 L (by decide) (fun _ _ _ h1 h2 h3 => gi_hei h1 h2 h3)) threeM_fr.1 threeM_fr.2
  · exact ok.thg (threeM_ok ok.1.2 L (by decide) (fun _ _ _ h1 h2 h3 => gi_cen)) threeM_fr.1 threeM_fr.2
  · exact ok.thg (threeM_ok ok.1.2 L (by decide) (fun _ _ _ h1 h2 h3 => gi_nine h1 h2 h3)) threeM_fr.1 threeM_fr.2
  · exact ok.thg (threeM_ok ok.1.2 L (by decide) (fun _ _ _ h1 h2 h3 => gi_harm)) threeM_fr.1 threeM_fr.2
  · exact ok.thg (threeM_ok ok.1.2 L (by decide) (fun _ _ _ h1 h2 h3 => gi_moved h1 h2 h3)) threeM_fr.1 threeM_fr.2
  · refine ok.thg ?_ three7M_fr.1 three7M_fr.2
    show OkT (three7M S a b e).2 ∧ OkL (three7M S a b e).2
    unfold three7M
    split
    · next q => exact keepM_ok ok.1.2 L (Or.inl rfl) (gd_if fun z => gi_turned (fun y => z (Or.inl y)) (fun y => z (Or.inr y)))
    · exact ⟨ok.1.2, L⟩
  · refine ok.thg ?_ three8M_fr.1 three8M_fr.2
    show OkT (three8M S a b e).2 ∧ OkL (three8M S a b e).2
    unfold three8M
    split
    · next q => exact keepM_ok ok.1.2 L (Or.inl rfl) (gd_if fun z => gi_str (fun y => z (Or.inl y)) (fun y => z (Or.inr y)) (by have := (ok.1.1.2 b.toNat (by omega)).1; omega))
    · exact ⟨ok.1.2, L⟩
theorem ok_meas {S : aS} (ok : OkS S) (k a b e : Int) : OkS (measF S k a b e).2 := by
  by_cases hk : k < 0 ∨ 7 ≤ k
  · rw [measF_no hk]
    exact ok
  rcases (show k = 0 ∨ k = 1 ∨ k = 2 ∨ k = 3 ∨ k = 4 ∨ k = 5 ∨ k = 6 by omega) with h | h | h | h | h | h | h <;> subst h
  · refine ok.num ?_ measM_fr
    show OkN (measM S 0 (-1) (-1) a b e (m_q0_O S a b e)).2
    rw [← g_meas0 ok.2.1.1 a b e]
    exact if_okN ok.1.1 (keepMQ_ok ok.1.1)
  · refine ok.num ?_ measM_fr
    show OkN (measM S 0 (-1) (-1) a b e (m_q1_O S a b e)).2
    rw [← g_meas1 ok.2.1.1 a b e]
    exact if_okN ok.1.1 (keepMQ_ok ok.1.1)
  · refine ok.num ?_ measM_fr
    show OkN (measM S 0 0 (-1) a b e (m_q2_O S a b e)).2
    rw [← g_meas2 ok.2.1.1 a b e]
    exact if_okN ok.1.1 (keepMQ_ok ok.1.1)
  · refine ok.num ?_ measM_fr
    show OkN (measM S 0 2 (-1) a b e (m_q3_O S a b e)).2
    rw [← g_meas3 ok.2.1.1 a b e]
    exact if_okN ok.1.1 (keepMQ_ok ok.1.1)
  · refine ok.num ?_ measM_fr
    show OkN (measM S 2 (-1) (-1) a b e (m_q4_O S a b e)).2
    rw [← g_meas4 ok.2.1.1 a b e]
    exact if_okN ok.1.1 (keepMQ_ok ok.1.1)
  · refine ok.num ?_ measM_fr
    show OkN (measM S 0 0 0 a b e (m_q5_O S a b e)).2
    rw [← g_meas5 ok.2.1.1 a b e]
    exact if_okN ok.1.1 (keepMQ_ok ok.1.1)
  · refine ok.num ?_ measM_fr
    show OkN (measM S 0 1 (-1) a b e (m_q6_O S a b e)).2
    rw [← g_meas6 ok.2.1.1 a b e]
    exact if_okN ok.1.1 (keepMQ_ok ok.1.1)
