/-! the class's polynomials, rows: printed by wip/whole/hb.py -/
theorem XE.fr {V V1 : Nat → Nat → Int} {c : Nat} (x : XE V c) (h : ∀ a, c + 18 ≤ a → a ≤ c + 21 → V1 a = V a) : XE V1 c := by
  unfold XE
  rw [h (c + 18) (by omega) (by omega), h (c + 19) (by omega) (by omega), h (c + 20) (by omega) (by omega), h (c + 21) (by omega) (by omega)]
  exact x
theorem smX_co {f g : Nat → Int} (h : ∀ t < 286, f t = g t) : smX f ↔ smX g := ⟨fun q t ht => by rw [← h t ht]; exact q t ht, fun q t ht => by rw [h t ht]; exact q t ht⟩
theorem bt_co {P Q : Prop} (h : P ↔ Q) : bt P = bt Q := by rw [propext h]
theorem itN_l {σ : Type} {st : Nat → σ → σ} {s : σ} (n : Nat) : itN st (n + 1) s = st n (itN st n s) := rfl
theorem mul_sm {f f2 g g2 : Nat → Int} (h : ∀ t < 286, f t = f2 t) (hg : ∀ t < 286, g t = g2 t) : mulX f g = mulX f2 g2 := by
  unfold mulX mulS
  refine itN_co 286 (fun p hp u => ?_)
  try dsimp only
  rw [h p hp]
  by_cases z : f2 p = 0
  · rw [if_pos z, if_pos z]
  · rw [if_neg z, if_neg z]
    refine itN_co 286 (fun q hq v => ?_)
    try dsimp only
    rw [hg q hq, h p hp]
theorem okX_co {f f2 g g2 : Nat → Int} (h : ∀ t < 286, f t = f2 t) (hg : ∀ t < 286, g t = g2 t) : okX f g ↔ okX f2 g2 :=
  ⟨fun k p hp q hq a b => k p hp q hq (by rw [h p hp]; exact a) (by rw [hg q hq]; exact b), fun k p hp q hq a b => k p hp q hq (by rw [← h p hp]; exact a) (by rw [← hg q hq]; exact b)⟩
set_option maxRecDepth 100000 in
theorem x_psmall {w : aW} {d : Nat} (hd : 2 ≤ d) {h : aH} {c : Nat} (cs : CS h c) (V : Nat → Nat → Int) (row : Nat) (tr : hT h row = (2, 286)) : WP w d 130 [aO (some (c + 17)), aO (some row)] (hw h V) (RI (fun r h1 => h1 = hw h V ∧ r = if bt (smX (V row)) = true then 1 else 0)) := by
  obtain ⟨d, rfl⟩ : ∃ d1, d = d1 + 1 := ⟨d - 1, by omega⟩
  refine WP.enter (cd := cd_X4_areSmall) rfl ?_
  have hls : largs 0 [aO (some (c + 17)), aO (some row)] = [(0, aO (some (c + 17))), (1, aO (some row))] := rfl
  rw [hls]
  clear hls
  have l2 : ∀ (fuel : Nat) (i : Nat), (i ≤ 286) → (∀ t < i, -67108864 ≤ V row t ∧ V row t ≤ 67108864) → 286 - i < fuel → Wk w d cd_X4_areSmall 2 [(2, aI ((i : Int))), (0, aO (some (c + 17))), (1, aO (some row))] [] (hw h V) (RI (fun r h1 => h1 = hw h V ∧ r = if bt (smX (V row)) = true then 1 else 0)) := by
    intro fuel
    induction fuel with
    | zero => intros; omega
    | succ fuel ih2 =>
      intro i hi hs hfuel
      refine g_iload_n rfl rfl ?_
      refine g_sipush rfl ?_
      refine g_icmp_ge rfl (fun cq6 => ?_) (fun cq6 => ?_)
      · skip
        refine g_iconst rfl ?_
        refine g_zret rfl (by omega) ?_
        refine ⟨rfl, (if_pos ?_).symm⟩
        exact bt_iff.mpr fun t ht => hs t (by omega)
      · skip
        refine g_aload_n rfl rfl ?_
        refine g_iload_n rfl rfl ?_
        refine g_lald (i := i) rfl tr (by omega) (by omega) ?_
        refine g_top (v2 := aJ (V row i)) (congrArg aJ (by rfl)) ?_
        refine g_ldc2 rfl ?_
        refine g_lc_lt rfl rfl (fun cq15 => ?_) (fun cq15 => ?_)
        · skip
          refine g_iconst rfl ?_
          refine g_zret rfl (by omega) ?_
          refine ⟨rfl, (if_neg ?_).symm⟩
          intro z
          have := bt_iff.mp z i (by omega)
          omega
        · skip
          refine g_aload_n rfl rfl ?_
          refine g_iload_n rfl rfl ?_
          refine g_lald (i := i) rfl tr (by omega) (by omega) ?_
          refine g_top (v2 := aJ (V row i)) (congrArg aJ (by rfl)) ?_
          refine g_ldc2 rfl ?_
          refine g_lc_le rfl rfl (fun cq25 => ?_) (fun cq25 => ?_)
          · skip
            refine g_iinc (l1 := [(2, aI ((i : Int) + 1)), (0, aO (some (c + 17))), (1, aO (some row))]) rfl rfl (by omega) (by omega) rfl ?_
            refine g_goto rfl ?_
            exact ih2 (i + 1) (by omega) (by exact fun t ht => if e : t = i then by (subst e; omega) else hs t (by omega)) (by omega)
          · skip
            refine g_iconst rfl ?_
            refine g_zret rfl (by omega) ?_
            refine ⟨rfl, (if_neg ?_).symm⟩
            intro z
            have := bt_iff.mp z i (by omega)
            omega
  refine g_iconst rfl ?_
  refine g_istore_n (l1 := [(2, aI 0), (0, aO (some (c + 17))), (1, aO (some row))]) rfl rfl ?_
  exact l2 _ 0 (by omega) (by exact fun t ht => by omega) (Nat.lt_succ_self _)
set_option maxRecDepth 100000 in
theorem x_pdeg {w : aW} {d : Nat} (hd : 3 ≤ d) {h : aH} {c : Nat} (cs : CS h c) (V : Nat → Nat → Int) (xe : XE V c) (row : Nat) (tr : hT h row = (2, 286)) : WP w d 131 [aO (some (c + 17)), aO (some row)] (hw h V) (RI (fun r h1 => h1 = hw h V ∧ r = dgX (V row) 286)) := by
  obtain ⟨d, rfl⟩ : ∃ d1, d = d1 + 1 := ⟨d - 1, by omega⟩
  refine WP.enter (cd := cd_X4_degreeOf) rfl ?_
  have hls : largs 0 [aO (some (c + 17)), aO (some row)] = [(0, aO (some (c + 17))), (1, aO (some row))] := rfl
  rw [hls]
  clear hls
  have l4 : ∀ (fuel : Nat) (i : Nat) (m : Int), (i ≤ 286) → (m = dgX (V row) i) → 286 - i < fuel → Wk w d cd_X4_degreeOf 4 [(3, aI ((i : Int))), (2, aI m), (0, aO (some (c + 17))), (1, aO (some row))] [] (hw h V) (RI (fun r h1 => h1 = hw h V ∧ r = dgX (V row) 286)) := by
    intro fuel
    induction fuel with
    | zero => intros; omega
    | succ fuel ih4 =>
      intro i m hi hm hfuel
      have hdd := dgX_b (V row) i
      have hdd2 := dgX_le (V row) i hi
      refine g_iload_n rfl rfl ?_
      refine g_sipush rfl ?_
      refine g_icmp_ge rfl (fun cq8 => ?_) (fun cq8 => ?_)
      · skip
        refine g_iload_n rfl rfl ?_
        refine g_iret rfl ?_
        refine ⟨rfl, ?_⟩
        rw [hm, show i = 286 by omega]
      · skip
        refine g_aload_n rfl rfl ?_
        refine g_iload_n rfl rfl ?_
        refine g_lald (i := i) rfl tr (by omega) (by omega) ?_
        refine g_top (v2 := aJ (V row i)) (congrArg aJ (by rfl)) ?_
        refine g_lconst0 rfl ?_
        refine g_lc_eq rfl rfl (fun cq15 => ?_) (fun cq15 => ?_)
        · skip
          refine g_iinc (l1 := [(3, aI ((i : Int) + 1)), (2, aI m), (0, aO (some (c + 17))), (1, aO (some row))]) rfl rfl (by omega) (by omega) rfl ?_
          refine g_goto rfl ?_
          exact ih4 (i + 1) _ (by omega) (by show _ = if V row i = 0 then dgX (V row) i else max (dgX (V row) i) (pD i); first | (rw [if_pos (by omega)]; exact hm) | (rw [if_neg (by omega), hm]; unfold pD; omega)) (by clear hdd hdd2 hm; omega)
        · skip
          refine g_iload_n rfl rfl ?_
          have hpe := (pI_pE i (by omega)).1
          refine g_aload_n rfl rfl ?_
          refine g_getR rfl (cs.kd 17 (by omega) rfl) (cs.rf 22 (by omega) rfl) ?_
          refine g_iload_n rfl rfl ?_
          refine g_iald (i := i) rfl (cs.ar 18 (by omega) rfl) (by omega) (by omega) ?_
          refine g_top (v2 := aI ((((pE i).1 : Nat) : Int))) (congrArg aI (by exact (xe.1 i (by omega)).1)) ?_
          refine g_aload_n rfl rfl ?_
          refine g_getR rfl (cs.kd 17 (by omega) rfl) (cs.rf 23 (by omega) rfl) ?_
          refine g_iload_n rfl rfl ?_
          refine g_iald (i := i) rfl (cs.ar 19 (by omega) rfl) (by omega) (by omega) ?_
          refine g_top (v2 := aI ((((pE i).2.1 : Nat) : Int))) (congrArg aI (by exact (xe.1 i (by omega)).2.1)) ?_
          refine g_iadd rfl (by omega) (by omega) ?_
          refine g_aload_n rfl rfl ?_
          refine g_getR rfl (cs.kd 17 (by omega) rfl) (cs.rf 24 (by omega) rfl) ?_
          refine g_iload_n rfl rfl ?_
          refine g_iald (i := i) rfl (cs.ar 20 (by omega) rfl) (by omega) (by omega) ?_
          refine g_top (v2 := aI ((((pE i).2.2 : Nat) : Int))) (congrArg aI (by exact (xe.1 i (by omega)).2.2)) ?_
          refine g_iadd rfl (by omega) (by omega) ?_
          refine g_callSI [aI m, aI ((((((pE i).1 : Nat) : Int)) + ((((pE i).2.1 : Nat) : Int))) + ((((pE i).2.2 : Nat) : Int)))] [] rfl rfl rfl rfl (Nat.le_of_ble_eq_true rfl) (c_imax (by omega) m ((((((pE i).1 : Nat) : Int)) + ((((pE i).2.1 : Nat) : Int))) + ((((pE i).2.2 : Nat) : Int))) _) ?_
          rintro _ _ ⟨rfl, rfl⟩
          refine g_istore_n (l1 := [(2, aI (max (m) ((((((pE i).1 : Nat) : Int)) + ((((pE i).2.1 : Nat) : Int))) + ((((pE i).2.2 : Nat) : Int))))), (3, aI ((i : Int))), (0, aO (some (c + 17))), (1, aO (some row))]) rfl rfl ?_
          refine g_iinc (l1 := [(3, aI ((i : Int) + 1)), (2, aI (max (m) ((((((pE i).1 : Nat) : Int)) + ((((pE i).2.1 : Nat) : Int))) + ((((pE i).2.2 : Nat) : Int))))), (0, aO (some (c + 17))), (1, aO (some row))]) rfl rfl (by omega) (by omega) rfl ?_
          refine g_goto rfl ?_
          exact ih4 (i + 1) _ (by omega) (by show _ = if V row i = 0 then dgX (V row) i else max (dgX (V row) i) (pD i); first | (rw [if_pos (by omega)]; exact hm) | (rw [if_neg (by omega), hm]; unfold pD; omega)) (by clear hdd hdd2 hm; omega)
  refine g_iconst rfl ?_
  refine g_istore_n (l1 := [(2, aI ((-1))), (0, aO (some (c + 17))), (1, aO (some row))]) rfl rfl ?_
  refine g_iconst rfl ?_
  refine g_istore_n (l1 := [(3, aI 0), (2, aI ((-1))), (0, aO (some (c + 17))), (1, aO (some row))]) rfl rfl ?_
  exact l4 _ 0 _ (by omega) (by rfl) (Nat.lt_succ_self _)
set_option maxRecDepth 100000 in
theorem x_padd {w : aW} {d : Nat} (hd : 3 ≤ d) {h : aH} {c : Nat} (cs : CS h c) (V : Nat → Nat → Int) (sum more : Nat) (ts : hT h sum = (2, 286)) (tm : hT h more = (2, 286)) (hne : more ≠ sum) (s : Int) (hs : s = 1 ∨ s = -1) (b1 : smX (V sum)) (b2 : smX (V more)) : WP w d 135 [aO (some (c + 17)), aO (some sum), aO (some more), aI s] (hw h V) (RI (fun r h1 => ∃ V1, h1 = hw h V1 ∧ (∀ a, a ≠ sum → V1 a = V a) ∧ (∀ t < 286, V1 sum t = V sum t + s * V more t) ∧ r = if bt (smX (V1 sum)) = true then 1 else 0)) := by
  obtain ⟨d, rfl⟩ : ∃ d1, d = d1 + 1 := ⟨d - 1, by omega⟩
  refine WP.enter (cd := cd_X4_add) rfl ?_
  have hls : largs 0 [aO (some (c + 17)), aO (some sum), aO (some more), aI s] = [(0, aO (some (c + 17))), (1, aO (some sum)), (2, aO (some more)), (3, aI s)] := rfl
  rw [hls]
  clear hls
  have l3 : ∀ (fuel : Nat) (i : Nat) (V1 : Nat → Nat → Int), (i ≤ 286) → (∀ a, a ≠ sum → V1 a = V a) → (∀ t < i, V1 sum t = V sum t + s * V more t) → (∀ t, i ≤ t → V1 sum t = V sum t) → 286 - i < fuel → Wk w d cd_X4_add 3 [(4, aI ((i : Int))), (0, aO (some (c + 17))), (1, aO (some sum)), (2, aO (some more)), (3, aI s)] [] (hw h V1) (RI (fun r h1 => ∃ V1, h1 = hw h V1 ∧ (∀ a, a ≠ sum → V1 a = V a) ∧ (∀ t < 286, V1 sum t = V sum t + s * V more t) ∧ r = if bt (smX (V1 sum)) = true then 1 else 0)) := by
    intro fuel
    induction fuel with
    | zero => intros; omega
    | succ fuel ih3 =>
      intro i V1 hi hf hz hz2 hfuel
      refine g_iload rfl rfl ?_
      refine g_sipush rfl ?_
      refine g_icmp_ge rfl (fun cq8 => ?_) (fun cq8 => ?_)
      · skip
        refine g_aload_n rfl rfl ?_
        refine g_aload_n rfl rfl ?_
        refine g_callVI [aO (some sum)] [] rfl rfl rfl rfl (Nat.le_of_ble_eq_true rfl) (cs.kd 17 (by omega) rfl) (x_psmall (by omega) cs V1 sum ts) ?_
        rintro r hx ⟨ehx, rfl⟩
        rw [ehx]
        clear ehx hx
        refine g_zret rfl (by omega) ?_
        exact ⟨V1, rfl, hf, fun t ht => hz t (by omega), rfl⟩
      · skip
        refine g_aload_n rfl rfl ?_
        refine g_iload rfl rfl ?_
        refine g_dup2 rfl rfl rfl ?_
        refine g_lald (i := i) rfl ts (by omega) (by omega) ?_
        refine g_top (v2 := aJ (V1 sum i)) (congrArg aJ (by rfl)) ?_
        refine g_iload_n rfl rfl ?_
        refine g_i2l rfl ?_
        refine g_aload_n rfl rfl ?_
        refine g_iload rfl rfl ?_
        refine g_lald (i := i) rfl tm (by omega) (by omega) ?_
        refine g_top (v2 := aJ (V1 more i)) (congrArg aJ (by rfl)) ?_
        have e1 := hz2 i (Nat.le_refl _)
        have e2 : V1 more i = V more i := by rw [hf _ hne]
        have q1 := b1 i (by omega)
        have q2 := b2 i (by omega)
        have q3 : s * V1 more i = V more i ∨ s * V1 more i = -V more i := by
          rw [e2]
          rcases hs with z | z <;> rw [z] <;> omega
        refine g_lmul rfl (by omega) (by omega) ?_
        refine g_ladd rfl (by omega) (by omega) ?_
        refine g_last (i := i) rfl ts (by omega) (by omega) ?_
        refine g_hp (h2 := hw h (vset V1 sum i ((V1 sum i) + (s * (V1 more i))))) rfl ?_
        refine g_iinc (l1 := [(4, aI ((i : Int) + 1)), (0, aO (some (c + 17))), (1, aO (some sum)), (2, aO (some more)), (3, aI s)]) rfl rfl (by omega) (by omega) rfl ?_
        refine g_goto rfl ?_
        exact ih3 (i + 1) _ (by omega) (by exact fun a ha => by funext j; rw [vset_ne _ _ _ _ (by omega), hf a ha]) (by exact fun t ht => if e : t = i then by (subst e; rw [vset_eq, hz2 t (Nat.le_refl _), hf _ hne]) else by (rw [vset_ne _ _ _ _ (by omega)]; exact hz t (by omega))) (by exact fun t ht => by rw [vset_ne _ _ _ _ (by omega)]; exact hz2 t (by omega)) (by omega)
  refine g_iconst rfl ?_
  refine g_istore (l1 := [(4, aI 0), (0, aO (some (c + 17))), (1, aO (some sum)), (2, aO (some more)), (3, aI s)]) rfl rfl ?_
  exact l3 _ 0 V (by omega) (by exact fun a _ => rfl) (by exact fun t ht => by omega) (by exact fun t _ => rfl) (Nat.lt_succ_self _)
set_option maxRecDepth 100000 in
theorem x_pmul {w : aW} {d : Nat} (hd : 4 ≤ d) {h : aH} {c : Nat} (cs : CS h c) (V : Nat → Nat → Int) (xe : XE V c) (ra rb rm : Nat) (ta : hT h ra = (2, 286)) (tb : hT h rb = (2, 286)) (tm : hT h rm = (2, 286)) (hra : ra ≠ rm) (hrb : rb ≠ rm) (hrm : c + 21 < rm) (ba : smX (V ra)) (bb : smX (V rb)) : WP w d 136 [aO (some (c + 17)), aO (some ra), aO (some rb), aO (some rm)] (hw h V) (RI (fun r h1 => ∃ V1, h1 = hw h V1 ∧ (∀ a, a ≠ rm → V1 a = V a) ∧ ((¬ okX (V ra) (V rb) ∧ r = 0) ∨ (okX (V ra) (V rb) ∧ (∀ t < 286, V1 rm t = mulX (V ra) (V rb) t) ∧ r = if bt (smX (mulX (V ra) (V rb))) = true then 1 else 0)))) := by
  obtain ⟨d, rfl⟩ : ∃ d1, d = d1 + 1 := ⟨d - 1, by omega⟩
  refine WP.enter (cd := cd_X4_multiply) rfl ?_
  have hls : largs 0 [aO (some (c + 17)), aO (some ra), aO (some rb), aO (some rm)] = [(0, aO (some (c + 17))), (1, aO (some ra)), (2, aO (some rb)), (3, aO (some rm))] := rfl
  rw [hls]
  clear hls
  have l46 : (okX (V ra) (V rb)) → ∀ (fuel : Nat) (p : Nat) (V2 : Nat → Nat → Int), (p ≤ 286) → (∀ a, a ≠ rm → V2 a = V a) → (∀ t < 286, V2 rm t = mulS (V ra) (V rb) p (fun _ => 0) t) → 286 - p < fuel → Wk w d cd_X4_multiply 46 [(6, aI ((p : Int))), (4, aI (dgX (V ra) 286)), (5, aI (dgX (V rb) 286)), (0, aO (some (c + 17))), (1, aO (some ra)), (2, aO (some rb)), (3, aO (some rm))] [] (hw h V2) (RI (fun r h1 => ∃ V1, h1 = hw h V1 ∧ (∀ a, a ≠ rm → V1 a = V a) ∧ ((¬ okX (V ra) (V rb) ∧ r = 0) ∨ (okX (V ra) (V rb) ∧ (∀ t < 286, V1 rm t = mulX (V ra) (V rb) t) ∧ r = if bt (smX (mulX (V ra) (V rb))) = true then 1 else 0)))) := by
    intro hok fuel
    induction fuel with
    | zero => intros; omega
    | succ fuel ih46 =>
      intro p V2 hp hf2 hs hfuel
      have l57 : (p < 286) → ∀ (fuel : Nat) (q : Nat) (V3 : Nat → Nat → Int), (q ≤ 286) → (V ra p = 0 → q = 0) → (∀ a, a ≠ rm → V3 a = V a) → (∀ t < 286, V3 rm t = mulI (V ra) (V rb) p q (mulS (V ra) (V rb) p (fun _ => 0)) t) → 286 - q < fuel → Wk w d cd_X4_multiply 57 [(7, aI ((q : Int))), (6, aI ((p : Int))), (4, aI (dgX (V ra) 286)), (5, aI (dgX (V rb) 286)), (0, aO (some (c + 17))), (1, aO (some ra)), (2, aO (some rb)), (3, aO (some rm))] [] (hw h V3) (RI (fun r h1 => ∃ V1, h1 = hw h V1 ∧ (∀ a, a ≠ rm → V1 a = V a) ∧ ((¬ okX (V ra) (V rb) ∧ r = 0) ∨ (okX (V ra) (V rb) ∧ (∀ t < 286, V1 rm t = mulX (V ra) (V rb) t) ∧ r = if bt (smX (mulX (V ra) (V rb))) = true then 1 else 0)))) := by
        intro hp2 fuel
        induction fuel with
        | zero => intros; omega
        | succ fuel ih57 =>
          intro q V3 hq hq0 hf3 hs3 hfuel
          have e1 : V3 ra = V ra := hf3 ra hra
          have e2 : V3 rb = V rb := hf3 rb hrb
          have xe3 : XE V3 c := xe.fr (fun a h1 h2 => hf3 a (by omega))
          have e3 : V3 rb q = V rb q := by rw [e2]
          have e4 : V3 ra p = V ra p := by rw [e1]
          refine g_aload_n rfl rfl ?_
          refine g_iload rfl rfl ?_
          refine g_lald (i := p) rfl ta (by omega) (by omega) ?_
          refine g_top (v2 := aJ (V3 ra p)) (congrArg aJ (by rfl)) ?_
          refine g_lconst0 rfl ?_
          refine g_lc_eq rfl rfl (fun cq62 => ?_) (fun cq62 => ?_)
          · skip
            refine g_iinc (l1 := [(6, aI ((p : Int) + 1)), (7, aI ((q : Int))), (4, aI (dgX (V ra) 286)), (5, aI (dgX (V rb) 286)), (0, aO (some (c + 17))), (1, aO (some ra)), (2, aO (some rb)), (3, aO (some rm))]) rfl rfl (by omega) (by omega) rfl ?_
            refine g_goto rfl ?_
            refine g_ls [0, 2, 3, 4, 5, 6, 7] rfl rfl ?_
            exact ih46 (p + 1) V3 (by omega) (by exact hf3) (by 
                                                                                                                                                                                                                                                                                                                                                                                                                exact fun t ht => by
                                                                                                                                                                                                                                                                                                                                                                                                                  show _ = (if V ra p = 0 then mulS (V ra) (V rb) p (fun _ => 0) else mulI (V ra) (V rb) p 286 (mulS (V ra) (V rb) p (fun _ => 0))) t
                                                                                                                                                                                                                                                                                                                                                                                                                  rw [hs3 t ht]
                                                                                                                                                                                                                                                                                                                                                                                                                  by_cases z : V ra p = 0
                                                                                                                                                                                                                                                                                                                                                                                                                  · rw [if_pos z, hq0 z]
                                                                                                                                                                                                                                                                                                                                                                                                                    rfl
                                                                                                                                                                                                                                                                                                                                                                                                                  · rw [if_neg z, show q = 286 by omega]) (by omega)
          · skip
            refine g_iload rfl rfl ?_
            refine g_sipush rfl ?_
            refine g_icmp_ge rfl (fun cq71 => ?_) (fun cq71 => ?_)
            · skip
              refine g_iinc (l1 := [(6, aI ((p : Int) + 1)), (7, aI ((q : Int))), (4, aI (dgX (V ra) 286)), (5, aI (dgX (V rb) 286)), (0, aO (some (c + 17))), (1, aO (some ra)), (2, aO (some rb)), (3, aO (some rm))]) rfl rfl (by omega) (by omega) rfl ?_
              refine g_goto rfl ?_
              refine g_ls [0, 2, 3, 4, 5, 6, 7] rfl rfl ?_
              exact ih46 (p + 1) V3 (by omega) (by exact hf3) (by 
                                                                                                                                                                                                                                                                                                                                                                                                                exact fun t ht => by
                                                                                                                                                                                                                                                                                                                                                                                                                  show _ = (if V ra p = 0 then mulS (V ra) (V rb) p (fun _ => 0) else mulI (V ra) (V rb) p 286 (mulS (V ra) (V rb) p (fun _ => 0))) t
                                                                                                                                                                                                                                                                                                                                                                                                                  rw [hs3 t ht]
                                                                                                                                                                                                                                                                                                                                                                                                                  by_cases z : V ra p = 0
                                                                                                                                                                                                                                                                                                                                                                                                                  · rw [if_pos z, hq0 z]
                                                                                                                                                                                                                                                                                                                                                                                                                    rfl
                                                                                                                                                                                                                                                                                                                                                                                                                  · rw [if_neg z, show q = 286 by omega]) (by omega)
            · skip
              refine g_aload_n rfl rfl ?_
              refine g_iload rfl rfl ?_
              refine g_lald (i := q) rfl tb (by omega) (by omega) ?_
              refine g_top (v2 := aJ (V3 rb q)) (congrArg aJ (by rfl)) ?_
              refine g_lconst0 rfl ?_
              refine g_lc_ne rfl rfl (fun cq79 => ?_) (fun cq79 => ?_)
              · skip
                have hfp : V ra p ≠ 0 := by omega
                have hgq : V rb q ≠ 0 := by omega
                have hdd := hok p (by omega) q (by omega) hfp hgq
                have hpa := pA_ok hdd
                unfold pD at hdd
                refine g_aload_n rfl rfl ?_
                refine g_aload_n rfl rfl ?_
                refine g_getR rfl (cs.kd 17 (by omega) rfl) (cs.rf 22 (by omega) rfl) ?_
                refine g_iload rfl rfl ?_
                refine g_iald (i := p) rfl (cs.ar 18 (by omega) rfl) (by omega) (by omega) ?_
                refine g_top (v2 := aI ((((pE p).1 : Nat) : Int))) (congrArg aI (by exact (xe3.1 p (by omega)).1)) ?_
                refine g_aload_n rfl rfl ?_
                refine g_getR rfl (cs.kd 17 (by omega) rfl) (cs.rf 22 (by omega) rfl) ?_
                refine g_iload rfl rfl ?_
                refine g_iald (i := q) rfl (cs.ar 18 (by omega) rfl) (by omega) (by omega) ?_
                refine g_top (v2 := aI ((((pE q).1 : Nat) : Int))) (congrArg aI (by exact (xe3.1 q (by omega)).1)) ?_
                refine g_iadd rfl (by omega) (by omega) ?_
                refine g_aload_n rfl rfl ?_
                refine g_getR rfl (cs.kd 17 (by omega) rfl) (cs.rf 23 (by omega) rfl) ?_
                refine g_iload rfl rfl ?_
                refine g_iald (i := p) rfl (cs.ar 19 (by omega) rfl) (by omega) (by omega) ?_
                refine g_top (v2 := aI ((((pE p).2.1 : Nat) : Int))) (congrArg aI (by exact (xe3.1 p (by omega)).2.1)) ?_
                refine g_aload_n rfl rfl ?_
                refine g_getR rfl (cs.kd 17 (by omega) rfl) (cs.rf 23 (by omega) rfl) ?_
                refine g_iload rfl rfl ?_
                refine g_iald (i := q) rfl (cs.ar 19 (by omega) rfl) (by omega) (by omega) ?_
                refine g_top (v2 := aI ((((pE q).2.1 : Nat) : Int))) (congrArg aI (by exact (xe3.1 q (by omega)).2.1)) ?_
                refine g_iadd rfl (by omega) (by omega) ?_
                refine g_aload_n rfl rfl ?_
                refine g_getR rfl (cs.kd 17 (by omega) rfl) (cs.rf 24 (by omega) rfl) ?_
                refine g_iload rfl rfl ?_
                refine g_iald (i := p) rfl (cs.ar 20 (by omega) rfl) (by omega) (by omega) ?_
                refine g_top (v2 := aI ((((pE p).2.2 : Nat) : Int))) (congrArg aI (by exact (xe3.1 p (by omega)).2.2)) ?_
                refine g_aload_n rfl rfl ?_
                refine g_getR rfl (cs.kd 17 (by omega) rfl) (cs.rf 24 (by omega) rfl) ?_
                refine g_iload rfl rfl ?_
                refine g_iald (i := q) rfl (cs.ar 20 (by omega) rfl) (by omega) (by omega) ?_
                refine g_top (v2 := aI ((((pE q).2.2 : Nat) : Int))) (congrArg aI (by exact (xe3.1 q (by omega)).2.2)) ?_
                refine g_iadd rfl (by omega) (by omega) ?_
                refine g_callVI [aI (((((pE p).1 : Nat) : Int)) + ((((pE q).1 : Nat) : Int))), aI (((((pE p).2.1 : Nat) : Int)) + ((((pE q).2.1 : Nat) : Int))), aI (((((pE p).2.2 : Nat) : Int)) + ((((pE q).2.2 : Nat) : Int)))] [] rfl rfl rfl rfl (Nat.le_of_ble_eq_true rfl) (cs.kd 17 (by omega) rfl) (x_indexOf (by omega) cs V3 xe3 _ _ _) ?_
                rintro r _ ⟨rfl, hr, -⟩
                obtain rfl := hr (by omega)
                refine g_top (v2 := aI ((pA p q : Nat) : Int)) rfl ?_
                refine g_istore (l1 := [(8, aI (((pA p q : Nat) : Int))), (7, aI ((q : Int))), (6, aI ((p : Int))), (4, aI (dgX (V ra) 286)), (5, aI (dgX (V rb) 286)), (0, aO (some (c + 17))), (1, aO (some ra)), (2, aO (some rb)), (3, aO (some rm))]) rfl rfl ?_
                refine g_iload rfl rfl ?_
                refine g_if_lt_f rfl (by omega) ?_
                refine g_iload rfl rfl ?_
                refine g_sipush rfl ?_
                refine g_icmp_ge_f rfl (by omega) ?_
                refine g_aload_n rfl rfl ?_
                refine g_iload rfl rfl ?_
                refine g_dup2 rfl rfl rfl ?_
                have hb0 := hs3 (pA p q) hpa.1
                have hb1 := mulI_b ba bb hok (p := p) (by omega) hfp (q := q) (by omega) (pA p q)
                have hb2 := prod26 (ba p (by omega)) (bb q (by omega))
                rw [← e4, ← e3] at hb2
                refine g_lald (i := pA p q) rfl tm (by omega) (by omega) ?_
                refine g_top (v2 := aJ (V3 rm (pA p q))) (congrArg aJ (by rfl)) ?_
                refine g_aload_n rfl rfl ?_
                refine g_iload rfl rfl ?_
                refine g_lald (i := p) rfl ta (by omega) (by omega) ?_
                refine g_top (v2 := aJ (V3 ra p)) (congrArg aJ (by rfl)) ?_
                refine g_aload_n rfl rfl ?_
                refine g_iload rfl rfl ?_
                refine g_lald (i := q) rfl tb (by omega) (by omega) ?_
                refine g_top (v2 := aJ (V3 rb q)) (congrArg aJ (by rfl)) ?_
                refine g_lmul rfl (by omega) (by omega) ?_
                refine g_ladd rfl (by omega) (by omega) ?_
                refine g_last (i := pA p q) rfl tm (by omega) (by omega) ?_
                refine g_hp (h2 := hw h (vset V3 rm (pA p q) ((V3 rm (pA p q)) + ((V3 ra p) * (V3 rb q))))) rfl ?_
                refine g_iinc (l1 := [(7, aI ((q : Int) + 1)), (8, aI (((pA p q : Nat) : Int))), (6, aI ((p : Int))), (4, aI (dgX (V ra) 286)), (5, aI (dgX (V rb) 286)), (0, aO (some (c + 17))), (1, aO (some ra)), (2, aO (some rb)), (3, aO (some rm))]) rfl rfl (by omega) (by omega) rfl ?_
                refine g_goto rfl ?_
                refine g_ls [0, 2, 3, 4, 5, 6, 7, 8] rfl rfl ?_
                exact ih57 (q + 1) _ (by omega) (by exact fun z => by omega) (by first | exact hf3 | exact (fun a ha => by funext j; rw [vset_ne _ _ _ _ (by omega), hf3 a ha])) (by 
                                                                                                                                                                                                                                                                                                                                                                                                                exact fun t ht => by
                                                                                                                                                                                                                                                                                                                                                                                                                  show _ = (if V rb q = 0 then mulI (V ra) (V rb) p q (mulS (V ra) (V rb) p (fun _ => 0)) else adA (mulI (V ra) (V rb) p q (mulS (V ra) (V rb) p (fun _ => 0))) (pA p q) (V ra p * V rb q)) t
                                                                                                                                                                                                                                                                                                                                                                                                                  by_cases z : V rb q = 0
                                                                                                                                                                                                                                                                                                                                                                                                                  · rw [if_pos z]
                                                                                                                                                                                                                                                                                                                                                                                                                    first
                                                                                                                                                                                                                                                                                                                                                                                                                      | (exact hs3 t ht)
                                                                                                                                                                                                                                                                                                                                                                                                                      | (exfalso; omega)
                                                                                                                                                                                                                                                                                                                                                                                                                  · rw [if_neg z]
                                                                                                                                                                                                                                                                                                                                                                                                                    unfold adA
                                                                                                                                                                                                                                                                                                                                                                                                                    by_cases e : t = pA p q
                                                                                                                                                                                                                                                                                                                                                                                                                    · rw [if_pos e, e]
                                                                                                                                                                                                                                                                                                                                                                                                                      first
                                                                                                                                                                                                                                                                                                                                                                                                                        | (rw [vset_eq, hs3 _ hpa.1, e1, e2])
                                                                                                                                                                                                                                                                                                                                                                                                                        | (exfalso; omega)
                                                                                                                                                                                                                                                                                                                                                                                                                    · rw [if_neg e]
                                                                                                                                                                                                                                                                                                                                                                                                                      first
                                                                                                                                                                                                                                                                                                                                                                                                                        | (rw [vset_ne _ _ _ _ (by omega)]; exact hs3 t ht)
                                                                                                                                                                                                                                                                                                                                                                                                                        | (exact hs3 t ht)) (by omega)
              · skip
                refine g_iconst rfl ?_
                refine g_goto rfl ?_
                refine g_istore (l1 := [(8, aI ((-1))), (7, aI ((q : Int))), (6, aI ((p : Int))), (4, aI (dgX (V ra) 286)), (5, aI (dgX (V rb) 286)), (0, aO (some (c + 17))), (1, aO (some ra)), (2, aO (some rb)), (3, aO (some rm))]) rfl rfl ?_
                refine g_iload rfl rfl ?_
                refine g_if_lt_t rfl (by omega) ?_
                refine g_iinc (l1 := [(7, aI ((q : Int) + 1)), (8, aI ((-1))), (6, aI ((p : Int))), (4, aI (dgX (V ra) 286)), (5, aI (dgX (V rb) 286)), (0, aO (some (c + 17))), (1, aO (some ra)), (2, aO (some rb)), (3, aO (some rm))]) rfl rfl (by omega) (by omega) rfl ?_
                refine g_goto rfl ?_
                refine g_ls [0, 2, 3, 4, 5, 6, 7, 8] rfl rfl ?_
                exact ih57 (q + 1) _ (by omega) (by exact fun z => by omega) (by first | exact hf3 | exact (fun a ha => by funext j; rw [vset_ne _ _ _ _ (by omega), hf3 a ha])) (by 
                                                                                                                                                                                                                                                                                                                                                                                                                exact fun t ht => by
                                                                                                                                                                                                                                                                                                                                                                                                                  show _ = (if V rb q = 0 then mulI (V ra) (V rb) p q (mulS (V ra) (V rb) p (fun _ => 0)) else adA (mulI (V ra) (V rb) p q (mulS (V ra) (V rb) p (fun _ => 0))) (pA p q) (V ra p * V rb q)) t
                                                                                                                                                                                                                                                                                                                                                                                                                  by_cases z : V rb q = 0
                                                                                                                                                                                                                                                                                                                                                                                                                  · rw [if_pos z]
                                                                                                                                                                                                                                                                                                                                                                                                                    first
                                                                                                                                                                                                                                                                                                                                                                                                                      | (exact hs3 t ht)
                                                                                                                                                                                                                                                                                                                                                                                                                      | (exfalso; omega)
                                                                                                                                                                                                                                                                                                                                                                                                                  · rw [if_neg z]
                                                                                                                                                                                                                                                                                                                                                                                                                    unfold adA
                                                                                                                                                                                                                                                                                                                                                                                                                    by_cases e : t = pA p q
                                                                                                                                                                                                                                                                                                                                                                                                                    · rw [if_pos e, e]
                                                                                                                                                                                                                                                                                                                                                                                                                      first
                                                                                                                                                                                                                                                                                                                                                                                                                        | (rw [vset_eq, hs3 _ hpa.1, e1, e2])
                                                                                                                                                                                                                                                                                                                                                                                                                        | (exfalso; omega)
                                                                                                                                                                                                                                                                                                                                                                                                                    · rw [if_neg e]
                                                                                                                                                                                                                                                                                                                                                                                                                      first
                                                                                                                                                                                                                                                                                                                                                                                                                        | (rw [vset_ne _ _ _ _ (by omega)]; exact hs3 t ht)
                                                                                                                                                                                                                                                                                                                                                                                                                        | (exact hs3 t ht)) (by omega)
      refine g_iload rfl rfl ?_
      refine g_sipush rfl ?_
      refine g_icmp_ge rfl (fun cq51 => ?_) (fun cq51 => ?_)
      · skip
        refine g_aload_n rfl rfl ?_
        refine g_aload_n rfl rfl ?_
        refine g_callVI [aO (some rm)] [] rfl rfl rfl rfl (Nat.le_of_ble_eq_true rfl) (cs.kd 17 (by omega) rfl) (x_psmall (by omega) cs V2 rm tm) ?_
        rintro r hx ⟨ehx, rfl⟩
        rw [ehx, bt_co (smX_co (f := V2 rm) (g := mulX (V ra) (V rb)) (fun t ht => by rw [hs t ht, show p = 286 by omega]; rfl))]
        clear ehx hx
        refine g_zret rfl (by omega) ?_
        exact ⟨V2, rfl, hf2, Or.inr ⟨hok, fun t ht => by rw [hs t ht, show p = 286 by omega]; rfl, rfl⟩⟩
      · skip
        refine g_iconst rfl ?_
        refine g_istore (l1 := [(7, aI 0), (6, aI ((p : Int))), (4, aI (dgX (V ra) 286)), (5, aI (dgX (V rb) 286)), (0, aO (some (c + 17))), (1, aO (some ra)), (2, aO (some rb)), (3, aO (some rm))]) rfl rfl ?_
        exact l57 (by omega) _ 0 V2 (by omega) (by exact fun _ => rfl) (by exact hf2) (by exact hs) (Nat.lt_succ_self _)
  refine g_aload_n rfl rfl ?_
  refine g_aload_n rfl rfl ?_
  refine g_callVN [aO (some rm)] [] rfl rfl rfl rfl (Nat.le_of_ble_eq_true rfl) (cs.kd 17 (by omega) rfl) (x_clear (by omega) cs V rm tm) ?_
  rintro _ ⟨V1, rfl, hf, hz⟩
  have xe1 : XE V1 c := xe.fr (fun a h1 h2 => hf a (by omega))
  refine g_aload_n rfl rfl ?_
  refine g_aload_n rfl rfl ?_
  refine g_callVI [aO (some ra)] [] rfl rfl rfl rfl (Nat.le_of_ble_eq_true rfl) (cs.kd 17 (by omega) rfl) (x_pdeg (by omega) cs V1 xe1 ra ta) ?_
  rintro r1 hx1 ⟨ehx1, rfl⟩
  rw [ehx1, hf ra hra]
  clear ehx1 hx1
  refine g_istore (l1 := [(4, aI (dgX (V ra) 286)), (0, aO (some (c + 17))), (1, aO (some ra)), (2, aO (some rb)), (3, aO (some rm))]) rfl rfl ?_
  refine g_aload_n rfl rfl ?_
  refine g_aload_n rfl rfl ?_
  refine g_callVI [aO (some rb)] [] rfl rfl rfl rfl (Nat.le_of_ble_eq_true rfl) (cs.kd 17 (by omega) rfl) (x_pdeg (by omega) cs V1 xe1 rb tb) ?_
  rintro r2 hx2 ⟨ehx2, rfl⟩
  rw [ehx2, hf rb hrb]
  clear ehx2 hx2
  refine g_istore (l1 := [(5, aI (dgX (V rb) 286)), (4, aI (dgX (V ra) 286)), (0, aO (some (c + 17))), (1, aO (some ra)), (2, aO (some rb)), (3, aO (some rm))]) rfl rfl ?_
  have hda := dgX_le (V ra) 286 (Nat.le_refl _)
  have hdb := dgX_le (V rb) 286 (Nat.le_refl _)
  have hda2 := (dgX_b (V ra) 286).1
  have hdb2 := (dgX_b (V rb) 286).1
  refine g_iload rfl rfl ?_
  refine g_if_lt rfl (fun cq21 => ?_) (fun cq21 => ?_)
  · skip
    refine g_iconst rfl ?_
    refine g_zret rfl (by omega) ?_
    refine ⟨V1, rfl, hf, Or.inr ⟨ok_deg.mpr (by omega), fun t ht => ?_, ?_⟩⟩
    · rw [mul_none (by omega)]
      exact hz t ht
    · rw [mul_none (by omega), if_pos (bt_iff.mpr sm_none)]
  · skip
    refine g_iload rfl rfl ?_
    refine g_if_ge rfl (fun cq26 => ?_) (fun cq26 => ?_)
    · skip
      refine g_iload rfl rfl ?_
      refine g_iload rfl rfl ?_
      refine g_iadd rfl (by omega) (by omega) ?_
      refine g_bipush rfl ?_
      refine g_icmp_le rfl (fun cq38 => ?_) (fun cq38 => ?_)
      · skip
        refine g_iconst rfl ?_
        refine g_istore (l1 := [(6, aI 0), (5, aI (dgX (V rb) 286)), (4, aI (dgX (V ra) 286)), (0, aO (some (c + 17))), (1, aO (some ra)), (2, aO (some rb)), (3, aO (some rm))]) rfl rfl ?_
        refine g_ls [0, 2, 1, 3, 4, 5, 6] rfl rfl ?_
        exact l46 (by exact ok_deg.mpr (by omega)) _ 0 V1 (by omega) (by exact hf) (by exact hz) (Nat.lt_succ_self _)
      · skip
        refine g_iconst rfl ?_
        refine g_zret rfl (by omega) ?_
        refine ⟨V1, rfl, hf, Or.inl ⟨fun z => ?_, rfl⟩⟩
        have := ok_deg.mp z
        omega
    · skip
      refine g_iconst rfl ?_
      refine g_zret rfl (by omega) ?_
      refine ⟨V1, rfl, hf, Or.inr ⟨ok_deg.mpr (by omega), fun t ht => ?_, ?_⟩⟩
      · rw [mul_none (by omega)]
        exact hz t ht
      · rw [mul_none (by omega), if_pos (bt_iff.mpr sm_none)]
/-- what a row has with an exponent e of the first unknown, without that -/
def prt (f : Nat → Int) (e t : Nat) : Int := if (pE t).1 = 0 ∧ e + (pE t).2.1 + (pE t).2.2 ≤ 10 then f (pI e (pE t).2.1 (pE t).2.2) else 0
def der (f : Nat → Int) (t : Nat) : Int := if pD t ≤ 9 then f (pI ((pE t).1 + 1) (pE t).2.1 (pE t).2.2) * (((pE t).1 + 1 : Nat) : Int) else 0
theorem pE_eq {t i j k : Nat} (ht : t < 286) (h : i + j + k ≤ 10) : t = pI i j k ↔ (pE t).1 = i ∧ (pE t).2.1 = j ∧ (pE t).2.2 = k := by
  constructor
  · intro e
    rw [e, pE_pI h]
    exact ⟨rfl, rfl, rfl⟩
  · rintro ⟨e1, e2, e3⟩
    have := (pI_pE t ht).2
    rw [e1, e2, e3] at this
    exact this.symm
/-- so far: what comes from places before n -/
def prtN (f : Nat → Int) (e n t : Nat) : Int := if (pE t).1 = 0 ∧ e + (pE t).2.1 + (pE t).2.2 ≤ 10 ∧ pI e (pE t).2.1 (pE t).2.2 < n then f (pI e (pE t).2.1 (pE t).2.2) else 0
def derN (f : Nat → Int) (n t : Nat) : Int := if pD t ≤ 9 ∧ pI ((pE t).1 + 1) (pE t).2.1 (pE t).2.2 < n then f (pI ((pE t).1 + 1) (pE t).2.1 (pE t).2.2) * (((pE t).1 + 1 : Nat) : Int) else 0
theorem prtN_all (f : Nat → Int) (e t : Nat) : prtN f e 286 t = prt f e t := by
  unfold prtN prt
  by_cases h : (pE t).1 = 0 ∧ e + (pE t).2.1 + (pE t).2.2 ≤ 10
  · rw [if_pos h, if_pos ⟨h.1, h.2, pI_lt h.2⟩]
  · rw [if_neg h, if_neg (fun z => h ⟨z.1, z.2.1⟩)]
theorem derN_all (f : Nat → Int) (t : Nat) : derN f 286 t = der f t := by
  unfold derN der
  by_cases h : pD t ≤ 9
  · rw [if_pos h, if_pos ⟨h, pI_lt (by unfold pD at h; omega)⟩]
  · rw [if_neg h, if_neg (fun z => h z.1)]
theorem prtN_0 (f : Nat → Int) (e t : Nat) : prtN f e 0 t = 0 := if_neg (fun z => by omega)
theorem derN_0 (f : Nat → Int) (t : Nat) : derN f 0 t = 0 := if_neg (fun z => by omega)
theorem prtN_no {f : Nat → Int} {e i t : Nat} (hi : i < 286) (h : ¬ (pE i).1 = e) : prtN f e (i + 1) t = prtN f e i t := by
  unfold prtN
  by_cases g : (pE t).1 = 0 ∧ e + (pE t).2.1 + (pE t).2.2 ≤ 10
  · have hne : pI e (pE t).2.1 (pE t).2.2 ≠ i := fun z => h (((pE_eq hi g.2).mp z.symm).1)
    by_cases l : pI e (pE t).2.1 (pE t).2.2 < i
    · rw [if_pos ⟨g.1, g.2, by omega⟩, if_pos ⟨g.1, g.2, l⟩]
    · rw [if_neg (fun z => by have := z.2.2; omega), if_neg (fun z => l z.2.2)]
  · rw [if_neg (fun z => g ⟨z.1, z.2.1⟩), if_neg (fun z => g ⟨z.1, z.2.1⟩)]
theorem prtN_at {f : Nat → Int} {e i t : Nat} (hi : i < 286) (ht : t < 286) (h : (pE i).1 = e) : prtN f e (i + 1) t = if t = pI 0 (pE i).2.1 (pE i).2.2 then f i else prtN f e i t := by
  have hpi := pI_pE i hi
  have h0 : 0 + (pE i).2.1 + (pE i).2.2 ≤ 10 := by omega
  by_cases z : t = pI 0 (pE i).2.1 (pE i).2.2
  · obtain ⟨a1, a2, a3⟩ := (pE_eq ht h0).mp z
    rw [if_pos z]
    unfold prtN
    rw [a1, a2, a3, ← h, hpi.2, if_pos ⟨rfl, hpi.1, by omega⟩]
  · rw [if_neg z]
    unfold prtN
    by_cases g : (pE t).1 = 0 ∧ e + (pE t).2.1 + (pE t).2.2 ≤ 10
    · have hne : pI e (pE t).2.1 (pE t).2.2 ≠ i := fun y => z (by
        obtain ⟨b1, b2, b3⟩ := (pE_eq hi g.2).mp y.symm
        exact (pE_eq ht h0).mpr ⟨g.1, b2.symm, b3.symm⟩)
      by_cases l : pI e (pE t).2.1 (pE t).2.2 < i
      · rw [if_pos ⟨g.1, g.2, by omega⟩, if_pos ⟨g.1, g.2, l⟩]
      · rw [if_neg (fun z => by have := z.2.2; omega), if_neg (fun z => l z.2.2)]
    · rw [if_neg (fun z => g ⟨z.1, z.2.1⟩), if_neg (fun z => g ⟨z.1, z.2.1⟩)]
theorem derN_no {f : Nat → Int} {i t : Nat} (hi : i < 286) (h : (pE i).1 = 0) : derN f (i + 1) t = derN f i t := by
  unfold derN
  by_cases g : pD t ≤ 9
  · have g2 : (pE t).1 + 1 + (pE t).2.1 + (pE t).2.2 ≤ 10 := by unfold pD at g; omega
    have hne : pI ((pE t).1 + 1) (pE t).2.1 (pE t).2.2 ≠ i := fun z => by
      have := ((pE_eq hi g2).mp z.symm).1
      omega
    by_cases l : pI ((pE t).1 + 1) (pE t).2.1 (pE t).2.2 < i
    · rw [if_pos ⟨g, by omega⟩, if_pos ⟨g, l⟩]
    · rw [if_neg (fun z => by have := z.2; omega), if_neg (fun z => l z.2)]
  · rw [if_neg (fun z => g z.1), if_neg (fun z => g z.1)]
theorem derN_at {f : Nat → Int} {i t : Nat} (hi : i < 286) (ht : t < 286) (h : (pE i).1 ≠ 0) : derN f (i + 1) t = if t = pI ((pE i).1 - 1) (pE i).2.1 (pE i).2.2 then f i * ((pE i).1 : Int) else derN f i t := by
  have hpi := pI_pE i hi
  have h0 : (pE i).1 - 1 + (pE i).2.1 + (pE i).2.2 ≤ 10 := by omega
  by_cases z : t = pI ((pE i).1 - 1) (pE i).2.1 (pE i).2.2
  · obtain ⟨a1, a2, a3⟩ := (pE_eq ht h0).mp z
    rw [if_pos z]
    unfold derN pD
    rw [a1, a2, a3, show (pE i).1 - 1 + 1 = (pE i).1 by omega, hpi.2, if_pos ⟨by omega, by omega⟩]
  · rw [if_neg z]
    unfold derN
    by_cases g : pD t ≤ 9
    · have g2 : (pE t).1 + 1 + (pE t).2.1 + (pE t).2.2 ≤ 10 := by unfold pD at g; omega
      have hne : pI ((pE t).1 + 1) (pE t).2.1 (pE t).2.2 ≠ i := fun y => z (by
        obtain ⟨b1, b2, b3⟩ := (pE_eq hi g2).mp y.symm
        exact (pE_eq ht h0).mpr ⟨by omega, b2.symm, b3.symm⟩)
      by_cases l : pI ((pE t).1 + 1) (pE t).2.1 (pE t).2.2 < i
      · rw [if_pos ⟨g, by omega⟩, if_pos ⟨g, l⟩]
      · rw [if_neg (fun z => by have := z.2; omega), if_neg (fun z => l z.2)]
    · rw [if_neg (fun z => g z.1), if_neg (fun z => g z.1)]
set_option maxRecDepth 100000 in
theorem x_ptake {w : aW} {d : Nat} (hd : 3 ≤ d) {h : aH} {c : Nat} (cs : CS h c) (V : Nat → Nat → Int) (xe : XE V c) (ra e : Nat) (ta : hT h ra = (2, 286)) (hra : ra ≠ c + 26) : WP w d 138 [aO (some (c + 17)), aO (some ra), aI ((e : Int))] (hw h V) (RN (fun h1 => ∃ V1, h1 = hw h V1 ∧ (∀ a, a ≠ c + 26 → V1 a = V a) ∧ ∀ t < 286, V1 (c + 26) t = prt (V ra) e t)) := by
  obtain ⟨d, rfl⟩ : ∃ d1, d = d1 + 1 := ⟨d - 1, by omega⟩
  refine WP.enter (cd := cd_X4_takePart) rfl ?_
  have hls : largs 0 [aO (some (c + 17)), aO (some ra), aI ((e : Int))] = [(0, aO (some (c + 17))), (1, aO (some ra)), (2, aI ((e : Int)))] := rfl
  rw [hls]
  clear hls
  have l10 : ∀ (fuel : Nat) (i : Nat) (V2 : Nat → Nat → Int), (i ≤ 286) → (∀ a, a ≠ c + 26 → V2 a = V a) → (∀ t < 286, V2 (c + 26) t = prtN (V ra) e i t) → 286 - i < fuel → Wk w d cd_X4_takePart 10 [(3, aI ((i : Int))), (0, aO (some (c + 17))), (1, aO (some ra)), (2, aI ((e : Int)))] [] (hw h V2) (RN (fun h1 => ∃ V1, h1 = hw h V1 ∧ (∀ a, a ≠ c + 26 → V1 a = V a) ∧ ∀ t < 286, V1 (c + 26) t = prt (V ra) e t)) := by
    intro fuel
    induction fuel with
    | zero => intros; omega
    | succ fuel ih10 =>
      intro i V2 hi hf2 hs hfuel
      have e1 : V2 ra = V ra := hf2 ra hra
      have e4 : V2 ra i = V ra i := by rw [e1]
      have xe2 : XE V2 c := xe.fr (fun a h1 h2 => hf2 a (by omega))
      refine g_iload_n rfl rfl ?_
      refine g_sipush rfl ?_
      refine g_icmp_ge rfl (fun cq14 => ?_) (fun cq14 => ?_)
      · skip
        refine g_vret rfl ?_
        exact ⟨V2, rfl, hf2, fun t ht => by rw [hs t ht, show i = 286 by omega, prtN_all]⟩
      · skip
        refine g_aload_n rfl rfl ?_
        refine g_getR rfl (cs.kd 17 (by omega) rfl) (cs.rf 22 (by omega) rfl) ?_
        refine g_iload_n rfl rfl ?_
        refine g_iald (i := i) rfl (cs.ar 18 (by omega) rfl) (by omega) (by omega) ?_
        refine g_top (v2 := aI ((((pE i).1 : Nat) : Int))) (congrArg aI (by exact (xe2.1 i (by omega)).1)) ?_
        refine g_iload_n rfl rfl ?_
        refine g_icmp_ne rfl (fun cq24 => ?_) (fun cq24 => ?_)
        · skip
          refine g_iconst rfl ?_
          refine g_istore (l1 := [(4, aI ((-1))), (3, aI ((i : Int))), (0, aO (some (c + 17))), (1, aO (some ra)), (2, aI ((e : Int)))]) rfl rfl ?_
          refine g_iload rfl rfl ?_
          refine g_if_lt_t rfl (by omega) ?_
          refine g_iinc (l1 := [(3, aI ((i : Int) + 1)), (4, aI ((-1))), (0, aO (some (c + 17))), (1, aO (some ra)), (2, aI ((e : Int)))]) rfl rfl (by omega) (by omega) rfl ?_
          refine g_goto rfl ?_
          refine g_ls [0, 2, 3, 4] rfl rfl ?_
          exact ih10 (i + 1) _ (by omega) (by first | exact hf2 | exact (fun a ha => by funext j; rw [vset_ne _ _ _ _ (by omega), hf2 a ha])) (by 
                                                                                                                                                                                                                                                                                                                                                                                                                exact fun t ht => by
                                                                                                                                                                                                                                                                                                                                                                                                                  by_cases z : (pE i).1 = e
                                                                                                                                                                                                                                                                                                                                                                                                                  · rw [prtN_at (by omega) ht z]
                                                                                                                                                                                                                                                                                                                                                                                                                    by_cases y : t = pI 0 (pE i).2.1 (pE i).2.2
                                                                                                                                                                                                                                                                                                                                                                                                                    · rw [if_pos y, y]
                                                                                                                                                                                                                                                                                                                                                                                                                      first
                                                                                                                                                                                                                                                                                                                                                                                                                        | (rw [vset_eq, e1])
                                                                                                                                                                                                                                                                                                                                                                                                                        | (exfalso; omega)
                                                                                                                                                                                                                                                                                                                                                                                                                    · rw [if_neg y]
                                                                                                                                                                                                                                                                                                                                                                                                                      first
                                                                                                                                                                                                                                                                                                                                                                                                                        | (rw [vset_ne _ _ _ _ (by omega)]; exact hs t ht)
                                                                                                                                                                                                                                                                                                                                                                                                                        | (exact hs t ht)
                                                                                                                                                                                                                                                                                                                                                                                                                  · rw [prtN_no (by omega) z]
                                                                                                                                                                                                                                                                                                                                                                                                                    first
                                                                                                                                                                                                                                                                                                                                                                                                                      | (exact hs t ht)
                                                                                                                                                                                                                                                                                                                                                                                                                      | (exfalso; omega)) (by omega)
        · skip
          have hpe := (pI_pE i (by omega)).1
          have hpl := pI_lt (i := 0) (j := (pE i).2.1) (k := (pE i).2.2) (by omega)
          refine g_aload_n rfl rfl ?_
          refine g_iconst rfl ?_
          refine g_aload_n rfl rfl ?_
          refine g_getR rfl (cs.kd 17 (by omega) rfl) (cs.rf 23 (by omega) rfl) ?_
          refine g_iload_n rfl rfl ?_
          refine g_iald (i := i) rfl (cs.ar 19 (by omega) rfl) (by omega) (by omega) ?_
          refine g_top (v2 := aI ((((pE i).2.1 : Nat) : Int))) (congrArg aI (by exact (xe2.1 i (by omega)).2.1)) ?_
          refine g_aload_n rfl rfl ?_
          refine g_getR rfl (cs.kd 17 (by omega) rfl) (cs.rf 24 (by omega) rfl) ?_
          refine g_iload_n rfl rfl ?_
          refine g_iald (i := i) rfl (cs.ar 20 (by omega) rfl) (by omega) (by omega) ?_
          refine g_top (v2 := aI ((((pE i).2.2 : Nat) : Int))) (congrArg aI (by exact (xe2.1 i (by omega)).2.2)) ?_
          refine g_callVI [aI 0, aI ((((pE i).2.1 : Nat) : Int)), aI ((((pE i).2.2 : Nat) : Int))] [] rfl rfl rfl rfl (Nat.le_of_ble_eq_true rfl) (cs.kd 17 (by omega) rfl) (x_indexOf (by omega) cs V2 xe2 _ _ _) ?_
          rintro r _ ⟨rfl, hr, -⟩
          obtain rfl := hr (by omega)
          refine g_top (v2 := aI ((pI 0 (pE i).2.1 (pE i).2.2 : Nat) : Int)) rfl ?_
          refine g_goto rfl ?_
          refine g_istore (l1 := [(4, aI (((pI 0 (pE i).2.1 (pE i).2.2 : Nat) : Int))), (3, aI ((i : Int))), (0, aO (some (c + 17))), (1, aO (some ra)), (2, aI ((e : Int)))]) rfl rfl ?_
          refine g_iload rfl rfl ?_
          refine g_if_lt_f rfl (by omega) ?_
          refine g_iload rfl rfl ?_
          refine g_sipush rfl ?_
          refine g_icmp_ge_f rfl (by omega) ?_
          refine g_aload_n rfl rfl ?_
          refine g_getR rfl (cs.kd 17 (by omega) rfl) (cs.rf 30 (by omega) rfl) ?_
          refine g_iload rfl rfl ?_
          refine g_aload_n rfl rfl ?_
          refine g_iload_n rfl rfl ?_
          refine g_lald (i := i) rfl ta (by omega) (by omega) ?_
          refine g_top (v2 := aJ (V2 ra i)) (congrArg aJ (by rfl)) ?_
          refine g_last (i := pI 0 (pE i).2.1 (pE i).2.2) rfl (cs.ar 26 (by omega) rfl) (by omega) (by omega) ?_
          refine g_hp (h2 := hw h (vset V2 (c + 26) (pI 0 (pE i).2.1 (pE i).2.2) (V2 ra i))) rfl ?_
          refine g_iinc (l1 := [(3, aI ((i : Int) + 1)), (4, aI (((pI 0 (pE i).2.1 (pE i).2.2 : Nat) : Int))), (0, aO (some (c + 17))), (1, aO (some ra)), (2, aI ((e : Int)))]) rfl rfl (by omega) (by omega) rfl ?_
          refine g_goto rfl ?_
          refine g_ls [0, 2, 3, 4] rfl rfl ?_
          exact ih10 (i + 1) _ (by omega) (by first | exact hf2 | exact (fun a ha => by funext j; rw [vset_ne _ _ _ _ (by omega), hf2 a ha])) (by 
                                                                                                                                                                                                                                                                                                                                                                                                                exact fun t ht => by
                                                                                                                                                                                                                                                                                                                                                                                                                  by_cases z : (pE i).1 = e
                                                                                                                                                                                                                                                                                                                                                                                                                  · rw [prtN_at (by omega) ht z]
                                                                                                                                                                                                                                                                                                                                                                                                                    by_cases y : t = pI 0 (pE i).2.1 (pE i).2.2
                                                                                                                                                                                                                                                                                                                                                                                                                    · rw [if_pos y, y]
                                                                                                                                                                                                                                                                                                                                                                                                                      first
                                                                                                                                                                                                                                                                                                                                                                                                                        | (rw [vset_eq, e1])
                                                                                                                                                                                                                                                                                                                                                                                                                        | (exfalso; omega)
                                                                                                                                                                                                                                                                                                                                                                                                                    · rw [if_neg y]
                                                                                                                                                                                                                                                                                                                                                                                                                      first
                                                                                                                                                                                                                                                                                                                                                                                                                        | (rw [vset_ne _ _ _ _ (by omega)]; exact hs t ht)
                                                                                                                                                                                                                                                                                                                                                                                                                        | (exact hs t ht)
                                                                                                                                                                                                                                                                                                                                                                                                                  · rw [prtN_no (by omega) z]
                                                                                                                                                                                                                                                                                                                                                                                                                    first
                                                                                                                                                                                                                                                                                                                                                                                                                      | (exact hs t ht)
                                                                                                                                                                                                                                                                                                                                                                                                                      | (exfalso; omega)) (by omega)
  refine g_aload_n rfl rfl ?_
  refine g_aload_n rfl rfl ?_
  refine g_getR rfl (cs.kd 17 (by omega) rfl) (cs.rf 30 (by omega) rfl) ?_
  refine g_callVN [aO (some (c + 26))] [] rfl rfl rfl rfl (Nat.le_of_ble_eq_true rfl) (cs.kd 17 (by omega) rfl) (x_clear (by omega) cs V (c + 26) (cs.ar 26 (by omega) rfl)) ?_
  rintro _ ⟨V1, rfl, hf, hz⟩
  have xe1 : XE V1 c := xe.fr (fun a h1 h2 => hf a (by omega))
  refine g_iconst rfl ?_
  refine g_istore_n (l1 := [(3, aI 0), (0, aO (some (c + 17))), (1, aO (some ra)), (2, aI ((e : Int)))]) rfl rfl ?_
  exact l10 _ 0 V1 (by omega) (by exact hf) (by exact fun t ht => (hz t ht).trans (prtN_0 _ _ _).symm) (Nat.lt_succ_self _)
set_option maxRecDepth 100000 in
theorem x_pder {w : aW} {d : Nat} (hd : 3 ≤ d) {h : aH} {c : Nat} (cs : CS h c) (V : Nat → Nat → Int) (xe : XE V c) (ra : Nat) (ta : hT h ra = (2, 286)) (hra : ra ≠ c + 23) (ba : smX (V ra)) : WP w d 139 [aO (some (c + 17)), aO (some ra)] (hw h V) (RI (fun r h1 => ∃ V1, h1 = hw h V1 ∧ (∀ a, a ≠ c + 23 → V1 a = V a) ∧ (∀ t < 286, V1 (c + 23) t = der (V ra) t) ∧ r = if bt (smX (der (V ra))) = true then 1 else 0)) := by
  obtain ⟨d, rfl⟩ : ∃ d1, d = d1 + 1 := ⟨d - 1, by omega⟩
  refine WP.enter (cd := cd_X4_derive) rfl ?_
  have hls : largs 0 [aO (some (c + 17)), aO (some ra)] = [(0, aO (some (c + 17))), (1, aO (some ra))] := rfl
  rw [hls]
  clear hls
  have l10 : ∀ (fuel : Nat) (i : Nat) (V2 : Nat → Nat → Int), (i ≤ 286) → (∀ a, a ≠ c + 23 → V2 a = V a) → (∀ t < 286, V2 (c + 23) t = derN (V ra) i t) → 286 - i < fuel → Wk w d cd_X4_derive 10 [(2, aI ((i : Int))), (0, aO (some (c + 17))), (1, aO (some ra))] [] (hw h V2) (RI (fun r h1 => ∃ V1, h1 = hw h V1 ∧ (∀ a, a ≠ c + 23 → V1 a = V a) ∧ (∀ t < 286, V1 (c + 23) t = der (V ra) t) ∧ r = if bt (smX (der (V ra))) = true then 1 else 0)) := by
    intro fuel
    induction fuel with
    | zero => intros; omega
    | succ fuel ih10 =>
      intro i V2 hi hf2 hs hfuel
      have e1 : V2 ra = V ra := hf2 ra hra
      have e4 : V2 ra i = V ra i := by rw [e1]
      have xe2 : XE V2 c := xe.fr (fun a h1 h2 => hf2 a (by omega))
      refine g_iload_n rfl rfl ?_
      refine g_sipush rfl ?_
      refine g_icmp_ge rfl (fun cq14 => ?_) (fun cq14 => ?_)
      · skip
        refine g_aload_n rfl rfl ?_
        refine g_aload_n rfl rfl ?_
        refine g_getR rfl (cs.kd 17 (by omega) rfl) (cs.rf 27 (by omega) rfl) ?_
        refine g_callVI [aO (some (c + 23))] [] rfl rfl rfl rfl (Nat.le_of_ble_eq_true rfl) (cs.kd 17 (by omega) rfl) (x_psmall (by omega) cs V2 (c + 23) (cs.ar 23 (by omega) rfl)) ?_
        rintro r hx ⟨ehx, rfl⟩
        rw [ehx, bt_co (smX_co (f := V2 (c + 23)) (g := der (V ra)) (fun t ht => by rw [hs t ht, show i = 286 by omega, derN_all]))]
        clear ehx hx
        refine g_zret rfl (by omega) ?_
        exact ⟨V2, rfl, hf2, fun t ht => by rw [hs t ht, show i = 286 by omega, derN_all], rfl⟩
      · skip
        have hpe := (pI_pE i (by omega)).1
        refine g_aload_n rfl rfl ?_
        refine g_aload_n rfl rfl ?_
        refine g_getR rfl (cs.kd 17 (by omega) rfl) (cs.rf 22 (by omega) rfl) ?_
        refine g_iload_n rfl rfl ?_
        refine g_iald (i := i) rfl (cs.ar 18 (by omega) rfl) (by omega) (by omega) ?_
        refine g_top (v2 := aI ((((pE i).1 : Nat) : Int))) (congrArg aI (by exact (xe2.1 i (by omega)).1)) ?_
        refine g_iconst rfl ?_
        refine g_isub rfl (by omega) (by omega) ?_
        refine g_aload_n rfl rfl ?_
        refine g_getR rfl (cs.kd 17 (by omega) rfl) (cs.rf 23 (by omega) rfl) ?_
        refine g_iload_n rfl rfl ?_
        refine g_iald (i := i) rfl (cs.ar 19 (by omega) rfl) (by omega) (by omega) ?_
        refine g_top (v2 := aI ((((pE i).2.1 : Nat) : Int))) (congrArg aI (by exact (xe2.1 i (by omega)).2.1)) ?_
        refine g_aload_n rfl rfl ?_
        refine g_getR rfl (cs.kd 17 (by omega) rfl) (cs.rf 24 (by omega) rfl) ?_
        refine g_iload_n rfl rfl ?_
        refine g_iald (i := i) rfl (cs.ar 20 (by omega) rfl) (by omega) (by omega) ?_
        refine g_top (v2 := aI ((((pE i).2.2 : Nat) : Int))) (congrArg aI (by exact (xe2.1 i (by omega)).2.2)) ?_
        refine g_callVI [aI (((((pE i).1 : Nat) : Int)) - 1), aI ((((pE i).2.1 : Nat) : Int)), aI ((((pE i).2.2 : Nat) : Int))] [] rfl rfl rfl rfl (Nat.le_of_ble_eq_true rfl) (cs.kd 17 (by omega) rfl) (x_indexOf (by omega) cs V2 xe2 _ _ _) ?_
        rintro r _ ⟨rfl, hr1, hr2⟩
        have hr : r = if (pE i).1 = 0 then -1 else ((pI ((pE i).1 - 1) (pE i).2.1 (pE i).2.2 : Nat) : Int) := by
          by_cases z : (pE i).1 = 0
          · rw [if_pos z]
            exact hr2 (by omega)
          · rw [if_neg z, hr1 (by omega)]
            congr 2
            omega
        refine g_istore_n (l1 := [(3, aI r), (2, aI ((i : Int))), (0, aO (some (c + 17))), (1, aO (some ra))]) rfl rfl ?_
        refine g_iload_n rfl rfl ?_
        have hz0 : (pE i).1 = 0 → r = -1 := fun z => by rw [hr, if_pos z]
        have hz1 : ¬ (pE i).1 = 0 → r = ((pI ((pE i).1 - 1) (pE i).2.1 (pE i).2.2 : Nat) : Int) ∧ pI ((pE i).1 - 1) (pE i).2.1 (pE i).2.2 < 286 := fun z => ⟨by rw [hr, if_neg z], pI_lt (by omega)⟩
        refine g_if_lt rfl (fun cq43 => ?_) (fun cq43 => ?_)
        · skip
          refine g_iinc (l1 := [(2, aI ((i : Int) + 1)), (3, aI r), (0, aO (some (c + 17))), (1, aO (some ra))]) rfl rfl (by omega) (by omega) rfl ?_
          refine g_goto rfl ?_
          refine g_ls [0, 2, 3] rfl rfl ?_
          exact ih10 (i + 1) _ (by omega) (by first | exact hf2 | exact (fun a ha => by funext j; rw [vset_ne _ _ _ _ (by omega), hf2 a ha])) (by 
                                                                                                                                                                                                                                                                                                                                                                                                                exact fun t ht => by
                                                                                                                                                                                                                                                                                                                                                                                                                  by_cases z : (pE i).1 = 0
                                                                                                                                                                                                                                                                                                                                                                                                                  · rw [derN_no (by omega) z]
                                                                                                                                                                                                                                                                                                                                                                                                                    first
                                                                                                                                                                                                                                                                                                                                                                                                                      | (exact hs t ht)
                                                                                                                                                                                                                                                                                                                                                                                                                      | (exfalso; omega)
                                                                                                                                                                                                                                                                                                                                                                                                                  · rw [derN_at (by omega) ht z]
                                                                                                                                                                                                                                                                                                                                                                                                                    by_cases y : t = pI ((pE i).1 - 1) (pE i).2.1 (pE i).2.2
                                                                                                                                                                                                                                                                                                                                                                                                                    · rw [if_pos y, y]
                                                                                                                                                                                                                                                                                                                                                                                                                      first
                                                                                                                                                                                                                                                                                                                                                                                                                        | (rw [vset_eq, e1])
                                                                                                                                                                                                                                                                                                                                                                                                                        | (exfalso; omega)
                                                                                                                                                                                                                                                                                                                                                                                                                    · rw [if_neg y]
                                                                                                                                                                                                                                                                                                                                                                                                                      first
                                                                                                                                                                                                                                                                                                                                                                                                                        | (rw [vset_ne _ _ _ _ (by omega)]; exact hs t ht)
                                                                                                                                                                                                                                                                                                                                                                                                                        | (exact hs t ht)) (by omega)
        · skip
          refine g_iload_n rfl rfl ?_
          refine g_sipush rfl ?_
          refine g_icmp_ge_f rfl (by omega) ?_
          have hnz : ¬ (pE i).1 = 0 := fun z => by have := hz0 z; omega
          obtain ⟨hr3, hr4⟩ := hz1 hnz
          have hba := ba i (by omega)
          have hb2 := prod26 (x := V2 ra i) (y := ((pE i).1 : Int)) (by omega) (by omega)
          refine g_aload_n rfl rfl ?_
          refine g_getR rfl (cs.kd 17 (by omega) rfl) (cs.rf 27 (by omega) rfl) ?_
          refine g_iload_n rfl rfl ?_
          refine g_aload_n rfl rfl ?_
          refine g_iload_n rfl rfl ?_
          refine g_lald (i := i) rfl ta (by omega) (by omega) ?_
          refine g_top (v2 := aJ (V2 ra i)) (congrArg aJ (by rfl)) ?_
          refine g_aload_n rfl rfl ?_
          refine g_getR rfl (cs.kd 17 (by omega) rfl) (cs.rf 22 (by omega) rfl) ?_
          refine g_iload_n rfl rfl ?_
          refine g_iald (i := i) rfl (cs.ar 18 (by omega) rfl) (by omega) (by omega) ?_
          refine g_top (v2 := aI ((((pE i).1 : Nat) : Int))) (congrArg aI (by exact (xe2.1 i (by omega)).1)) ?_
          refine g_i2l rfl ?_
          refine g_lmul rfl (by omega) (by omega) ?_
          refine g_last (i := pI ((pE i).1 - 1) (pE i).2.1 (pE i).2.2) rfl (cs.ar 23 (by omega) rfl) (by omega) (by omega) ?_
          refine g_hp (h2 := hw h (vset V2 (c + 23) (pI ((pE i).1 - 1) (pE i).2.1 (pE i).2.2) ((V2 ra i) * ((((pE i).1 : Nat) : Int))))) rfl ?_
          refine g_iinc (l1 := [(2, aI ((i : Int) + 1)), (3, aI r), (0, aO (some (c + 17))), (1, aO (some ra))]) rfl rfl (by omega) (by omega) rfl ?_
          refine g_goto rfl ?_
          refine g_ls [0, 2, 3] rfl rfl ?_
          exact ih10 (i + 1) _ (by omega) (by first | exact hf2 | exact (fun a ha => by funext j; rw [vset_ne _ _ _ _ (by omega), hf2 a ha])) (by 
                                                                                                                                                                                                                                                                                                                                                                                                                exact fun t ht => by
                                                                                                                                                                                                                                                                                                                                                                                                                  by_cases z : (pE i).1 = 0
                                                                                                                                                                                                                                                                                                                                                                                                                  · rw [derN_no (by omega) z]
                                                                                                                                                                                                                                                                                                                                                                                                                    first
                                                                                                                                                                                                                                                                                                                                                                                                                      | (exact hs t ht)
                                                                                                                                                                                                                                                                                                                                                                                                                      | (exfalso; omega)
                                                                                                                                                                                                                                                                                                                                                                                                                  · rw [derN_at (by omega) ht z]
                                                                                                                                                                                                                                                                                                                                                                                                                    by_cases y : t = pI ((pE i).1 - 1) (pE i).2.1 (pE i).2.2
                                                                                                                                                                                                                                                                                                                                                                                                                    · rw [if_pos y, y]
                                                                                                                                                                                                                                                                                                                                                                                                                      first
                                                                                                                                                                                                                                                                                                                                                                                                                        | (rw [vset_eq, e1])
                                                                                                                                                                                                                                                                                                                                                                                                                        | (exfalso; omega)
                                                                                                                                                                                                                                                                                                                                                                                                                    · rw [if_neg y]
                                                                                                                                                                                                                                                                                                                                                                                                                      first
                                                                                                                                                                                                                                                                                                                                                                                                                        | (rw [vset_ne _ _ _ _ (by omega)]; exact hs t ht)
                                                                                                                                                                                                                                                                                                                                                                                                                        | (exact hs t ht)) (by omega)
  refine g_aload_n rfl rfl ?_
  refine g_aload_n rfl rfl ?_
  refine g_getR rfl (cs.kd 17 (by omega) rfl) (cs.rf 27 (by omega) rfl) ?_
  refine g_callVN [aO (some (c + 23))] [] rfl rfl rfl rfl (Nat.le_of_ble_eq_true rfl) (cs.kd 17 (by omega) rfl) (x_clear (by omega) cs V (c + 23) (cs.ar 23 (by omega) rfl)) ?_
  rintro _ ⟨V1, rfl, hf, hz⟩
  have xe1 : XE V1 c := xe.fr (fun a h1 h2 => hf a (by omega))
  refine g_iconst rfl ?_
  refine g_istore_n (l1 := [(2, aI 0), (0, aO (some (c + 17))), (1, aO (some ra))]) rfl rfl ?_
  exact l10 _ 0 V1 (by omega) (by exact hf) (by exact fun t ht => (hz t ht).trans (derN_0 _ _).symm) (Nat.lt_succ_self _)
