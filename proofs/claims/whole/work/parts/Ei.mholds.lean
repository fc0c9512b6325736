/-! the reference's statements: printed by wip/whole/ei.py -/
def m_onB (W : T4) (O : Option T4) : Bool := match O with
  | none => false
  | some P => decide (m_within_S W P = 0)
def m_crB (W : T4) (O : Option T4) : Bool := match O with
  | none => false
  | some G => decide ((m_cross_S G W).1 = 0 ∧ (m_cross_S G W).2.1 = 0 ∧ (m_cross_S G W).2.2.1 = 0)
def m_t3 (R : T4) : T4 := (R.1, R.2.1, R.2.2.1, 0)
/-- what a statement leaves -/
def FS (V V1 : Nat → Nat → Int) (o : Nat) : Prop := ∀ a i, ¬(a = o ∧ (i = 1 ∨ i = 31)) → a ≠ o + 1 → ¬(o + 24 ≤ a ∧ a ≤ o + 31) → V1 a i = V a i
theorem Gs.fs {V V0 V1 : Nat → Nat → Int} {o n : Nat} {T : Nat → Prop} (g : Gs V0 V1 o n T) (hT : ∀ q, T q → o + 24 ≤ q ∧ q ≤ o + 31) (e : V0 = vset (vset V o 31 0) o 1 0) : FS V V1 o := by
  intro q i h1 h2 h5
  have h6 : ¬ T q := fun x => h5 (hT q x)
  by_cases hq : q = o
  · subst hq
    rw [g.2.1 i (fun x => h1 ⟨rfl, by omega⟩), e, vset_ne _ _ _ _ (by omega), vset_ne _ _ _ _ (by omega)]
  · rw [g.1 q hq h2 h6, e, vset_ne _ _ _ _ (by omega), vset_ne _ _ _ _ (by omega)]
set_option maxRecDepth 100000 in
set_option maxHeartbeats 4000000 in
theorem m_areNear {w : aW} {d : Nat} (hd : 3 ≤ d) {h : aH} {o : Nat} (ms : MS h o) (V : Nat → Nat → Int) {S : aS} (ok : OkT S) (mt : MT V o S) (a : Int) (ha : 0 ≤ a ∧ a < sT S) (b : Int) (hb : 0 ≤ b ∧ b < sT S) (c : Int) (hc : 0 ≤ c ∧ c < sT S) (f : Int) (hf : 0 ≤ f ∧ f < sT S)  : WP w d 326 [aO (some o), aI a, aI b, aI c, aI f] (hw h V) (RI (fun r h1 => h1 = hw h V ∧ r = if ¬ sTp S a.toNat 2 = 0 ∧ ¬ sTp S b.toNat 2 = 0 ∧ ¬ sTp S c.toNat 2 = 0 ∧ ¬ sTp S f.toNat 2 = 0 then 1 else 0)) := by
  obtain ⟨d, rfl⟩ : ∃ d1, d = d1 + 1 := ⟨d - 1, by omega⟩
  refine WP.enter (cd := cd_X12_areNear) rfl ?_
  have G0 := Gs.refl V o (fun _ => False)
  have hn := ok.1
  have hls : largs 0 [aO (some o), aI a, aI b, aI c, aI f] = [(0, aO (some o)), (1, aI a), (2, aI b), (3, aI c), (4, aI f)] := rfl
  rw [hls]
  clear hls
  refine g_aload_n rfl rfl ?_
  refine g_iload_n rfl rfl ?_
  refine g_callVI [aI a] [] rfl rfl rfl rfl (Nat.le_of_ble_eq_true rfl) ms.1 (m_isFar (by omega) ms V ok mt a ha) ?_
  rintro r1 _ ⟨rfl, e2⟩
  rw [e2]
  clear e2 r1
  refine g_b_ne rfl (fun cq5 => ?_) (fun cq5 => ?_)
  · skip
    refine g_iconst rfl ?_
    refine g_zret rfl (by omega) ?_
    refine ⟨rfl, ?_⟩
    first
      | rw [if_pos (by omega)]
      | rw [if_neg (by omega)]
  · skip
    refine g_aload_n rfl rfl ?_
    refine g_iload_n rfl rfl ?_
    refine g_callVI [aI b] [] rfl rfl rfl rfl (Nat.le_of_ble_eq_true rfl) ms.1 (m_isFar (by omega) ms V ok mt b hb) ?_
    rintro r3 _ ⟨rfl, e4⟩
    rw [e4]
    clear e4 r3
    refine g_b_ne rfl (fun cq13 => ?_) (fun cq13 => ?_)
    · skip
      refine g_iconst rfl ?_
      refine g_zret rfl (by omega) ?_
      refine ⟨rfl, ?_⟩
      first
        | rw [if_pos (by omega)]
        | rw [if_neg (by omega)]
    · skip
      refine g_aload_n rfl rfl ?_
      refine g_iload_n rfl rfl ?_
      refine g_callVI [aI c] [] rfl rfl rfl rfl (Nat.le_of_ble_eq_true rfl) ms.1 (m_isFar (by omega) ms V ok mt c hc) ?_
      rintro r5 _ ⟨rfl, e6⟩
      rw [e6]
      clear e6 r5
      refine g_b_ne rfl (fun cq21 => ?_) (fun cq21 => ?_)
      · skip
        refine g_iconst rfl ?_
        refine g_zret rfl (by omega) ?_
        refine ⟨rfl, ?_⟩
        first
          | rw [if_pos (by omega)]
          | rw [if_neg (by omega)]
      · skip
        refine g_aload_n rfl rfl ?_
        refine g_iload rfl rfl ?_
        refine g_callVI [aI f] [] rfl rfl rfl rfl (Nat.le_of_ble_eq_true rfl) ms.1 (m_isFar (by omega) ms V ok mt f hf) ?_
        rintro r7 _ ⟨rfl, e8⟩
        rw [e8]
        clear e8 r7
        refine g_b_ne rfl (fun cq30 => ?_) (fun cq30 => ?_)
        · skip
          refine g_iconst rfl ?_
          refine g_zret rfl (by omega) ?_
          refine ⟨rfl, ?_⟩
          first
            | rw [if_pos (by omega)]
            | rw [if_neg (by omega)]
        · skip
          refine g_iconst rfl ?_
          refine g_goto rfl ?_
          refine g_zret rfl (by omega) ?_
          refine ⟨rfl, ?_⟩
          first
            | rw [if_pos (by omega)]
            | rw [if_neg (by omega)]
set_option maxRecDepth 100000 in
set_option maxHeartbeats 4000000 in
theorem m_areApart {w : aW} {d : Nat} (hd : 3 ≤ d) {h : aH} {o : Nat} (ms : MS h o) (V : Nat → Nat → Int) {S : aS} (ok : OkT S) (mt : MT V o S) (a : Int) (ha : 0 ≤ a ∧ a < sT S) (b : Int) (hb : 0 ≤ b ∧ b < sT S) (c : Int) (hc : 0 ≤ c ∧ c < sT S) (f : Int) (hf : 0 ≤ f ∧ f < sT S)  : WP w d 327 [aO (some o), aI a, aI b, aI c, aI f] (hw h V) (RI (fun r h1 => h1 = hw h V ∧ r = if ¬ (sTp S a.toNat 0 = sTp S b.toNat 0 ∧ sTp S a.toNat 1 = sTp S b.toNat 1 ∧ sTp S a.toNat 2 = sTp S b.toNat 2 ∧ sTp S a.toNat 3 = sTp S b.toNat 3) ∧ ¬ (sTp S a.toNat 0 = sTp S c.toNat 0 ∧ sTp S a.toNat 1 = sTp S c.toNat 1 ∧ sTp S a.toNat 2 = sTp S c.toNat 2 ∧ sTp S a.toNat 3 = sTp S c.toNat 3) ∧ ¬ (sTp S a.toNat 0 = sTp S f.toNat 0 ∧ sTp S a.toNat 1 = sTp S f.toNat 1 ∧ sTp S a.toNat 2 = sTp S f.toNat 2 ∧ sTp S a.toNat 3 = sTp S f.toNat 3) ∧ ¬ (sTp S b.toNat 0 = sTp S c.toNat 0 ∧ sTp S b.toNat 1 = sTp S c.toNat 1 ∧ sTp S b.toNat 2 = sTp S c.toNat 2 ∧ sTp S b.toNat 3 = sTp S c.toNat 3) ∧ ¬ (sTp S b.toNat 0 = sTp S f.toNat 0 ∧ sTp S b.toNat 1 = sTp S f.toNat 1 ∧ sTp S b.toNat 2 = sTp S f.toNat 2 ∧ sTp S b.toNat 3 = sTp S f.toNat 3) ∧ ¬ (sTp S c.toNat 0 = sTp S f.toNat 0 ∧ sTp S c.toNat 1 = sTp S f.toNat 1 ∧ sTp S c.toNat 2 = sTp S f.toNat 2 ∧ sTp S c.toNat 3 = sTp S f.toNat 3) then 1 else 0)) := by
  obtain ⟨d, rfl⟩ : ∃ d1, d = d1 + 1 := ⟨d - 1, by omega⟩
  refine WP.enter (cd := cd_X12_areApart) rfl ?_
  have G0 := Gs.refl V o (fun _ => False)
  have hn := ok.1
  have hls : largs 0 [aO (some o), aI a, aI b, aI c, aI f] = [(0, aO (some o)), (1, aI a), (2, aI b), (3, aI c), (4, aI f)] := rfl
  rw [hls]
  clear hls
  refine g_aload_n rfl rfl ?_
  refine g_iload_n rfl rfl ?_
  refine g_iload_n rfl rfl ?_
  refine g_callVI [aI a, aI b] [] rfl rfl rfl rfl (Nat.le_of_ble_eq_true rfl) ms.1 (m_isEqual (by omega) ms V ok mt a ha b hb) ?_
  rintro r1 _ ⟨rfl, e2⟩
  rw [e2]
  clear e2 r1
  refine g_b_ne rfl (fun cq6 => ?_) (fun cq6 => ?_)
  · skip
    refine g_iconst rfl ?_
    refine g_zret rfl (by omega) ?_
    refine ⟨rfl, ?_⟩
    first
      | (refine (if_pos ?_).symm; exact ⟨cq6, cq15, cq25, cq34, cq44, cq54⟩)
      | (refine (if_neg ?_).symm; intro q; exact q.1 cq6)
      | (refine (if_neg ?_).symm; intro q; exact q.2.1 cq15)
      | (refine (if_neg ?_).symm; intro q; exact q.2.2.1 cq25)
      | (refine (if_neg ?_).symm; intro q; exact q.2.2.2.1 cq34)
      | (refine (if_neg ?_).symm; intro q; exact q.2.2.2.2.1 cq44)
      | (refine (if_neg ?_).symm; intro q; exact q.2.2.2.2.2 cq54)
  · skip
    refine g_aload_n rfl rfl ?_
    refine g_iload_n rfl rfl ?_
    refine g_iload_n rfl rfl ?_
    refine g_callVI [aI a, aI c] [] rfl rfl rfl rfl (Nat.le_of_ble_eq_true rfl) ms.1 (m_isEqual (by omega) ms V ok mt a ha c hc) ?_
    rintro r3 _ ⟨rfl, e4⟩
    rw [e4]
    clear e4 r3
    refine g_b_ne rfl (fun cq15 => ?_) (fun cq15 => ?_)
    · skip
      refine g_iconst rfl ?_
      refine g_zret rfl (by omega) ?_
      refine ⟨rfl, ?_⟩
      first
        | (refine (if_pos ?_).symm; exact ⟨cq6, cq15, cq25, cq34, cq44, cq54⟩)
        | (refine (if_neg ?_).symm; intro q; exact q.1 cq6)
        | (refine (if_neg ?_).symm; intro q; exact q.2.1 cq15)
        | (refine (if_neg ?_).symm; intro q; exact q.2.2.1 cq25)
        | (refine (if_neg ?_).symm; intro q; exact q.2.2.2.1 cq34)
        | (refine (if_neg ?_).symm; intro q; exact q.2.2.2.2.1 cq44)
        | (refine (if_neg ?_).symm; intro q; exact q.2.2.2.2.2 cq54)
    · skip
      refine g_aload_n rfl rfl ?_
      refine g_iload_n rfl rfl ?_
      refine g_iload rfl rfl ?_
      refine g_callVI [aI a, aI f] [] rfl rfl rfl rfl (Nat.le_of_ble_eq_true rfl) ms.1 (m_isEqual (by omega) ms V ok mt a ha f hf) ?_
      rintro r5 _ ⟨rfl, e6⟩
      rw [e6]
      clear e6 r5
      refine g_b_ne rfl (fun cq25 => ?_) (fun cq25 => ?_)
      · skip
        refine g_iconst rfl ?_
        refine g_zret rfl (by omega) ?_
        refine ⟨rfl, ?_⟩
        first
          | (refine (if_pos ?_).symm; exact ⟨cq6, cq15, cq25, cq34, cq44, cq54⟩)
          | (refine (if_neg ?_).symm; intro q; exact q.1 cq6)
          | (refine (if_neg ?_).symm; intro q; exact q.2.1 cq15)
          | (refine (if_neg ?_).symm; intro q; exact q.2.2.1 cq25)
          | (refine (if_neg ?_).symm; intro q; exact q.2.2.2.1 cq34)
          | (refine (if_neg ?_).symm; intro q; exact q.2.2.2.2.1 cq44)
          | (refine (if_neg ?_).symm; intro q; exact q.2.2.2.2.2 cq54)
      · skip
        refine g_aload_n rfl rfl ?_
        refine g_iload_n rfl rfl ?_
        refine g_iload_n rfl rfl ?_
        refine g_callVI [aI b, aI c] [] rfl rfl rfl rfl (Nat.le_of_ble_eq_true rfl) ms.1 (m_isEqual (by omega) ms V ok mt b hb c hc) ?_
        rintro r7 _ ⟨rfl, e8⟩
        rw [e8]
        clear e8 r7
        refine g_b_ne rfl (fun cq34 => ?_) (fun cq34 => ?_)
        · skip
          refine g_iconst rfl ?_
          refine g_zret rfl (by omega) ?_
          refine ⟨rfl, ?_⟩
          first
            | (refine (if_pos ?_).symm; exact ⟨cq6, cq15, cq25, cq34, cq44, cq54⟩)
            | (refine (if_neg ?_).symm; intro q; exact q.1 cq6)
            | (refine (if_neg ?_).symm; intro q; exact q.2.1 cq15)
            | (refine (if_neg ?_).symm; intro q; exact q.2.2.1 cq25)
            | (refine (if_neg ?_).symm; intro q; exact q.2.2.2.1 cq34)
            | (refine (if_neg ?_).symm; intro q; exact q.2.2.2.2.1 cq44)
            | (refine (if_neg ?_).symm; intro q; exact q.2.2.2.2.2 cq54)
        · skip
          refine g_aload_n rfl rfl ?_
          refine g_iload_n rfl rfl ?_
          refine g_iload rfl rfl ?_
          refine g_callVI [aI b, aI f] [] rfl rfl rfl rfl (Nat.le_of_ble_eq_true rfl) ms.1 (m_isEqual (by omega) ms V ok mt b hb f hf) ?_
          rintro r9 _ ⟨rfl, e10⟩
          rw [e10]
          clear e10 r9
          refine g_b_ne rfl (fun cq44 => ?_) (fun cq44 => ?_)
          · skip
            refine g_iconst rfl ?_
            refine g_zret rfl (by omega) ?_
            refine ⟨rfl, ?_⟩
            first
              | (refine (if_pos ?_).symm; exact ⟨cq6, cq15, cq25, cq34, cq44, cq54⟩)
              | (refine (if_neg ?_).symm; intro q; exact q.1 cq6)
              | (refine (if_neg ?_).symm; intro q; exact q.2.1 cq15)
              | (refine (if_neg ?_).symm; intro q; exact q.2.2.1 cq25)
              | (refine (if_neg ?_).symm; intro q; exact q.2.2.2.1 cq34)
              | (refine (if_neg ?_).symm; intro q; exact q.2.2.2.2.1 cq44)
              | (refine (if_neg ?_).symm; intro q; exact q.2.2.2.2.2 cq54)
          · skip
            refine g_aload_n rfl rfl ?_
            refine g_iload_n rfl rfl ?_
            refine g_iload rfl rfl ?_
            refine g_callVI [aI c, aI f] [] rfl rfl rfl rfl (Nat.le_of_ble_eq_true rfl) ms.1 (m_isEqual (by omega) ms V ok mt c hc f hf) ?_
            rintro r11 _ ⟨rfl, e12⟩
            rw [e12]
            clear e12 r11
            refine g_b_ne rfl (fun cq54 => ?_) (fun cq54 => ?_)
            · skip
              refine g_iconst rfl ?_
              refine g_zret rfl (by omega) ?_
              refine ⟨rfl, ?_⟩
              first
                | (refine (if_pos ?_).symm; exact ⟨cq6, cq15, cq25, cq34, cq44, cq54⟩)
                | (refine (if_neg ?_).symm; intro q; exact q.1 cq6)
                | (refine (if_neg ?_).symm; intro q; exact q.2.1 cq15)
                | (refine (if_neg ?_).symm; intro q; exact q.2.2.1 cq25)
                | (refine (if_neg ?_).symm; intro q; exact q.2.2.2.1 cq34)
                | (refine (if_neg ?_).symm; intro q; exact q.2.2.2.2.1 cq44)
                | (refine (if_neg ?_).symm; intro q; exact q.2.2.2.2.2 cq54)
            · skip
              refine g_iconst rfl ?_
              refine g_goto rfl ?_
              refine g_zret rfl (by omega) ?_
              refine ⟨rfl, ?_⟩
              first
                | (refine (if_pos ?_).symm; exact ⟨cq6, cq15, cq25, cq34, cq44, cq54⟩)
                | (refine (if_neg ?_).symm; intro q; exact q.1 cq6)
                | (refine (if_neg ?_).symm; intro q; exact q.2.1 cq15)
                | (refine (if_neg ?_).symm; intro q; exact q.2.2.1 cq25)
                | (refine (if_neg ?_).symm; intro q; exact q.2.2.2.1 cq34)
                | (refine (if_neg ?_).symm; intro q; exact q.2.2.2.2.1 cq44)
                | (refine (if_neg ?_).symm; intro q; exact q.2.2.2.2.2 cq54)
set_option maxRecDepth 100000 in
set_option maxHeartbeats 4000000 in
theorem m_touches {w : aW} {d : Nat} (hd : 7 ≤ d) {h : aH} {o : Nat} (ms : MS h o) (V : Nat → Nat → Int) (hF : 0 ≤ V o 1 ∧ V o 1 + 20 ≤ 700) {L : T4} (aL : Nat) (hL : SLa o aL) (tL : SB V o aL L (41)) {R : T4} (aR : Nat) (hR : SLa o aR) (tR : SB V o aR R (20))  : WP w d 328 [aO (some o), aO (some aL), aO (some aR)] (hw h V) (RI (fun r h1 => (r = if (m_bulge_S R) * (m_norm_S L) = (m_reach_S L R) * (m_reach_S L R) then 1 else 0) ∧ ∃ V1, h1 = hw h V1 ∧ Gm V V1 o 20)) := by
  obtain ⟨d, rfl⟩ : ∃ d1, d = d1 + 1 := ⟨d - 1, by omega⟩
  refine WP.enter (cd := cd_X12_touches) rfl ?_
  have G0 := Gs.refl V o (fun _ => False)
  obtain ⟨Lp, Lq, Lr, Ls, sL, xLp, xLq, xLr, xLs⟩ := tL
  obtain ⟨Rp, Rq, Rr, Rs, sR, xRp, xRq, xRr, xRs⟩ := tR
  have hs_L := hL
  unfold SLa at hs_L
  have hs_R := hR
  unfold SLa at hs_R
  have hls : largs 0 [aO (some o), aO (some aL), aO (some aR)] = [(0, aO (some o)), (1, aO (some aL)), (2, aO (some aR))] := rfl
  rw [hls]
  clear hls
  refine g_aload_n rfl rfl ?_
  refine g_aload_n rfl rfl ?_
  refine g_aload_n rfl rfl ?_
  refine g_iconst rfl ?_
  refine g_iald (i := 0) rfl (ms.slot hL) (by omega) (by omega) ?_
  refine g_top (v2 := aI ((Lp : Int))) (congrArg aI (by exact sL.1)) ?_
  refine g_callVI [aI ((Lp : Int))] [aO (some o)] rfl rfl rfl rfl (Nat.le_of_ble_eq_true rfl) ms.1 (r_square (by omega) ms V (by have := G0.2.2.1; omega) xLp (by omega)) ?_
  rintro _ _ ⟨p1, rfl, V1, rfl, g1, xp1⟩
  have G_2 := G0.trans (g1.gs _)
  refine g_aload_n rfl rfl ?_
  refine g_aload_n rfl rfl ?_
  refine g_iconst rfl ?_
  refine g_iald (i := 1) rfl (ms.slot hL) (by omega) (by omega) ?_
  refine g_top (v2 := aI ((Lq : Int))) (congrArg aI (by exact (g1.sa hL sL).2.1)) ?_
  refine g_callVI [aI ((Lq : Int))] [aI ((p1 : Int)), aO (some o)] rfl rfl rfl rfl (Nat.le_of_ble_eq_true rfl) ms.1 (r_square (by omega) ms V1 (by have := G_2.2.2.1; omega) (g1.rb xLq) (by omega)) ?_
  rintro _ _ ⟨p3, rfl, V3, rfl, g3, xp3⟩
  have G_4 := G_2.trans (g3.gs _)
  refine g_callVI [aI ((p1 : Int)), aI ((p3 : Int))] [] rfl rfl rfl rfl (Nat.le_of_ble_eq_true rfl) ms.1 (r_add (by omega) ms V3 (by have := G_4.2.2.1; omega) (g3.rb xp1) xp3 (83) (by omega) (by omega) (by omega)) ?_
  rintro _ _ ⟨p5, rfl, V5, rfl, g5, xp5⟩
  have G_6 := G_4.trans (g5.gs _)
  refine g_istore_n (l1 := [(3, aI ((p5 : Int))), (0, aO (some o)), (1, aO (some aL)), (2, aO (some aR))]) rfl rfl ?_
  refine g_aload_n rfl rfl ?_
  refine g_aload_n rfl rfl ?_
  refine g_aload_n rfl rfl ?_
  refine g_ldc2 rfl ?_
  refine g_callVI [aJ 2] [aO (some o), aO (some o)] rfl rfl rfl rfl (Nat.le_of_ble_eq_true rfl) ms.1 (r_num (by omega) ms V5 (by have := G_6.2.2.1; omega) 2 (by omega) 1 (by decide)) ?_
  rintro _ _ ⟨p7, rfl, V7, rfl, g7, xp7⟩
  have G_8 := G_6.trans (g7.gs _)
  refine g_aload_n rfl rfl ?_
  refine g_iconst rfl ?_
  refine g_iald (i := 0) rfl (ms.slot hR) (by omega) (by omega) ?_
  refine g_top (v2 := aI ((Rp : Int))) (congrArg aI (by exact (g7.sa hR (g5.sa hR (g3.sa hR (g1.sa hR sR)))).1)) ?_
  refine g_aload_n rfl rfl ?_
  refine g_iconst rfl ?_
  refine g_iald (i := 2) rfl (ms.slot hL) (by omega) (by omega) ?_
  refine g_top (v2 := aI ((Lr : Int))) (congrArg aI (by exact (g7.sa hL (g5.sa hL (g3.sa hL (g1.sa hL sL)))).2.2.1)) ?_
  refine g_callVI [aI ((p7 : Int)), aI ((Rp : Int)), aI ((Lr : Int))] [aO (some o)] rfl rfl rfl rfl (Nat.le_of_ble_eq_true rfl) ms.1 (r_mul3 (by omega) ms V7 (by have := G_8.2.2.1; omega) xp7 (g7.rb (g5.rb (g3.rb (g1.rb xRp)))) (g7.rb (g5.rb (g3.rb (g1.rb xLr)))) (by omega)) ?_
  rintro _ _ ⟨p9, rfl, V9, rfl, g9, xp9⟩
  have G_10 := G_8.trans (g9.gs _)
  refine g_aload_n rfl rfl ?_
  refine g_aload_n rfl rfl ?_
  refine g_aload_n rfl rfl ?_
  refine g_iconst rfl ?_
  refine g_iald (i := 0) rfl (ms.slot hL) (by omega) (by omega) ?_
  refine g_top (v2 := aI ((Lp : Int))) (congrArg aI (by exact (g9.sa hL (g7.sa hL (g5.sa hL (g3.sa hL (g1.sa hL sL))))).1)) ?_
  refine g_aload_n rfl rfl ?_
  refine g_iconst rfl ?_
  refine g_iald (i := 1) rfl (ms.slot hR) (by omega) (by omega) ?_
  refine g_top (v2 := aI ((Rq : Int))) (congrArg aI (by exact (g9.sa hR (g7.sa hR (g5.sa hR (g3.sa hR (g1.sa hR sR))))).2.1)) ?_
  refine g_callVI [aI ((Lp : Int)), aI ((Rq : Int))] [aO (some o), aI ((p9 : Int)), aO (some o)] rfl rfl rfl rfl (Nat.le_of_ble_eq_true rfl) ms.1 (r_mul (by omega) ms V9 (by have := G_10.2.2.1; omega) (g9.rb (g7.rb (g5.rb (g3.rb (g1.rb xLp))))) (g9.rb (g7.rb (g5.rb (g3.rb (g1.rb xRq))))) (by omega)) ?_
  rintro _ _ ⟨p11, rfl, V11, rfl, g11, xp11⟩
  have G_12 := G_10.trans (g11.gs _)
  refine g_aload_n rfl rfl ?_
  refine g_aload_n rfl rfl ?_
  refine g_iconst rfl ?_
  refine g_iald (i := 1) rfl (ms.slot hL) (by omega) (by omega) ?_
  refine g_top (v2 := aI ((Lq : Int))) (congrArg aI (by exact (g11.sa hL (g9.sa hL (g7.sa hL (g5.sa hL (g3.sa hL (g1.sa hL sL)))))).2.1)) ?_
  refine g_aload_n rfl rfl ?_
  refine g_iconst rfl ?_
  refine g_iald (i := 2) rfl (ms.slot hR) (by omega) (by omega) ?_
  refine g_top (v2 := aI ((Rr : Int))) (congrArg aI (by exact (g11.sa hR (g9.sa hR (g7.sa hR (g5.sa hR (g3.sa hR (g1.sa hR sR)))))).2.2.1)) ?_
  refine g_callVI [aI ((Lq : Int)), aI ((Rr : Int))] [aI ((p11 : Int)), aO (some o), aI ((p9 : Int)), aO (some o)] rfl rfl rfl rfl (Nat.le_of_ble_eq_true rfl) ms.1 (r_mul (by omega) ms V11 (by have := G_12.2.2.1; omega) (g11.rb (g9.rb (g7.rb (g5.rb (g3.rb (g1.rb xLq)))))) (g11.rb (g9.rb (g7.rb (g5.rb (g3.rb (g1.rb xRr)))))) (by omega)) ?_
  rintro _ _ ⟨p13, rfl, V13, rfl, g13, xp13⟩
  have G_14 := G_12.trans (g13.gs _)
  refine g_callVI [aI ((p11 : Int)), aI ((p13 : Int))] [aI ((p9 : Int)), aO (some o)] rfl rfl rfl rfl (Nat.le_of_ble_eq_true rfl) ms.1 (r_add (by omega) ms V13 (by have := G_14.2.2.1; omega) (g13.rb xp11) xp13 (62) (by omega) (by omega) (by omega)) ?_
  rintro _ _ ⟨p15, rfl, V15, rfl, g15, xp15⟩
  have G_16 := G_14.trans (g15.gs _)
  refine g_callVI [aI ((p9 : Int)), aI ((p15 : Int))] [] rfl rfl rfl rfl (Nat.le_of_ble_eq_true rfl) ms.1 (r_sub (by omega) ms V15 (by have := G_16.2.2.1; omega) (g15.rb (g13.rb (g11.rb xp9))) xp15 (63) (by omega) (by omega) (by omega)) ?_
  rintro _ _ ⟨p17, rfl, V17, rfl, g17, xp17⟩
  have G_18 := G_16.trans (g17.gs _)
  refine g_istore (l1 := [(4, aI ((p17 : Int))), (3, aI ((p5 : Int))), (0, aO (some o)), (1, aO (some aL)), (2, aO (some aR))]) rfl rfl ?_
  refine g_aload_n rfl rfl ?_
  refine g_aload_n rfl rfl ?_
  refine g_aload_n rfl rfl ?_
  refine g_aload_n rfl rfl ?_
  refine g_callVI [aO (some aR)] [aO (some o), aO (some o)] rfl rfl rfl rfl (Nat.le_of_ble_eq_true rfl) ms.1 (m_bulge (by omega) ms V17 (by have := G_18.2.2.1; omega) aR hR (show SB V17 o aR R (20) from ⟨_, _, _, _, (g17.sa hR (g15.sa hR (g13.sa hR (g11.sa hR (g9.sa hR (g7.sa hR (g5.sa hR (g3.sa hR (g1.sa hR sR))))))))), ((g17.rb (g15.rb (g13.rb (g11.rb (g9.rb (g7.rb (g5.rb (g3.rb (g1.rb xRp))))))))).up (by omega)), ((g17.rb (g15.rb (g13.rb (g11.rb (g9.rb (g7.rb (g5.rb (g3.rb (g1.rb xRq))))))))).up (by omega)), ((g17.rb (g15.rb (g13.rb (g11.rb (g9.rb (g7.rb (g5.rb (g3.rb (g1.rb xRr))))))))).up (by omega)), ((g17.rb (g15.rb (g13.rb (g11.rb (g9.rb (g7.rb (g5.rb (g3.rb (g1.rb xRs))))))))).up (by omega))⟩)) ?_
  rintro _ _ ⟨p19, rfl, V19, rfl, g19, xp19⟩
  have G_20 := G_18.trans (g19.gs _)
  refine g_iload_n rfl rfl ?_
  refine g_callVI [aI ((p19 : Int)), aI ((p5 : Int))] [aO (some o)] rfl rfl rfl rfl (Nat.le_of_ble_eq_true rfl) ms.1 (r_mul (by omega) ms V19 (by have := G_20.2.2.1; omega) xp19 (g19.rb (g17.rb (g15.rb (g13.rb (g11.rb (g9.rb (g7.rb xp5))))))) (by omega)) ?_
  rintro _ _ ⟨p21, rfl, V21, rfl, g21, xp21⟩
  have G_22 := G_20.trans (g21.gs _)
  refine g_aload_n rfl rfl ?_
  refine g_iload rfl rfl ?_
  refine g_callVI [aI ((p17 : Int))] [aI ((p21 : Int)), aO (some o)] rfl rfl rfl rfl (Nat.le_of_ble_eq_true rfl) ms.1 (r_square (by omega) ms V21 (by have := G_22.2.2.1; omega) (g21.rb (g19.rb xp17)) (by omega)) ?_
  rintro _ _ ⟨p23, rfl, V23, rfl, g23, xp23⟩
  have G_24 := G_22.trans (g23.gs _)
  refine g_callVI [aI ((p21 : Int)), aI ((p23 : Int))] [] rfl rfl rfl rfl (Nat.le_of_ble_eq_true rfl) ms.1 (r_cmp (by omega) ms V23 (by have := G_24.2.2.1; omega) (g23.rb xp21) xp23 (127) (by omega) (by omega) (by omega)) ?_
  rintro _ _ ⟨rfl, V25, rfl, g25⟩
  have G_26 := G_24.trans (g25.gs _)
  refine g_if_ne rfl (fun cq86 => ?_) (fun cq86 => ?_)
  · skip
    refine g_iconst rfl ?_
    refine g_zret rfl (by omega) ?_
    refine ⟨?_, V25, rfl, (G_26.mono (by omega)).gm⟩
    have l0 := @lcmp_0 ((m_bulge_S R) * (m_norm_S L)) ((m_reach_S L R) * (m_reach_S L R))
    unfold m_norm_S m_reach_S at l0 ⊢
    first
      | rw [if_pos (by omega)]
      | rw [if_neg (by omega)]
  · skip
    refine g_iconst rfl ?_
    refine g_goto rfl ?_
    refine g_zret rfl (by omega) ?_
    refine ⟨?_, V25, rfl, (G_26.mono (by omega)).gm⟩
    have l0 := @lcmp_0 ((m_bulge_S R) * (m_norm_S L)) ((m_reach_S L R) * (m_reach_S L R))
    unfold m_norm_S m_reach_S at l0 ⊢
    first
      | rw [if_pos (by omega)]
      | rw [if_neg (by omega)]
set_option maxRecDepth 100000 in
set_option maxHeartbeats 4000000 in
theorem m_isCross {w : aW} {d : Nat} (hd : 8 ≤ d) {h : aH} {o : Nat} (ms : MS h o) (V : Nat → Nat → Int) {S : aS} (ok : OkT S) (mt : MT V o S) (hF : 0 ≤ V o 1 ∧ V o 1 + 84 ≤ 700) {a b c f : Int} (tP : SB V o (o + 24) (tpR S a) (20)) (tQ : SB V o (o + 25) (tpR S b) (20)) (tR : SB V o (o + 26) (tpR S c) (20)) (tW : SB V o (o + 27) (tpR S f) (20)) (_a : Int) (ha : 0 ≤ a ∧ a < sT S) (_b : Int) (hb : 0 ≤ b ∧ b < sT S) (_c : Int) (hc : 0 ≤ c ∧ c < sT S) (_f : Int) (hf : 0 ≤ f ∧ f < sT S)  : WP w d 329 [aO (some o), aI a, aI b, aI c, aI f] (hw h V) (RI (fun r h1 => (r = if (¬ (sTp S a.toNat 0 = sTp S b.toNat 0 ∧ sTp S a.toNat 1 = sTp S b.toNat 1 ∧ sTp S a.toNat 2 = sTp S b.toNat 2 ∧ sTp S a.toNat 3 = sTp S b.toNat 3) ∧ ¬ (sTp S a.toNat 0 = sTp S c.toNat 0 ∧ sTp S a.toNat 1 = sTp S c.toNat 1 ∧ sTp S a.toNat 2 = sTp S c.toNat 2 ∧ sTp S a.toNat 3 = sTp S c.toNat 3) ∧ ¬ (sTp S a.toNat 0 = sTp S f.toNat 0 ∧ sTp S a.toNat 1 = sTp S f.toNat 1 ∧ sTp S a.toNat 2 = sTp S f.toNat 2 ∧ sTp S a.toNat 3 = sTp S f.toNat 3) ∧ ¬ (sTp S b.toNat 0 = sTp S c.toNat 0 ∧ sTp S b.toNat 1 = sTp S c.toNat 1 ∧ sTp S b.toNat 2 = sTp S c.toNat 2 ∧ sTp S b.toNat 3 = sTp S c.toNat 3) ∧ ¬ (sTp S b.toNat 0 = sTp S f.toNat 0 ∧ sTp S b.toNat 1 = sTp S f.toNat 1 ∧ sTp S b.toNat 2 = sTp S f.toNat 2 ∧ sTp S b.toNat 3 = sTp S f.toNat 3) ∧ ¬ (sTp S c.toNat 0 = sTp S f.toNat 0 ∧ sTp S c.toNat 1 = sTp S f.toNat 1 ∧ sTp S c.toNat 2 = sTp S f.toNat 2 ∧ sTp S c.toNat 3 = sTp S f.toNat 3)) ∧ m_det_S (tpR S a) (tpR S b) (tpR S c) = 0 ∧ m_det_S (tpR S a) (tpR S b) (tpR S f) = 0 ∧ m_crB (m_t3 (tpR S f)) (m_harm_O (tpR S a) (tpR S b) (m_t3 (tpR S c))) = true then 1 else 0) ∧ ∃ V1, h1 = hw h V1 ∧ Gs V V1 o 84 (fun q => q = o + 30 ∨ q = o + 31 ∨ q = o + 26 ∨ q = o + 27 ∨ q = o + 28 ∨ q = o + 29))) := by
  obtain ⟨d, rfl⟩ : ∃ d1, d = d1 + 1 := ⟨d - 1, by omega⟩
  refine WP.enter (cd := cd_X12_isCross) rfl ?_
  have G0 := Gs.refl V o (fun q => q = o + 30 ∨ q = o + 31 ∨ q = o + 26 ∨ q = o + 27 ∨ q = o + 28 ∨ q = o + 29)
  obtain ⟨Pp, Pq, Pr, Ps, sP, xPp, xPq, xPr, xPs⟩ := tP
  obtain ⟨Qp, Qq, Qr, Qs, sQ, xQp, xQq, xQr, xQs⟩ := tQ
  obtain ⟨Rp, Rq, Rr, Rs, sR, xRp, xRq, xRr, xRs⟩ := tR
  obtain ⟨Wp, Wq, Wr, Ws, sW, xWp, xWq, xWr, xWs⟩ := tW
  have hn := ok.1
  have hls : largs 0 [aO (some o), aI a, aI b, aI c, aI f] = [(0, aO (some o)), (1, aI a), (2, aI b), (3, aI c), (4, aI f)] := rfl
  rw [hls]
  clear hls
  refine g_aload_n rfl rfl ?_
  refine g_iload_n rfl rfl ?_
  refine g_iload_n rfl rfl ?_
  refine g_iload_n rfl rfl ?_
  refine g_iload rfl rfl ?_
  refine g_callVI [aI a, aI b, aI c, aI f] [] rfl rfl rfl rfl (Nat.le_of_ble_eq_true rfl) ms.1 (m_areApart (by omega) ms V ok mt a ha b hb c hc f hf) ?_
  rintro r1 _ ⟨rfl, e2⟩
  rw [e2]
  clear e2 r1
  refine g_b_eq rfl (fun cq9 => ?_) (fun cq9 => ?_)
  · skip
    refine g_iconst rfl ?_
    refine g_zret rfl (by omega) ?_
    refine ⟨?_, V, rfl, G0.mono (by omega)⟩
    have l0 := @lcmp_0 (m_det_S (tpR S a) (tpR S b) (tpR S c)) 0
    have l1 := @lcmp_0 (m_det_S (tpR S a) (tpR S b) (tpR S f)) 0
    first
      | (refine (if_neg ?_).symm; intro q; exact cq9 q.1)
      | (refine (if_neg ?_).symm; intro q; exact cq32 (l0.mpr q.2.1))
      | (refine (if_neg ?_).symm; intro q; exact cq55 (l1.mpr q.2.2.1))
  · skip
    refine g_aload_n rfl rfl ?_
    refine g_aload_n rfl rfl ?_
    refine g_aload_n rfl rfl ?_
    refine g_getR rfl ms.1 (mr_one ms) ?_
    refine g_aload_n rfl rfl ?_
    refine g_getR rfl ms.1 (mr_two ms) ?_
    refine g_aload_n rfl rfl ?_
    refine g_getR rfl ms.1 (mr_three ms) ?_
    refine g_callVI [aO (some (o + 24)), aO (some (o + 25)), aO (some (o + 26))] [aO (some o)] rfl rfl rfl rfl (Nat.le_of_ble_eq_true rfl) ms.1 (m_det (by omega) ms V (by have := G0.2.2.1; omega) ((o + 24)) (show SLa o ((o + 24)) by unfold SLa; omega) (show SB V o (o + 24) (tpR S a) (20) from ⟨_, _, _, _, sP, (xPp.up (by omega)), (xPq.up (by omega)), (xPr.up (by omega)), (xPs.up (by omega))⟩) ((o + 25)) (show SLa o ((o + 25)) by unfold SLa; omega) (show SB V o (o + 25) (tpR S b) (20) from ⟨_, _, _, _, sQ, (xQp.up (by omega)), (xQq.up (by omega)), (xQr.up (by omega)), (xQs.up (by omega))⟩) ((o + 26)) (show SLa o ((o + 26)) by unfold SLa; omega) (show SB V o (o + 26) (tpR S c) (20) from ⟨_, _, _, _, sR, (xRp.up (by omega)), (xRq.up (by omega)), (xRr.up (by omega)), (xRs.up (by omega))⟩)) ?_
    rintro _ _ ⟨p3, rfl, V3, rfl, g3, xp3⟩
    have G_4 := G0.trans (g3.gs _)
    refine g_callVI [aI ((p3 : Int))] [] rfl rfl rfl rfl (Nat.le_of_ble_eq_true rfl) ms.1 (r_sign (by omega) ms V3 xp3) ?_
    rintro r5 _ ⟨rfl, e6⟩
    rw [e6]
    clear e6 r5
    refine g_if_ne rfl (fun cq32 => ?_) (fun cq32 => ?_)
    · skip
      refine g_iconst rfl ?_
      refine g_zret rfl (by omega) ?_
      refine ⟨?_, V3, rfl, G_4.mono (by omega)⟩
      have l0 := @lcmp_0 (m_det_S (tpR S a) (tpR S b) (tpR S c)) 0
      have l1 := @lcmp_0 (m_det_S (tpR S a) (tpR S b) (tpR S f)) 0
      first
        | (refine (if_neg ?_).symm; intro q; exact cq9 q.1)
        | (refine (if_neg ?_).symm; intro q; exact cq32 (l0.mpr q.2.1))
        | (refine (if_neg ?_).symm; intro q; exact cq55 (l1.mpr q.2.2.1))
    · skip
      refine g_aload_n rfl rfl ?_
      refine g_aload_n rfl rfl ?_
      refine g_aload_n rfl rfl ?_
      refine g_getR rfl ms.1 (mr_one ms) ?_
      refine g_aload_n rfl rfl ?_
      refine g_getR rfl ms.1 (mr_two ms) ?_
      refine g_aload_n rfl rfl ?_
      refine g_getR rfl ms.1 (mr_four ms) ?_
      refine g_callVI [aO (some (o + 24)), aO (some (o + 25)), aO (some (o + 27))] [aO (some o)] rfl rfl rfl rfl (Nat.le_of_ble_eq_true rfl) ms.1 (m_det (by omega) ms V3 (by have := G_4.2.2.1; omega) ((o + 24)) (show SLa o ((o + 24)) by unfold SLa; omega) (show SB V3 o (o + 24) (tpR S a) (20) from ⟨_, _, _, _, (g3.sa (show SLa o ((o + 24)) by unfold SLa; omega) sP), ((g3.rb xPp).up (by omega)), ((g3.rb xPq).up (by omega)), ((g3.rb xPr).up (by omega)), ((g3.rb xPs).up (by omega))⟩) ((o + 25)) (show SLa o ((o + 25)) by unfold SLa; omega) (show SB V3 o (o + 25) (tpR S b) (20) from ⟨_, _, _, _, (g3.sa (show SLa o ((o + 25)) by unfold SLa; omega) sQ), ((g3.rb xQp).up (by omega)), ((g3.rb xQq).up (by omega)), ((g3.rb xQr).up (by omega)), ((g3.rb xQs).up (by omega))⟩) ((o + 27)) (show SLa o ((o + 27)) by unfold SLa; omega) (show SB V3 o (o + 27) (tpR S f) (20) from ⟨_, _, _, _, (g3.sa (show SLa o ((o + 27)) by unfold SLa; omega) sW), ((g3.rb xWp).up (by omega)), ((g3.rb xWq).up (by omega)), ((g3.rb xWr).up (by omega)), ((g3.rb xWs).up (by omega))⟩)) ?_
      rintro _ _ ⟨p7, rfl, V7, rfl, g7, xp7⟩
      have G_8 := G_4.trans (g7.gs _)
      refine g_callVI [aI ((p7 : Int))] [] rfl rfl rfl rfl (Nat.le_of_ble_eq_true rfl) ms.1 (r_sign (by omega) ms V7 xp7) ?_
      rintro r9 _ ⟨rfl, e10⟩
      rw [e10]
      clear e10 r9
      refine g_if_eq rfl (fun cq55 => ?_) (fun cq55 => ?_)
      · skip
        refine g_iconst rfl ?_
        refine g_istore (l1 := [(5, aI 0), (0, aO (some o)), (1, aI a), (2, aI b), (3, aI c), (4, aI f)]) rfl rfl ?_
        refine g_iload rfl rfl ?_
        refine g_iconst rfl ?_
        refine g_icmp_ge_f rfl (by omega) ?_
        refine g_aload_n rfl rfl ?_
        refine g_getR rfl ms.1 (mr_limits ms) ?_
        refine g_iload rfl rfl ?_
        refine g_aload_n rfl rfl ?_
        refine g_getR rfl ms.1 (mr_three ms) ?_
        refine g_iload rfl rfl ?_
        refine g_iald (i := 0) rfl (mt_three ms) (by omega) (by omega) ?_
        refine g_top (v2 := aI ((Rp : Int))) (congrArg aI (by exact (g7.sa (show SLa o ((o + 26)) by unfold SLa; omega) (g3.sa (show SLa o ((o + 26)) by unfold SLa; omega) sR)).1)) ?_
        refine g_iast (i := 0) rfl (mt_limits ms) (by omega) (by omega) ?_
        obtain ⟨V11, eV11⟩ : ∃ W, W = vset V7 ((o + 30)) 0 (Rp : Int) := ⟨_, rfl⟩
        refine g_hp (h2 := hw h V11) (by rw [eV11]; rfl) ?_
        have g11 : Gs V7 V11 o 0 (fun q => q = o + 30) := by rw [eV11]; exact Gs.cell (show SLa o ((o + 30)) by unfold SLa; omega)
        have c11_0 : V11 ((o + 30)) 0 = (Rp : Int) := by rw [eV11]; exact vset_eq _ _ _ _
        have G_12 := G_8.trans (g11.wide (fun q hq => by have hq : q = o + 30 := hq; show q = o + 30 ∨ q = o + 31 ∨ q = o + 26 ∨ q = o + 27 ∨ q = o + 28 ∨ q = o + 29; omega))
        refine g_aload_n rfl rfl ?_
        refine g_getR rfl ms.1 (mr_sixth ms) ?_
        refine g_iload rfl rfl ?_
        refine g_aload_n rfl rfl ?_
        refine g_getR rfl ms.1 (mr_four ms) ?_
        refine g_iload rfl rfl ?_
        refine g_iald (i := 0) rfl (mt_four ms) (by omega) (by omega) ?_
        refine g_top (v2 := aI ((Wp : Int))) (congrArg aI (by exact (g11.sa (show SLa o ((o + 27)) by unfold SLa; omega) (show ¬(o + 27 = o + 30) by omega) (g7.sa (show SLa o ((o + 27)) by unfold SLa; omega) (g3.sa (show SLa o ((o + 27)) by unfold SLa; omega) sW))).1)) ?_
        refine g_iast (i := 0) rfl (mt_sixth ms) (by omega) (by omega) ?_
        obtain ⟨V13, eV13⟩ : ∃ W, W = vset V11 ((o + 31)) 0 (Wp : Int) := ⟨_, rfl⟩
        refine g_hp (h2 := hw h V13) (by rw [eV13]; rfl) ?_
        have g13 : Gs V11 V13 o 0 (fun q => q = o + 31) := by rw [eV13]; exact Gs.cell (show SLa o ((o + 31)) by unfold SLa; omega)
        have c13_0 : V13 ((o + 31)) 0 = (Wp : Int) := by rw [eV13]; exact vset_eq _ _ _ _
        have G_14 := G_12.trans (g13.wide (fun q hq => by have hq : q = o + 31 := hq; show q = o + 30 ∨ q = o + 31 ∨ q = o + 26 ∨ q = o + 27 ∨ q = o + 28 ∨ q = o + 29; omega))
        refine g_iinc (l1 := [(5, aI 1), (0, aO (some o)), (1, aI a), (2, aI b), (3, aI c), (4, aI f)]) rfl rfl (by omega) (by omega) rfl ?_
        refine g_goto rfl ?_
        refine g_iload rfl rfl ?_
        refine g_iconst rfl ?_
        refine g_icmp_ge_f rfl (by omega) ?_
        refine g_aload_n rfl rfl ?_
        refine g_getR rfl ms.1 (mr_limits ms) ?_
        refine g_iload rfl rfl ?_
        refine g_aload_n rfl rfl ?_
        refine g_getR rfl ms.1 (mr_three ms) ?_
        refine g_iload rfl rfl ?_
        refine g_iald (i := 1) rfl (mt_three ms) (by omega) (by omega) ?_
        refine g_top (v2 := aI ((Rq : Int))) (congrArg aI (by exact (g13.sa (show SLa o ((o + 26)) by unfold SLa; omega) (show ¬(o + 26 = o + 31) by omega) (g11.sa (show SLa o ((o + 26)) by unfold SLa; omega) (show ¬(o + 26 = o + 30) by omega) (g7.sa (show SLa o ((o + 26)) by unfold SLa; omega) (g3.sa (show SLa o ((o + 26)) by unfold SLa; omega) sR)))).2.1)) ?_
        refine g_iast (i := 1) rfl (mt_limits ms) (by omega) (by omega) ?_
        obtain ⟨V15, eV15⟩ : ∃ W, W = vset V13 ((o + 30)) 1 (Rq : Int) := ⟨_, rfl⟩
        refine g_hp (h2 := hw h V15) (by rw [eV15]; rfl) ?_
        have g15 : Gs V13 V15 o 0 (fun q => q = o + 30) := by rw [eV15]; exact Gs.cell (show SLa o ((o + 30)) by unfold SLa; omega)
        have c15_0 : V15 ((o + 30)) 0 = (Rp : Int) := by rw [eV15, vset_ne _ _ _ _ (by omega)]; exact (g13.sc (show SLa o ((o + 30)) by unfold SLa; omega) (show ¬(o + 30 = o + 31) by omega) c11_0)
        have c15_1 : V15 ((o + 30)) 1 = (Rq : Int) := by rw [eV15]; exact vset_eq _ _ _ _
        have G_16 := G_14.trans (g15.wide (fun q hq => by have hq : q = o + 30 := hq; show q = o + 30 ∨ q = o + 31 ∨ q = o + 26 ∨ q = o + 27 ∨ q = o + 28 ∨ q = o + 29; omega))
        refine g_aload_n rfl rfl ?_
        refine g_getR rfl ms.1 (mr_sixth ms) ?_
        refine g_iload rfl rfl ?_
        refine g_aload_n rfl rfl ?_
        refine g_getR rfl ms.1 (mr_four ms) ?_
        refine g_iload rfl rfl ?_
        refine g_iald (i := 1) rfl (mt_four ms) (by omega) (by omega) ?_
        refine g_top (v2 := aI ((Wq : Int))) (congrArg aI (by exact (g15.sa (show SLa o ((o + 27)) by unfold SLa; omega) (show ¬(o + 27 = o + 30) by omega) (g13.sa (show SLa o ((o + 27)) by unfold SLa; omega) (show ¬(o + 27 = o + 31) by omega) (g11.sa (show SLa o ((o + 27)) by unfold SLa; omega) (show ¬(o + 27 = o + 30) by omega) (g7.sa (show SLa o ((o + 27)) by unfold SLa; omega) (g3.sa (show SLa o ((o + 27)) by unfold SLa; omega) sW))))).2.1)) ?_
        refine g_iast (i := 1) rfl (mt_sixth ms) (by omega) (by omega) ?_
        obtain ⟨V17, eV17⟩ : ∃ W, W = vset V15 ((o + 31)) 1 (Wq : Int) := ⟨_, rfl⟩
        refine g_hp (h2 := hw h V17) (by rw [eV17]; rfl) ?_
        have g17 : Gs V15 V17 o 0 (fun q => q = o + 31) := by rw [eV17]; exact Gs.cell (show SLa o ((o + 31)) by unfold SLa; omega)
        have c17_0 : V17 ((o + 31)) 0 = (Wp : Int) := by rw [eV17, vset_ne _ _ _ _ (by omega)]; exact (g15.sc (show SLa o ((o + 31)) by unfold SLa; omega) (show ¬(o + 31 = o + 30) by omega) c13_0)
        have c17_1 : V17 ((o + 31)) 1 = (Wq : Int) := by rw [eV17]; exact vset_eq _ _ _ _
        have G_18 := G_16.trans (g17.wide (fun q hq => by have hq : q = o + 31 := hq; show q = o + 30 ∨ q = o + 31 ∨ q = o + 26 ∨ q = o + 27 ∨ q = o + 28 ∨ q = o + 29; omega))
        refine g_iinc (l1 := [(5, aI 2), (0, aO (some o)), (1, aI a), (2, aI b), (3, aI c), (4, aI f)]) rfl rfl (by omega) (by omega) rfl ?_
        refine g_goto rfl ?_
        refine g_iload rfl rfl ?_
        refine g_iconst rfl ?_
        refine g_icmp_ge_f rfl (by omega) ?_
        refine g_aload_n rfl rfl ?_
        refine g_getR rfl ms.1 (mr_limits ms) ?_
        refine g_iload rfl rfl ?_
        refine g_aload_n rfl rfl ?_
        refine g_getR rfl ms.1 (mr_three ms) ?_
        refine g_iload rfl rfl ?_
        refine g_iald (i := 2) rfl (mt_three ms) (by omega) (by omega) ?_
        refine g_top (v2 := aI ((Rr : Int))) (congrArg aI (by exact (g17.sa (show SLa o ((o + 26)) by unfold SLa; omega) (show ¬(o + 26 = o + 31) by omega) (g15.sa (show SLa o ((o + 26)) by unfold SLa; omega) (show ¬(o + 26 = o + 30) by omega) (g13.sa (show SLa o ((o + 26)) by unfold SLa; omega) (show ¬(o + 26 = o + 31) by omega) (g11.sa (show SLa o ((o + 26)) by unfold SLa; omega) (show ¬(o + 26 = o + 30) by omega) (g7.sa (show SLa o ((o + 26)) by unfold SLa; omega) (g3.sa (show SLa o ((o + 26)) by unfold SLa; omega) sR)))))).2.2.1)) ?_
        refine g_iast (i := 2) rfl (mt_limits ms) (by omega) (by omega) ?_
        obtain ⟨V19, eV19⟩ : ∃ W, W = vset V17 ((o + 30)) 2 (Rr : Int) := ⟨_, rfl⟩
        refine g_hp (h2 := hw h V19) (by rw [eV19]; rfl) ?_
        have g19 : Gs V17 V19 o 0 (fun q => q = o + 30) := by rw [eV19]; exact Gs.cell (show SLa o ((o + 30)) by unfold SLa; omega)
        have c19_0 : V19 ((o + 30)) 0 = (Rp : Int) := by rw [eV19, vset_ne _ _ _ _ (by omega)]; exact (g17.sc (show SLa o ((o + 30)) by unfold SLa; omega) (show ¬(o + 30 = o + 31) by omega) c15_0)
        have c19_1 : V19 ((o + 30)) 1 = (Rq : Int) := by rw [eV19, vset_ne _ _ _ _ (by omega)]; exact (g17.sc (show SLa o ((o + 30)) by unfold SLa; omega) (show ¬(o + 30 = o + 31) by omega) c15_1)
        have c19_2 : V19 ((o + 30)) 2 = (Rr : Int) := by rw [eV19]; exact vset_eq _ _ _ _
        have G_20 := G_18.trans (g19.wide (fun q hq => by have hq : q = o + 30 := hq; show q = o + 30 ∨ q = o + 31 ∨ q = o + 26 ∨ q = o + 27 ∨ q = o + 28 ∨ q = o + 29; omega))
        refine g_aload_n rfl rfl ?_
        refine g_getR rfl ms.1 (mr_sixth ms) ?_
        refine g_iload rfl rfl ?_
        refine g_aload_n rfl rfl ?_
        refine g_getR rfl ms.1 (mr_four ms) ?_
        refine g_iload rfl rfl ?_
        refine g_iald (i := 2) rfl (mt_four ms) (by omega) (by omega) ?_
        refine g_top (v2 := aI ((Wr : Int))) (congrArg aI (by exact (g19.sa (show SLa o ((o + 27)) by unfold SLa; omega) (show ¬(o + 27 = o + 30) by omega) (g17.sa (show SLa o ((o + 27)) by unfold SLa; omega) (show ¬(o + 27 = o + 31) by omega) (g15.sa (show SLa o ((o + 27)) by unfold SLa; omega) (show ¬(o + 27 = o + 30) by omega) (g13.sa (show SLa o ((o + 27)) by unfold SLa; omega) (show ¬(o + 27 = o + 31) by omega) (g11.sa (show SLa o ((o + 27)) by unfold SLa; omega) (show ¬(o + 27 = o + 30) by omega) (g7.sa (show SLa o ((o + 27)) by unfold SLa; omega) (g3.sa (show SLa o ((o + 27)) by unfold SLa; omega) sW))))))).2.2.1)) ?_
        refine g_iast (i := 2) rfl (mt_sixth ms) (by omega) (by omega) ?_
        obtain ⟨V21, eV21⟩ : ∃ W, W = vset V19 ((o + 31)) 2 (Wr : Int) := ⟨_, rfl⟩
        refine g_hp (h2 := hw h V21) (by rw [eV21]; rfl) ?_
        have g21 : Gs V19 V21 o 0 (fun q => q = o + 31) := by rw [eV21]; exact Gs.cell (show SLa o ((o + 31)) by unfold SLa; omega)
        have c21_0 : V21 ((o + 31)) 0 = (Wp : Int) := by rw [eV21, vset_ne _ _ _ _ (by omega)]; exact (g19.sc (show SLa o ((o + 31)) by unfold SLa; omega) (show ¬(o + 31 = o + 30) by omega) c17_0)
        have c21_1 : V21 ((o + 31)) 1 = (Wq : Int) := by rw [eV21, vset_ne _ _ _ _ (by omega)]; exact (g19.sc (show SLa o ((o + 31)) by unfold SLa; omega) (show ¬(o + 31 = o + 30) by omega) c17_1)
        have c21_2 : V21 ((o + 31)) 2 = (Wr : Int) := by rw [eV21]; exact vset_eq _ _ _ _
        have G_22 := G_20.trans (g21.wide (fun q hq => by have hq : q = o + 31 := hq; show q = o + 30 ∨ q = o + 31 ∨ q = o + 26 ∨ q = o + 27 ∨ q = o + 28 ∨ q = o + 29; omega))
        refine g_iinc (l1 := [(5, aI 3), (0, aO (some o)), (1, aI a), (2, aI b), (3, aI c), (4, aI f)]) rfl rfl (by omega) (by omega) rfl ?_
        refine g_goto rfl ?_
        refine g_iload rfl rfl ?_
        refine g_iconst rfl ?_
        refine g_icmp_ge_t rfl (by omega) ?_
        refine g_aload_n rfl rfl ?_
        refine g_getR rfl ms.1 (mr_limits ms) ?_
        refine g_iconst rfl ?_
        refine g_aload_n rfl rfl ?_
        refine g_lconst0 rfl ?_
        refine g_callVI [aJ 0] [aI 3, aO (some (o + 30))] rfl rfl rfl rfl (Nat.le_of_ble_eq_true rfl) ms.1 (r_num (by omega) ms V21 (by have := G_22.2.2.1; omega) 0 (by omega) 0 (by decide)) ?_
        rintro _ _ ⟨p23, rfl, V23, rfl, g23, xp23⟩
        have G_24 := G_22.trans (g23.gs _)
        refine g_iast (i := 3) rfl (mt_limits ms) (by omega) (by omega) ?_
        obtain ⟨V25, eV25⟩ : ∃ W, W = vset V23 ((o + 30)) 3 (p23 : Int) := ⟨_, rfl⟩
        refine g_hp (h2 := hw h V25) (by rw [eV25]; rfl) ?_
        have g25 : Gs V23 V25 o 0 (fun q => q = o + 30) := by rw [eV25]; exact Gs.cell (show SLa o ((o + 30)) by unfold SLa; omega)
        have c25_0 : V25 ((o + 30)) 0 = (Rp : Int) := by rw [eV25, vset_ne _ _ _ _ (by omega)]; exact (g23.sc (show SLa o ((o + 30)) by unfold SLa; omega) (g21.sc (show SLa o ((o + 30)) by unfold SLa; omega) (show ¬(o + 30 = o + 31) by omega) c19_0))
        have c25_1 : V25 ((o + 30)) 1 = (Rq : Int) := by rw [eV25, vset_ne _ _ _ _ (by omega)]; exact (g23.sc (show SLa o ((o + 30)) by unfold SLa; omega) (g21.sc (show SLa o ((o + 30)) by unfold SLa; omega) (show ¬(o + 30 = o + 31) by omega) c19_1))
        have c25_2 : V25 ((o + 30)) 2 = (Rr : Int) := by rw [eV25, vset_ne _ _ _ _ (by omega)]; exact (g23.sc (show SLa o ((o + 30)) by unfold SLa; omega) (g21.sc (show SLa o ((o + 30)) by unfold SLa; omega) (show ¬(o + 30 = o + 31) by omega) c19_2))
        have c25_3 : V25 ((o + 30)) 3 = (p23 : Int) := by rw [eV25]; exact vset_eq _ _ _ _
        have G_26 := G_24.trans (g25.wide (fun q hq => by have hq : q = o + 30 := hq; show q = o + 30 ∨ q = o + 31 ∨ q = o + 26 ∨ q = o + 27 ∨ q = o + 28 ∨ q = o + 29; omega))
        have s25 : SA V25 ((o + 30)) Rp Rq Rr p23 := ⟨c25_0, c25_1, c25_2, c25_3⟩
        refine g_aload_n rfl rfl ?_
        refine g_getR rfl ms.1 (mr_sixth ms) ?_
        refine g_iconst rfl ?_
        refine g_aload_n rfl rfl ?_
        refine g_getR rfl ms.1 (mr_limits ms) ?_
        refine g_iconst rfl ?_
        refine g_iald (i := 3) rfl (mt_limits ms) (by omega) (by omega) ?_
        refine g_top (v2 := aI ((p23 : Int))) (congrArg aI (by exact s25.2.2.2)) ?_
        refine g_iast (i := 3) rfl (mt_sixth ms) (by omega) (by omega) ?_
        obtain ⟨V27, eV27⟩ : ∃ W, W = vset V25 ((o + 31)) 3 (p23 : Int) := ⟨_, rfl⟩
        refine g_hp (h2 := hw h V27) (by rw [eV27]; rfl) ?_
        have g27 : Gs V25 V27 o 0 (fun q => q = o + 31) := by rw [eV27]; exact Gs.cell (show SLa o ((o + 31)) by unfold SLa; omega)
        have c27_0 : V27 ((o + 31)) 0 = (Wp : Int) := by rw [eV27, vset_ne _ _ _ _ (by omega)]; exact (g25.sc (show SLa o ((o + 31)) by unfold SLa; omega) (show ¬(o + 31 = o + 30) by omega) (g23.sc (show SLa o ((o + 31)) by unfold SLa; omega) c21_0))
        have c27_1 : V27 ((o + 31)) 1 = (Wq : Int) := by rw [eV27, vset_ne _ _ _ _ (by omega)]; exact (g25.sc (show SLa o ((o + 31)) by unfold SLa; omega) (show ¬(o + 31 = o + 30) by omega) (g23.sc (show SLa o ((o + 31)) by unfold SLa; omega) c21_1))
        have c27_2 : V27 ((o + 31)) 2 = (Wr : Int) := by rw [eV27, vset_ne _ _ _ _ (by omega)]; exact (g25.sc (show SLa o ((o + 31)) by unfold SLa; omega) (show ¬(o + 31 = o + 30) by omega) (g23.sc (show SLa o ((o + 31)) by unfold SLa; omega) c21_2))
        have c27_3 : V27 ((o + 31)) 3 = (p23 : Int) := by rw [eV27]; exact vset_eq _ _ _ _
        have G_28 := G_26.trans (g27.wide (fun q hq => by have hq : q = o + 31 := hq; show q = o + 30 ∨ q = o + 31 ∨ q = o + 26 ∨ q = o + 27 ∨ q = o + 28 ∨ q = o + 29; omega))
        have s27 : SA V27 ((o + 31)) Wp Wq Wr p23 := ⟨c27_0, c27_1, c27_2, c27_3⟩
        refine g_aload_n rfl rfl ?_
        refine g_aload_n rfl rfl ?_
        refine g_getR rfl ms.1 (mr_one ms) ?_
        refine g_aload_n rfl rfl ?_
        refine g_getR rfl ms.1 (mr_two ms) ?_
        refine g_aload_n rfl rfl ?_
        refine g_getR rfl ms.1 (mr_limits ms) ?_
        refine g_aload_n rfl rfl ?_
        refine g_getR rfl ms.1 (mr_got ms) ?_
        refine g_callVI [aO (some (o + 24)), aO (some (o + 25)), aO (some (o + 30)), aO (some (o + 29))] [] rfl rfl rfl rfl (Nat.le_of_ble_eq_true rfl) ms.1 (m_harm (by omega) ms V27 (by have := G_28.2.2.1; omega) ((o + 24)) (show SLa o ((o + 24)) by unfold SLa; omega) (show SB V27 o (o + 24) (tpR S a) (20) from ⟨_, _, _, _, (g27.sa (show SLa o ((o + 24)) by unfold SLa; omega) (show ¬(o + 24 = o + 31) by omega) (g25.sa (show SLa o ((o + 24)) by unfold SLa; omega) (show ¬(o + 24 = o + 30) by omega) (g23.sa (show SLa o ((o + 24)) by unfold SLa; omega) (g21.sa (show SLa o ((o + 24)) by unfold SLa; omega) (show ¬(o + 24 = o + 31) by omega) (g19.sa (show SLa o ((o + 24)) by unfold SLa; omega) (show ¬(o + 24 = o + 30) by omega) (g17.sa (show SLa o ((o + 24)) by unfold SLa; omega) (show ¬(o + 24 = o + 31) by omega) (g15.sa (show SLa o ((o + 24)) by unfold SLa; omega) (show ¬(o + 24 = o + 30) by omega) (g13.sa (show SLa o ((o + 24)) by unfold SLa; omega) (show ¬(o + 24 = o + 31) by omega) (g11.sa (show SLa o ((o + 24)) by unfold SLa; omega) (show ¬(o + 24 = o + 30) by omega) (g7.sa (show SLa o ((o + 24)) by unfold SLa; omega) (g3.sa (show SLa o ((o + 24)) by unfold SLa; omega) sP))))))))))), ((g27.rb (g25.rb (g23.rb (g21.rb (g19.rb (g17.rb (g15.rb (g13.rb (g11.rb (g7.rb (g3.rb xPp))))))))))).up (by omega)), ((g27.rb (g25.rb (g23.rb (g21.rb (g19.rb (g17.rb (g15.rb (g13.rb (g11.rb (g7.rb (g3.rb xPq))))))))))).up (by omega)), ((g27.rb (g25.rb (g23.rb (g21.rb (g19.rb (g17.rb (g15.rb (g13.rb (g11.rb (g7.rb (g3.rb xPr))))))))))).up (by omega)), ((g27.rb (g25.rb (g23.rb (g21.rb (g19.rb (g17.rb (g15.rb (g13.rb (g11.rb (g7.rb (g3.rb xPs))))))))))).up (by omega))⟩) ((o + 25)) (show SLa o ((o + 25)) by unfold SLa; omega) (show SB V27 o (o + 25) (tpR S b) (20) from ⟨_, _, _, _, (g27.sa (show SLa o ((o + 25)) by unfold SLa; omega) (show ¬(o + 25 = o + 31) by omega) (g25.sa (show SLa o ((o + 25)) by unfold SLa; omega) (show ¬(o + 25 = o + 30) by omega) (g23.sa (show SLa o ((o + 25)) by unfold SLa; omega) (g21.sa (show SLa o ((o + 25)) by unfold SLa; omega) (show ¬(o + 25 = o + 31) by omega) (g19.sa (show SLa o ((o + 25)) by unfold SLa; omega) (show ¬(o + 25 = o + 30) by omega) (g17.sa (show SLa o ((o + 25)) by unfold SLa; omega) (show ¬(o + 25 = o + 31) by omega) (g15.sa (show SLa o ((o + 25)) by unfold SLa; omega) (show ¬(o + 25 = o + 30) by omega) (g13.sa (show SLa o ((o + 25)) by unfold SLa; omega) (show ¬(o + 25 = o + 31) by omega) (g11.sa (show SLa o ((o + 25)) by unfold SLa; omega) (show ¬(o + 25 = o + 30) by omega) (g7.sa (show SLa o ((o + 25)) by unfold SLa; omega) (g3.sa (show SLa o ((o + 25)) by unfold SLa; omega) sQ))))))))))), ((g27.rb (g25.rb (g23.rb (g21.rb (g19.rb (g17.rb (g15.rb (g13.rb (g11.rb (g7.rb (g3.rb xQp))))))))))).up (by omega)), ((g27.rb (g25.rb (g23.rb (g21.rb (g19.rb (g17.rb (g15.rb (g13.rb (g11.rb (g7.rb (g3.rb xQq))))))))))).up (by omega)), ((g27.rb (g25.rb (g23.rb (g21.rb (g19.rb (g17.rb (g15.rb (g13.rb (g11.rb (g7.rb (g3.rb xQr))))))))))).up (by omega)), ((g27.rb (g25.rb (g23.rb (g21.rb (g19.rb (g17.rb (g15.rb (g13.rb (g11.rb (g7.rb (g3.rb xQs))))))))))).up (by omega))⟩) ((o + 30)) (show SLa o ((o + 30)) by unfold SLa; omega) (show SB V27 o (o + 30) (((tpR S c).1, (tpR S c).2.1, (tpR S c).2.2.1, 0)) (20) from ⟨_, _, _, _, (g27.sa (show SLa o ((o + 30)) by unfold SLa; omega) (show ¬(o + 30 = o + 31) by omega) s25), ((g27.rb (g25.rb (g23.rb (g21.rb (g19.rb (g17.rb (g15.rb (g13.rb (g11.rb (g7.rb (g3.rb xRp))))))))))).up (by omega)), ((g27.rb (g25.rb (g23.rb (g21.rb (g19.rb (g17.rb (g15.rb (g13.rb (g11.rb (g7.rb (g3.rb xRq))))))))))).up (by omega)), ((g27.rb (g25.rb (g23.rb (g21.rb (g19.rb (g17.rb (g15.rb (g13.rb (g11.rb (g7.rb (g3.rb xRr))))))))))).up (by omega)), ((g27.rb (g25.rb xp23)).up (by omega))⟩) ((o + 29)) (show SLa o ((o + 29)) by unfold SLa; omega) (by omega) (by omega) (by omega) (by omega) (by omega) (by omega) (by omega) (by omega) (by omega)) ?_
        rintro r29 _ ⟨V29, rfl, g29, q29⟩
        have G_30 := G_28.trans (g29.wide (fun q hq => by have hq : q = o + 26 ∨ q = o + 27 ∨ q = o + 28 ∨ q = o + 29 := hq; show q = o + 30 ∨ q = o + 31 ∨ q = o + 26 ∨ q = o + 27 ∨ q = o + 28 ∨ q = o + 29; omega))
        cases eS29 : m_harm_O (tpR S a) (tpR S b) (((tpR S c).1, (tpR S c).2.1, (tpR S c).2.2.1, 0)) with
        | none =>
          rw [eS29] at q29
          obtain rfl : r29 = 0 := q29
          refine g_if_ne_f rfl (by omega) ?_
          refine g_iconst rfl ?_
          refine g_zret rfl (by omega) ?_
          refine ⟨?_, V29, rfl, G_30.mono (by omega)⟩
          refine (if_neg (fun q => ?_)).symm
          have q4 := q.2.2.2
          have eh : m_harm_O (tpR S a) (tpR S b) (m_t3 (tpR S c)) = none := eS29
          rw [eh] at q4
          cases q4
        | some P29 =>
          rw [eS29] at q29
          obtain ⟨rfl, t29, u29, v29, y29, s29, xt29, xu29, xv29, xy29⟩ := q29
          refine g_if_ne_t rfl (by omega) ?_
          refine g_aload_n rfl rfl ?_
          refine g_aload_n rfl rfl ?_
          refine g_getR rfl ms.1 (mr_got ms) ?_
          refine g_aload_n rfl rfl ?_
          refine g_getR rfl ms.1 (mr_sixth ms) ?_
          refine g_aload_n rfl rfl ?_
          refine g_getR rfl ms.1 (mr_three ms) ?_
          refine g_callVN [aO (some (o + 29)), aO (some (o + 31)), aO (some (o + 26))] [] rfl rfl rfl rfl (Nat.le_of_ble_eq_true rfl) ms.1 (m_cross (by omega) ms V29 (by have := G_30.2.2.1; omega) ((o + 29)) (show SLa o ((o + 29)) by unfold SLa; omega) (show SB V29 o (o + 29) P29 (62) from ⟨_, _, _, _, s29, (xt29.up (by omega)), (xu29.up (by omega)), (xv29.up (by omega)), (xy29.up (by omega))⟩) ((o + 31)) (show SLa o ((o + 31)) by unfold SLa; omega) (show SB V29 o (o + 31) (((tpR S f).1, (tpR S f).2.1, (tpR S f).2.2.1, 0)) (62) from ⟨_, _, _, _, (g29.sa (show SLa o ((o + 31)) by unfold SLa; omega) (show ¬(o + 31 = o + 26 ∨ o + 31 = o + 27 ∨ o + 31 = o + 28 ∨ o + 31 = o + 29) by omega) s27), ((g29.rb (g27.rb (g25.rb (g23.rb (g21.rb (g19.rb (g17.rb (g15.rb (g13.rb (g11.rb (g7.rb (g3.rb xWp)))))))))))).up (by omega)), ((g29.rb (g27.rb (g25.rb (g23.rb (g21.rb (g19.rb (g17.rb (g15.rb (g13.rb (g11.rb (g7.rb (g3.rb xWq)))))))))))).up (by omega)), ((g29.rb (g27.rb (g25.rb (g23.rb (g21.rb (g19.rb (g17.rb (g15.rb (g13.rb (g11.rb (g7.rb (g3.rb xWr)))))))))))).up (by omega)), ((g29.rb (g27.rb (g25.rb xp23))).up (by omega))⟩) ((o + 26)) (show SLa o ((o + 26)) by unfold SLa; omega) (by omega)) ?_
          rintro _ ⟨V31, rfl, g31, t31, u31, v31, y31, s31, xt31, xu31, xv31, xy31⟩
          have G_32 := G_30.trans (g31.wide (fun q hq => by have hq : q = o + 26 := hq; show q = o + 30 ∨ q = o + 31 ∨ q = o + 26 ∨ q = o + 27 ∨ q = o + 28 ∨ q = o + 29; omega))
          refine g_aload_n rfl rfl ?_
          refine g_aload_n rfl rfl ?_
          refine g_getR rfl ms.1 (mr_three ms) ?_
          refine g_callVI [aO (some (o + 26))] [] rfl rfl rfl rfl (Nat.le_of_ble_eq_true rfl) ms.1 (m_isZero (by omega) ms V31 ((o + 26)) (show SLa o ((o + 26)) by unfold SLa; omega) (show SB V31 o (o + 26) (m_cross_S P29 (((tpR S f).1, (tpR S f).2.1, (tpR S f).2.2.1, 0))) (125) from ⟨_, _, _, _, s31, (xt31.up (by omega)), (xu31.up (by omega)), (xv31.up (by omega)), (xy31.up (by omega))⟩)) ?_
          rintro r33 _ ⟨rfl, e34⟩
          rw [e34]
          clear e34 r33
          refine g_zret rfl (by split <;> omega) ?_
          refine ⟨?_, V31, rfl, G_32.mono (by omega)⟩
          have l0 := @lcmp_0 (m_det_S (tpR S a) (tpR S b) (tpR S c)) 0
          have l1 := @lcmp_0 (m_det_S (tpR S a) (tpR S b) (tpR S f)) 0
          have eh := eS29
          have eh2 := eh
          change m_harm_O (tpR S a) (tpR S b) (m_t3 (tpR S c)) = some _ at eh2
          split
          · next z =>
            refine (if_pos ⟨cq9, l0.mp (by omega), l1.mp (by omega), ?_⟩).symm
            rw [eh2]
            exact decide_eq_true z
          · next z =>
            refine (if_neg (fun q => z ?_)).symm
            have q4 := q.2.2.2
            rw [eh2] at q4
            exact of_decide_eq_true q4
      · skip
        refine g_iconst rfl ?_
        refine g_zret rfl (by omega) ?_
        refine ⟨?_, V7, rfl, G_8.mono (by omega)⟩
        have l0 := @lcmp_0 (m_det_S (tpR S a) (tpR S b) (tpR S c)) 0
        have l1 := @lcmp_0 (m_det_S (tpR S a) (tpR S b) (tpR S f)) 0
        first
          | (refine (if_neg ?_).symm; intro q; exact cq9 q.1)
          | (refine (if_neg ?_).symm; intro q; exact cq32 (l0.mpr q.2.1))
          | (refine (if_neg ?_).symm; intro q; exact cq55 (l1.mpr q.2.2.1))
set_option maxRecDepth 100000 in
set_option maxHeartbeats 4000000 in
theorem m_so0 {w : aW} {d : Nat} (hd : 9 ≤ d) {h : aH} {o : Nat} (ms : MS h o) (V : Nat → Nat → Int) {S : aS} (ok : OkT S) (mt : MT V o S) (hF : 0 ≤ V o 1 ∧ V o 1 + 14 ≤ 700) {a b c f : Int} (tP : SB V o (o + 24) (tpR S a) (20)) (tQ : SB V o (o + 25) (tpR S b) (20)) (tR : SB V o (o + 26) (tpR S c) (20)) (tW : SB V o (o + 27) (tpR S f) (20)) (_a : Int) (ha : 0 ≤ a ∧ a < sT S) (_b : Int) (hb : 0 ≤ b ∧ b < sT S) (_c : Int) (hc : 0 ≤ c ∧ c < sT S) (_f : Int) (hf : 0 ≤ f ∧ f < sT S)  : WP w d 325 [aO (some o), aI 0, aI a, aI b, aI c, aI f] (hw h V) (RI (fun r h1 => (r = if m_det_S (tpR S a) (tpR S b) (tpR S c) = 0 then 1 else 0) ∧ ∃ V1, h1 = hw h V1 ∧ Gm V V1 o 14)) := by
  obtain ⟨d, rfl⟩ : ∃ d1, d = d1 + 1 := ⟨d - 1, by omega⟩
  refine WP.enter (cd := cd_X12_isSo) rfl ?_
  have G0 := Gs.refl V o (fun _ => False)
  obtain ⟨Pp, Pq, Pr, Ps, sP, xPp, xPq, xPr, xPs⟩ := tP
  obtain ⟨Qp, Qq, Qr, Qs, sQ, xQp, xQq, xQr, xQs⟩ := tQ
  obtain ⟨Rp, Rq, Rr, Rs, sR, xRp, xRq, xRr, xRs⟩ := tR
  obtain ⟨Wp, Wq, Wr, Ws, sW, xWp, xWq, xWr, xWs⟩ := tW
  have hn := ok.1
  have hls : largs 0 [aO (some o), aI 0, aI a, aI b, aI c, aI f] = [(0, aO (some o)), (1, aI 0), (2, aI a), (3, aI b), (4, aI c), (5, aI f)] := rfl
  rw [hls]
  clear hls
  refine g_iload_n rfl rfl ?_
  refine g_tsw (t := 72) rfl (by rfl) ?_
  refine g_aload_n rfl rfl ?_
  refine g_aload_n rfl rfl ?_
  refine g_aload_n rfl rfl ?_
  refine g_getR rfl ms.1 (mr_one ms) ?_
  refine g_aload_n rfl rfl ?_
  refine g_getR rfl ms.1 (mr_two ms) ?_
  refine g_aload_n rfl rfl ?_
  refine g_getR rfl ms.1 (mr_three ms) ?_
  refine g_callVI [aO (some (o + 24)), aO (some (o + 25)), aO (some (o + 26))] [aO (some o)] rfl rfl rfl rfl (Nat.le_of_ble_eq_true rfl) ms.1 (m_det (by omega) ms V (by have := G0.2.2.1; omega) ((o + 24)) (show SLa o ((o + 24)) by unfold SLa; omega) (show SB V o (o + 24) (tpR S a) (20) from ⟨_, _, _, _, sP, (xPp.up (by omega)), (xPq.up (by omega)), (xPr.up (by omega)), (xPs.up (by omega))⟩) ((o + 25)) (show SLa o ((o + 25)) by unfold SLa; omega) (show SB V o (o + 25) (tpR S b) (20) from ⟨_, _, _, _, sQ, (xQp.up (by omega)), (xQq.up (by omega)), (xQr.up (by omega)), (xQs.up (by omega))⟩) ((o + 26)) (show SLa o ((o + 26)) by unfold SLa; omega) (show SB V o (o + 26) (tpR S c) (20) from ⟨_, _, _, _, sR, (xRp.up (by omega)), (xRq.up (by omega)), (xRr.up (by omega)), (xRs.up (by omega))⟩)) ?_
  rintro _ _ ⟨p1, rfl, V1, rfl, g1, xp1⟩
  have G_2 := G0.trans (g1.gs _)
  refine g_callVI [aI ((p1 : Int))] [] rfl rfl rfl rfl (Nat.le_of_ble_eq_true rfl) ms.1 (r_sign (by omega) ms V1 xp1) ?_
  rintro r3 _ ⟨rfl, e4⟩
  rw [e4]
  clear e4 r3
  refine g_if_ne rfl (fun cq92 => ?_) (fun cq92 => ?_)
  · skip
    refine g_iconst rfl ?_
    refine g_zret rfl (by omega) ?_
    refine ⟨?_, V1, rfl, (G_2.mono (by omega)).gm⟩
    have l0 := @lcmp_0 (m_det_S (tpR S a) (tpR S b) (tpR S c)) 0
    have m0 := @lcmp_lt (m_det_S (tpR S a) (tpR S b) (tpR S c)) 0
    have n0 := @lcmp_gt (0) (m_det_S (tpR S a) (tpR S b) (tpR S c))
    have n0q := @lcmp_gt (m_det_S (tpR S a) (tpR S b) (tpR S c)) 0
    first
      | rw [if_pos (by omega)]
      | rw [if_neg (by omega)]
  · skip
    refine g_iconst rfl ?_
    refine g_goto rfl ?_
    refine g_zret rfl (by omega) ?_
    refine ⟨?_, V1, rfl, (G_2.mono (by omega)).gm⟩
    have l0 := @lcmp_0 (m_det_S (tpR S a) (tpR S b) (tpR S c)) 0
    have m0 := @lcmp_lt (m_det_S (tpR S a) (tpR S b) (tpR S c)) 0
    have n0 := @lcmp_gt (0) (m_det_S (tpR S a) (tpR S b) (tpR S c))
    have n0q := @lcmp_gt (m_det_S (tpR S a) (tpR S b) (tpR S c)) 0
    first
      | rw [if_pos (by omega)]
      | rw [if_neg (by omega)]
set_option maxRecDepth 100000 in
set_option maxHeartbeats 4000000 in
theorem m_so1 {w : aW} {d : Nat} (hd : 9 ≤ d) {h : aH} {o : Nat} (ms : MS h o) (V : Nat → Nat → Int) {S : aS} (ok : OkT S) (mt : MT V o S) (hF : 0 ≤ V o 1 ∧ V o 1 + 14 ≤ 700) {a b c f : Int} (tP : SB V o (o + 24) (tpR S a) (20)) (tQ : SB V o (o + 25) (tpR S b) (20)) (tR : SB V o (o + 26) (tpR S c) (20)) (tW : SB V o (o + 27) (tpR S f) (20)) (_a : Int) (ha : 0 ≤ a ∧ a < sT S) (_b : Int) (hb : 0 ≤ b ∧ b < sT S) (_c : Int) (hc : 0 ≤ c ∧ c < sT S) (_f : Int) (hf : 0 ≤ f ∧ f < sT S)  : WP w d 325 [aO (some o), aI 1, aI a, aI b, aI c, aI f] (hw h V) (RI (fun r h1 => (r = if m_det_S (tpR S a) (tpR S b) (tpR S c) = 0 then 1 else 0) ∧ ∃ V1, h1 = hw h V1 ∧ Gm V V1 o 14)) := by
  obtain ⟨d, rfl⟩ : ∃ d1, d = d1 + 1 := ⟨d - 1, by omega⟩
  refine WP.enter (cd := cd_X12_isSo) rfl ?_
  have G0 := Gs.refl V o (fun _ => False)
  obtain ⟨Pp, Pq, Pr, Ps, sP, xPp, xPq, xPr, xPs⟩ := tP
  obtain ⟨Qp, Qq, Qr, Qs, sQ, xQp, xQq, xQr, xQs⟩ := tQ
  obtain ⟨Rp, Rq, Rr, Rs, sR, xRp, xRq, xRr, xRs⟩ := tR
  obtain ⟨Wp, Wq, Wr, Ws, sW, xWp, xWq, xWr, xWs⟩ := tW
  have hn := ok.1
  have hls : largs 0 [aO (some o), aI 1, aI a, aI b, aI c, aI f] = [(0, aO (some o)), (1, aI 1), (2, aI a), (3, aI b), (4, aI c), (5, aI f)] := rfl
  rw [hls]
  clear hls
  refine g_iload_n rfl rfl ?_
  refine g_tsw (t := 72) rfl (by rfl) ?_
  refine g_aload_n rfl rfl ?_
  refine g_aload_n rfl rfl ?_
  refine g_aload_n rfl rfl ?_
  refine g_getR rfl ms.1 (mr_one ms) ?_
  refine g_aload_n rfl rfl ?_
  refine g_getR rfl ms.1 (mr_two ms) ?_
  refine g_aload_n rfl rfl ?_
  refine g_getR rfl ms.1 (mr_three ms) ?_
  refine g_callVI [aO (some (o + 24)), aO (some (o + 25)), aO (some (o + 26))] [aO (some o)] rfl rfl rfl rfl (Nat.le_of_ble_eq_true rfl) ms.1 (m_det (by omega) ms V (by have := G0.2.2.1; omega) ((o + 24)) (show SLa o ((o + 24)) by unfold SLa; omega) (show SB V o (o + 24) (tpR S a) (20) from ⟨_, _, _, _, sP, (xPp.up (by omega)), (xPq.up (by omega)), (xPr.up (by omega)), (xPs.up (by omega))⟩) ((o + 25)) (show SLa o ((o + 25)) by unfold SLa; omega) (show SB V o (o + 25) (tpR S b) (20) from ⟨_, _, _, _, sQ, (xQp.up (by omega)), (xQq.up (by omega)), (xQr.up (by omega)), (xQs.up (by omega))⟩) ((o + 26)) (show SLa o ((o + 26)) by unfold SLa; omega) (show SB V o (o + 26) (tpR S c) (20) from ⟨_, _, _, _, sR, (xRp.up (by omega)), (xRq.up (by omega)), (xRr.up (by omega)), (xRs.up (by omega))⟩)) ?_
  rintro _ _ ⟨p1, rfl, V1, rfl, g1, xp1⟩
  have G_2 := G0.trans (g1.gs _)
  refine g_callVI [aI ((p1 : Int))] [] rfl rfl rfl rfl (Nat.le_of_ble_eq_true rfl) ms.1 (r_sign (by omega) ms V1 xp1) ?_
  rintro r3 _ ⟨rfl, e4⟩
  rw [e4]
  clear e4 r3
  refine g_if_ne rfl (fun cq92 => ?_) (fun cq92 => ?_)
  · skip
    refine g_iconst rfl ?_
    refine g_zret rfl (by omega) ?_
    refine ⟨?_, V1, rfl, (G_2.mono (by omega)).gm⟩
    have l0 := @lcmp_0 (m_det_S (tpR S a) (tpR S b) (tpR S c)) 0
    have m0 := @lcmp_lt (m_det_S (tpR S a) (tpR S b) (tpR S c)) 0
    have n0 := @lcmp_gt (0) (m_det_S (tpR S a) (tpR S b) (tpR S c))
    have n0q := @lcmp_gt (m_det_S (tpR S a) (tpR S b) (tpR S c)) 0
    first
      | rw [if_pos (by omega)]
      | rw [if_neg (by omega)]
  · skip
    refine g_iconst rfl ?_
    refine g_goto rfl ?_
    refine g_zret rfl (by omega) ?_
    refine ⟨?_, V1, rfl, (G_2.mono (by omega)).gm⟩
    have l0 := @lcmp_0 (m_det_S (tpR S a) (tpR S b) (tpR S c)) 0
    have m0 := @lcmp_lt (m_det_S (tpR S a) (tpR S b) (tpR S c)) 0
    have n0 := @lcmp_gt (0) (m_det_S (tpR S a) (tpR S b) (tpR S c))
    have n0q := @lcmp_gt (m_det_S (tpR S a) (tpR S b) (tpR S c)) 0
    first
      | rw [if_pos (by omega)]
      | rw [if_neg (by omega)]
set_option maxRecDepth 100000 in
set_option maxHeartbeats 4000000 in
theorem m_so2 {w : aW} {d : Nat} (hd : 9 ≤ d) {h : aH} {o : Nat} (ms : MS h o) (V : Nat → Nat → Int) {S : aS} (ok : OkT S) (mt : MT V o S) (hF : 0 ≤ V o 1 ∧ V o 1 + 5 ≤ 700) {a b c f : Int} (tP : SB V o (o + 24) (tpR S a) (20)) (tQ : SB V o (o + 25) (tpR S b) (20)) (tR : SB V o (o + 26) (tpR S c) (20)) (tW : SB V o (o + 27) (tpR S f) (20)) (_a : Int) (ha : 0 ≤ a ∧ a < sT S) (_b : Int) (hb : 0 ≤ b ∧ b < sT S) (_c : Int) (hc : 0 ≤ c ∧ c < sT S) (_f : Int) (hf : 0 ≤ f ∧ f < sT S)  : WP w d 325 [aO (some o), aI 2, aI a, aI b, aI c, aI f] (hw h V) (RI (fun r h1 => (r = if m_dot_S (tpR S a) (tpR S b) = 0 then 1 else 0) ∧ ∃ V1, h1 = hw h V1 ∧ Gm V V1 o 5)) := by
  obtain ⟨d, rfl⟩ : ∃ d1, d = d1 + 1 := ⟨d - 1, by omega⟩
  refine WP.enter (cd := cd_X12_isSo) rfl ?_
  have G0 := Gs.refl V o (fun _ => False)
  obtain ⟨Pp, Pq, Pr, Ps, sP, xPp, xPq, xPr, xPs⟩ := tP
  obtain ⟨Qp, Qq, Qr, Qs, sQ, xQp, xQq, xQr, xQs⟩ := tQ
  obtain ⟨Rp, Rq, Rr, Rs, sR, xRp, xRq, xRr, xRs⟩ := tR
  obtain ⟨Wp, Wq, Wr, Ws, sW, xWp, xWq, xWr, xWs⟩ := tW
  have hn := ok.1
  have hls : largs 0 [aO (some o), aI 2, aI a, aI b, aI c, aI f] = [(0, aO (some o)), (1, aI 2), (2, aI a), (3, aI b), (4, aI c), (5, aI f)] := rfl
  rw [hls]
  clear hls
  refine g_iload_n rfl rfl ?_
  refine g_tsw (t := 101) rfl (by rfl) ?_
  refine g_aload_n rfl rfl ?_
  refine g_aload_n rfl rfl ?_
  refine g_aload_n rfl rfl ?_
  refine g_getR rfl ms.1 (mr_one ms) ?_
  refine g_aload_n rfl rfl ?_
  refine g_getR rfl ms.1 (mr_two ms) ?_
  refine g_callVI [aO (some (o + 24)), aO (some (o + 25))] [aO (some o)] rfl rfl rfl rfl (Nat.le_of_ble_eq_true rfl) ms.1 (m_dot (by omega) ms V (by have := G0.2.2.1; omega) ((o + 24)) (show SLa o ((o + 24)) by unfold SLa; omega) (show SB V o (o + 24) (tpR S a) (20) from ⟨_, _, _, _, sP, (xPp.up (by omega)), (xPq.up (by omega)), (xPr.up (by omega)), (xPs.up (by omega))⟩) ((o + 25)) (show SLa o ((o + 25)) by unfold SLa; omega) (show SB V o (o + 25) (tpR S b) (20) from ⟨_, _, _, _, sQ, (xQp.up (by omega)), (xQq.up (by omega)), (xQr.up (by omega)), (xQs.up (by omega))⟩) (by omega)) ?_
  rintro _ _ ⟨p1, rfl, V1, rfl, g1, xp1⟩
  have G_2 := G0.trans (g1.gs _)
  refine g_callVI [aI ((p1 : Int))] [] rfl rfl rfl rfl (Nat.le_of_ble_eq_true rfl) ms.1 (r_sign (by omega) ms V1 xp1) ?_
  rintro r3 _ ⟨rfl, e4⟩
  rw [e4]
  clear e4 r3
  refine g_if_ne rfl (fun cq117 => ?_) (fun cq117 => ?_)
  · skip
    refine g_iconst rfl ?_
    refine g_zret rfl (by omega) ?_
    refine ⟨?_, V1, rfl, (G_2.mono (by omega)).gm⟩
    have l0 := @lcmp_0 (m_dot_S (tpR S a) (tpR S b)) 0
    have m0 := @lcmp_lt (m_dot_S (tpR S a) (tpR S b)) 0
    have n0 := @lcmp_gt (0) (m_dot_S (tpR S a) (tpR S b))
    have n0q := @lcmp_gt (m_dot_S (tpR S a) (tpR S b)) 0
    first
      | rw [if_pos (by omega)]
      | rw [if_neg (by omega)]
  · skip
    refine g_iconst rfl ?_
    refine g_goto rfl ?_
    refine g_zret rfl (by omega) ?_
    refine ⟨?_, V1, rfl, (G_2.mono (by omega)).gm⟩
    have l0 := @lcmp_0 (m_dot_S (tpR S a) (tpR S b)) 0
    have m0 := @lcmp_lt (m_dot_S (tpR S a) (tpR S b)) 0
    have n0 := @lcmp_gt (0) (m_dot_S (tpR S a) (tpR S b))
    have n0q := @lcmp_gt (m_dot_S (tpR S a) (tpR S b)) 0
    first
      | rw [if_pos (by omega)]
      | rw [if_neg (by omega)]
set_option maxRecDepth 100000 in
set_option maxHeartbeats 4000000 in
theorem m_so3 {w : aW} {d : Nat} (hd : 9 ≤ d) {h : aH} {o : Nat} (ms : MS h o) (V : Nat → Nat → Int) {S : aS} (ok : OkT S) (mt : MT V o S) (hF : 0 ≤ V o 1 ∧ V o 1 + 12 ≤ 700) {a b c f : Int} (tP : SB V o (o + 24) (tpR S a) (20)) (tQ : SB V o (o + 25) (tpR S b) (20)) (tR : SB V o (o + 26) (tpR S c) (20)) (tW : SB V o (o + 27) (tpR S f) (20)) (_a : Int) (ha : 0 ≤ a ∧ a < sT S) (_b : Int) (hb : 0 ≤ b ∧ b < sT S) (_c : Int) (hc : 0 ≤ c ∧ c < sT S) (_f : Int) (hf : 0 ≤ f ∧ f < sT S)  : WP w d 325 [aO (some o), aI 3, aI a, aI b, aI c, aI f] (hw h V) (RI (fun r h1 => (r = if ¬ sTp S a.toNat 2 = 0 ∧ m_within_S (tpR S a) (tpR S b) = 0 then 1 else 0) ∧ ∃ V1, h1 = hw h V1 ∧ Gm V V1 o 12)) := by
  obtain ⟨d, rfl⟩ : ∃ d1, d = d1 + 1 := ⟨d - 1, by omega⟩
  refine WP.enter (cd := cd_X12_isSo) rfl ?_
  have G0 := Gs.refl V o (fun _ => False)
  obtain ⟨Pp, Pq, Pr, Ps, sP, xPp, xPq, xPr, xPs⟩ := tP
  obtain ⟨Qp, Qq, Qr, Qs, sQ, xQp, xQq, xQr, xQs⟩ := tQ
  obtain ⟨Rp, Rq, Rr, Rs, sR, xRp, xRq, xRr, xRs⟩ := tR
  obtain ⟨Wp, Wq, Wr, Ws, sW, xWp, xWq, xWr, xWs⟩ := tW
  have hn := ok.1
  have hls : largs 0 [aO (some o), aI 3, aI a, aI b, aI c, aI f] = [(0, aO (some o)), (1, aI 3), (2, aI a), (3, aI b), (4, aI c), (5, aI f)] := rfl
  rw [hls]
  clear hls
  refine g_iload_n rfl rfl ?_
  refine g_tsw (t := 126) rfl (by rfl) ?_
  refine g_aload_n rfl rfl ?_
  refine g_iload_n rfl rfl ?_
  refine g_callVI [aI a] [] rfl rfl rfl rfl (Nat.le_of_ble_eq_true rfl) ms.1 (m_isFar (by omega) ms V ok mt a ha) ?_
  rintro r1 _ ⟨rfl, e2⟩
  rw [e2]
  clear e2 r1
  refine g_b_ne rfl (fun cq131 => ?_) (fun cq131 => ?_)
  · skip
    refine g_iconst rfl ?_
    refine g_zret rfl (by omega) ?_
    refine ⟨?_, V, rfl, (G0.mono (by omega)).gm⟩
    have l0 := @lcmp_0 (m_within_S (tpR S a) (tpR S b)) 0
    have m0 := @lcmp_lt (m_within_S (tpR S a) (tpR S b)) 0
    have n0 := @lcmp_gt (0) (m_within_S (tpR S a) (tpR S b))
    have n0q := @lcmp_gt (m_within_S (tpR S a) (tpR S b)) 0
    first
      | rw [if_pos (by omega)]
      | rw [if_neg (by omega)]
  · skip
    refine g_aload_n rfl rfl ?_
    refine g_aload_n rfl rfl ?_
    refine g_aload_n rfl rfl ?_
    refine g_getR rfl ms.1 (mr_one ms) ?_
    refine g_aload_n rfl rfl ?_
    refine g_getR rfl ms.1 (mr_two ms) ?_
    refine g_callVI [aO (some (o + 24)), aO (some (o + 25))] [aO (some o)] rfl rfl rfl rfl (Nat.le_of_ble_eq_true rfl) ms.1 (m_within (by omega) ms V (by have := G0.2.2.1; omega) ((o + 24)) (show SLa o ((o + 24)) by unfold SLa; omega) (show SB V o (o + 24) (tpR S a) (20) from ⟨_, _, _, _, sP, (xPp.up (by omega)), (xPq.up (by omega)), (xPr.up (by omega)), (xPs.up (by omega))⟩) ((o + 25)) (show SLa o ((o + 25)) by unfold SLa; omega) (show SB V o (o + 25) (tpR S b) (180) from ⟨_, _, _, _, sQ, (xQp.up (by omega)), (xQq.up (by omega)), (xQr.up (by omega)), (xQs.up (by omega))⟩)) ?_
    rintro _ _ ⟨p3, rfl, V3, rfl, g3, xp3⟩
    have G_4 := G0.trans (g3.gs _)
    refine g_callVI [aI ((p3 : Int))] [] rfl rfl rfl rfl (Nat.le_of_ble_eq_true rfl) ms.1 (r_sign (by omega) ms V3 xp3) ?_
    rintro r5 _ ⟨rfl, e6⟩
    rw [e6]
    clear e6 r5
    refine g_if_ne rfl (fun cq150 => ?_) (fun cq150 => ?_)
    · skip
      refine g_iconst rfl ?_
      refine g_zret rfl (by omega) ?_
      refine ⟨?_, V3, rfl, (G_4.mono (by omega)).gm⟩
      have l0 := @lcmp_0 (m_within_S (tpR S a) (tpR S b)) 0
      have m0 := @lcmp_lt (m_within_S (tpR S a) (tpR S b)) 0
      have n0 := @lcmp_gt (0) (m_within_S (tpR S a) (tpR S b))
      have n0q := @lcmp_gt (m_within_S (tpR S a) (tpR S b)) 0
      first
        | rw [if_pos (by omega)]
        | rw [if_neg (by omega)]
    · skip
      refine g_iconst rfl ?_
      refine g_goto rfl ?_
      refine g_zret rfl (by omega) ?_
      refine ⟨?_, V3, rfl, (G_4.mono (by omega)).gm⟩
      have l0 := @lcmp_0 (m_within_S (tpR S a) (tpR S b)) 0
      have m0 := @lcmp_lt (m_within_S (tpR S a) (tpR S b)) 0
      have n0 := @lcmp_gt (0) (m_within_S (tpR S a) (tpR S b))
      have n0q := @lcmp_gt (m_within_S (tpR S a) (tpR S b)) 0
      first
        | rw [if_pos (by omega)]
        | rw [if_neg (by omega)]
set_option maxRecDepth 100000 in
set_option maxHeartbeats 4000000 in
theorem m_so4 {w : aW} {d : Nat} (hd : 9 ≤ d) {h : aH} {o : Nat} (ms : MS h o) (V : Nat → Nat → Int) {S : aS} (ok : OkT S) (mt : MT V o S) (hF : 0 ≤ V o 1 ∧ V o 1 + 3 ≤ 700) {a b c f : Int} (tP : SB V o (o + 24) (tpR S a) (20)) (tQ : SB V o (o + 25) (tpR S b) (20)) (tR : SB V o (o + 26) (tpR S c) (20)) (tW : SB V o (o + 27) (tpR S f) (20)) (_a : Int) (ha : 0 ≤ a ∧ a < sT S) (_b : Int) (hb : 0 ≤ b ∧ b < sT S) (_c : Int) (hc : 0 ≤ c ∧ c < sT S) (_f : Int) (hf : 0 ≤ f ∧ f < sT S)  : WP w d 325 [aO (some o), aI 4, aI a, aI b, aI c, aI f] (hw h V) (RI (fun r h1 => (r = if ((tpR S a).1 * (tpR S b).2.1) - ((tpR S a).2.1 * (tpR S b).1) = 0 then 1 else 0) ∧ ∃ V1, h1 = hw h V1 ∧ Gm V V1 o 3)) := by
  obtain ⟨d, rfl⟩ : ∃ d1, d = d1 + 1 := ⟨d - 1, by omega⟩
  refine WP.enter (cd := cd_X12_isSo) rfl ?_
  have G0 := Gs.refl V o (fun _ => False)
  obtain ⟨Pp, Pq, Pr, Ps, sP, xPp, xPq, xPr, xPs⟩ := tP
  obtain ⟨Qp, Qq, Qr, Qs, sQ, xQp, xQq, xQr, xQs⟩ := tQ
  obtain ⟨Rp, Rq, Rr, Rs, sR, xRp, xRq, xRr, xRs⟩ := tR
  obtain ⟨Wp, Wq, Wr, Ws, sW, xWp, xWq, xWr, xWs⟩ := tW
  have hn := ok.1
  have hls : largs 0 [aO (some o), aI 4, aI a, aI b, aI c, aI f] = [(0, aO (some o)), (1, aI 4), (2, aI a), (3, aI b), (4, aI c), (5, aI f)] := rfl
  rw [hls]
  clear hls
  refine g_iload_n rfl rfl ?_
  refine g_tsw (t := 159) rfl (by rfl) ?_
  refine g_aload_n rfl rfl ?_
  refine g_aload_n rfl rfl ?_
  refine g_aload_n rfl rfl ?_
  refine g_aload_n rfl rfl ?_
  refine g_getR rfl ms.1 (mr_one ms) ?_
  refine g_iconst rfl ?_
  refine g_iald (i := 0) rfl (mt_one ms) (by omega) (by omega) ?_
  refine g_top (v2 := aI ((Pp : Int))) (congrArg aI (by exact sP.1)) ?_
  refine g_aload_n rfl rfl ?_
  refine g_getR rfl ms.1 (mr_two ms) ?_
  refine g_iconst rfl ?_
  refine g_iald (i := 1) rfl (mt_two ms) (by omega) (by omega) ?_
  refine g_top (v2 := aI ((Qq : Int))) (congrArg aI (by exact sQ.2.1)) ?_
  refine g_callVI [aI ((Pp : Int)), aI ((Qq : Int))] [aO (some o), aO (some o)] rfl rfl rfl rfl (Nat.le_of_ble_eq_true rfl) ms.1 (r_mul (by omega) ms V (by have := G0.2.2.1; omega) xPp xQq (by omega)) ?_
  rintro _ _ ⟨p1, rfl, V1, rfl, g1, xp1⟩
  have G_2 := G0.trans (g1.gs _)
  refine g_aload_n rfl rfl ?_
  refine g_aload_n rfl rfl ?_
  refine g_getR rfl ms.1 (mr_one ms) ?_
  refine g_iconst rfl ?_
  refine g_iald (i := 1) rfl (mt_one ms) (by omega) (by omega) ?_
  refine g_top (v2 := aI ((Pq : Int))) (congrArg aI (by exact (g1.sa (show SLa o ((o + 24)) by unfold SLa; omega) sP).2.1)) ?_
  refine g_aload_n rfl rfl ?_
  refine g_getR rfl ms.1 (mr_two ms) ?_
  refine g_iconst rfl ?_
  refine g_iald (i := 0) rfl (mt_two ms) (by omega) (by omega) ?_
  refine g_top (v2 := aI ((Qp : Int))) (congrArg aI (by exact (g1.sa (show SLa o ((o + 25)) by unfold SLa; omega) sQ).1)) ?_
  refine g_callVI [aI ((Pq : Int)), aI ((Qp : Int))] [aI ((p1 : Int)), aO (some o), aO (some o)] rfl rfl rfl rfl (Nat.le_of_ble_eq_true rfl) ms.1 (r_mul (by omega) ms V1 (by have := G_2.2.2.1; omega) (g1.rb xPq) (g1.rb xQp) (by omega)) ?_
  rintro _ _ ⟨p3, rfl, V3, rfl, g3, xp3⟩
  have G_4 := G_2.trans (g3.gs _)
  refine g_callVI [aI ((p1 : Int)), aI ((p3 : Int))] [aO (some o)] rfl rfl rfl rfl (Nat.le_of_ble_eq_true rfl) ms.1 (r_sub (by omega) ms V3 (by have := G_4.2.2.1; omega) (g3.rb xp1) xp3 (41) (by omega) (by omega) (by omega)) ?_
  rintro _ _ ⟨p5, rfl, V5, rfl, g5, xp5⟩
  have G_6 := G_4.trans (g5.gs _)
  refine g_callVI [aI ((p5 : Int))] [] rfl rfl rfl rfl (Nat.le_of_ble_eq_true rfl) ms.1 (r_sign (by omega) ms V5 xp5) ?_
  rintro r7 _ ⟨rfl, e8⟩
  rw [e8]
  clear e8 r7
  refine g_if_ne rfl (fun cq199 => ?_) (fun cq199 => ?_)
  · skip
    refine g_iconst rfl ?_
    refine g_zret rfl (by omega) ?_
    refine ⟨?_, V5, rfl, (G_6.mono (by omega)).gm⟩
    have l0 := @lcmp_0 (((tpR S a).1 * (tpR S b).2.1) - ((tpR S a).2.1 * (tpR S b).1)) 0
    have m0 := @lcmp_lt (((tpR S a).1 * (tpR S b).2.1) - ((tpR S a).2.1 * (tpR S b).1)) 0
    have n0 := @lcmp_gt (0) (((tpR S a).1 * (tpR S b).2.1) - ((tpR S a).2.1 * (tpR S b).1))
    have n0q := @lcmp_gt (((tpR S a).1 * (tpR S b).2.1) - ((tpR S a).2.1 * (tpR S b).1)) 0
    first
      | rw [if_pos (by omega)]
      | rw [if_neg (by omega)]
  · skip
    refine g_iconst rfl ?_
    refine g_goto rfl ?_
    refine g_zret rfl (by omega) ?_
    refine ⟨?_, V5, rfl, (G_6.mono (by omega)).gm⟩
    have l0 := @lcmp_0 (((tpR S a).1 * (tpR S b).2.1) - ((tpR S a).2.1 * (tpR S b).1)) 0
    have m0 := @lcmp_lt (((tpR S a).1 * (tpR S b).2.1) - ((tpR S a).2.1 * (tpR S b).1)) 0
    have n0 := @lcmp_gt (0) (((tpR S a).1 * (tpR S b).2.1) - ((tpR S a).2.1 * (tpR S b).1))
    have n0q := @lcmp_gt (((tpR S a).1 * (tpR S b).2.1) - ((tpR S a).2.1 * (tpR S b).1)) 0
    first
      | rw [if_pos (by omega)]
      | rw [if_neg (by omega)]
set_option maxRecDepth 100000 in
set_option maxHeartbeats 4000000 in
theorem m_so5 {w : aW} {d : Nat} (hd : 9 ≤ d) {h : aH} {o : Nat} (ms : MS h o) (V : Nat → Nat → Int) {S : aS} (ok : OkT S) (mt : MT V o S) (hF : 0 ≤ V o 1 ∧ V o 1 + 3 ≤ 700) {a b c f : Int} (tP : SB V o (o + 24) (tpR S a) (20)) (tQ : SB V o (o + 25) (tpR S b) (20)) (tR : SB V o (o + 26) (tpR S c) (20)) (tW : SB V o (o + 27) (tpR S f) (20)) (_a : Int) (ha : 0 ≤ a ∧ a < sT S) (_b : Int) (hb : 0 ≤ b ∧ b < sT S) (_c : Int) (hc : 0 ≤ c ∧ c < sT S) (_f : Int) (hf : 0 ≤ f ∧ f < sT S)  : WP w d 325 [aO (some o), aI 5, aI a, aI b, aI c, aI f] (hw h V) (RI (fun r h1 => (r = if ¬ (sTp S a.toNat 0 = 0 ∧ sTp S a.toNat 1 = 0) ∧ ¬ (sTp S b.toNat 0 = 0 ∧ sTp S b.toNat 1 = 0) ∧ ((tpR S a).1 * (tpR S b).1) + ((tpR S a).2.1 * (tpR S b).2.1) = 0 then 1 else 0) ∧ ∃ V1, h1 = hw h V1 ∧ Gm V V1 o 3)) := by
  obtain ⟨d, rfl⟩ : ∃ d1, d = d1 + 1 := ⟨d - 1, by omega⟩
  refine WP.enter (cd := cd_X12_isSo) rfl ?_
  have G0 := Gs.refl V o (fun _ => False)
  obtain ⟨Pp, Pq, Pr, Ps, sP, xPp, xPq, xPr, xPs⟩ := tP
  obtain ⟨Qp, Qq, Qr, Qs, sQ, xQp, xQq, xQr, xQs⟩ := tQ
  obtain ⟨Rp, Rq, Rr, Rs, sR, xRp, xRq, xRr, xRs⟩ := tR
  obtain ⟨Wp, Wq, Wr, Ws, sW, xWp, xWq, xWr, xWs⟩ := tW
  have hn := ok.1
  have hls : largs 0 [aO (some o), aI 5, aI a, aI b, aI c, aI f] = [(0, aO (some o)), (1, aI 5), (2, aI a), (3, aI b), (4, aI c), (5, aI f)] := rfl
  rw [hls]
  clear hls
  refine g_iload_n rfl rfl ?_
  refine g_tsw (t := 208) rfl (by rfl) ?_
  refine g_aload_n rfl rfl ?_
  refine g_iload_n rfl rfl ?_
  refine g_callVI [aI a] [] rfl rfl rfl rfl (Nat.le_of_ble_eq_true rfl) ms.1 (m_isRim (by omega) ms V ok mt a ha) ?_
  rintro r1 _ ⟨rfl, e2⟩
  rw [e2]
  clear e2 r1
  refine g_b_ne rfl (fun cq213 => ?_) (fun cq213 => ?_)
  · skip
    refine g_iconst rfl ?_
    refine g_zret rfl (by omega) ?_
    refine ⟨?_, V, rfl, (G0.mono (by omega)).gm⟩
    have l0 := @lcmp_0 (((tpR S a).1 * (tpR S b).1) + ((tpR S a).2.1 * (tpR S b).2.1)) 0
    have m0 := @lcmp_lt (((tpR S a).1 * (tpR S b).1) + ((tpR S a).2.1 * (tpR S b).2.1)) 0
    have n0 := @lcmp_gt (0) (((tpR S a).1 * (tpR S b).1) + ((tpR S a).2.1 * (tpR S b).2.1))
    have n0q := @lcmp_gt (((tpR S a).1 * (tpR S b).1) + ((tpR S a).2.1 * (tpR S b).2.1)) 0
    first
      | rw [if_pos (by omega)]
      | rw [if_neg (by omega)]
  · skip
    refine g_aload_n rfl rfl ?_
    refine g_iload_n rfl rfl ?_
    refine g_callVI [aI b] [] rfl rfl rfl rfl (Nat.le_of_ble_eq_true rfl) ms.1 (m_isRim (by omega) ms V ok mt b hb) ?_
    rintro r3 _ ⟨rfl, e4⟩
    rw [e4]
    clear e4 r3
    refine g_b_ne rfl (fun cq221 => ?_) (fun cq221 => ?_)
    · skip
      refine g_iconst rfl ?_
      refine g_zret rfl (by omega) ?_
      refine ⟨?_, V, rfl, (G0.mono (by omega)).gm⟩
      have l0 := @lcmp_0 (((tpR S a).1 * (tpR S b).1) + ((tpR S a).2.1 * (tpR S b).2.1)) 0
      have m0 := @lcmp_lt (((tpR S a).1 * (tpR S b).1) + ((tpR S a).2.1 * (tpR S b).2.1)) 0
      have n0 := @lcmp_gt (0) (((tpR S a).1 * (tpR S b).1) + ((tpR S a).2.1 * (tpR S b).2.1))
      have n0q := @lcmp_gt (((tpR S a).1 * (tpR S b).1) + ((tpR S a).2.1 * (tpR S b).2.1)) 0
      first
        | rw [if_pos (by omega)]
        | rw [if_neg (by omega)]
    · skip
      refine g_aload_n rfl rfl ?_
      refine g_aload_n rfl rfl ?_
      refine g_aload_n rfl rfl ?_
      refine g_aload_n rfl rfl ?_
      refine g_getR rfl ms.1 (mr_one ms) ?_
      refine g_iconst rfl ?_
      refine g_iald (i := 0) rfl (mt_one ms) (by omega) (by omega) ?_
      refine g_top (v2 := aI ((Pp : Int))) (congrArg aI (by exact sP.1)) ?_
      refine g_aload_n rfl rfl ?_
      refine g_getR rfl ms.1 (mr_two ms) ?_
      refine g_iconst rfl ?_
      refine g_iald (i := 0) rfl (mt_two ms) (by omega) (by omega) ?_
      refine g_top (v2 := aI ((Qp : Int))) (congrArg aI (by exact sQ.1)) ?_
      refine g_callVI [aI ((Pp : Int)), aI ((Qp : Int))] [aO (some o), aO (some o)] rfl rfl rfl rfl (Nat.le_of_ble_eq_true rfl) ms.1 (r_mul (by omega) ms V (by have := G0.2.2.1; omega) xPp xQp (by omega)) ?_
      rintro _ _ ⟨p5, rfl, V5, rfl, g5, xp5⟩
      have G_6 := G0.trans (g5.gs _)
      refine g_aload_n rfl rfl ?_
      refine g_aload_n rfl rfl ?_
      refine g_getR rfl ms.1 (mr_one ms) ?_
      refine g_iconst rfl ?_
      refine g_iald (i := 1) rfl (mt_one ms) (by omega) (by omega) ?_
      refine g_top (v2 := aI ((Pq : Int))) (congrArg aI (by exact (g5.sa (show SLa o ((o + 24)) by unfold SLa; omega) sP).2.1)) ?_
      refine g_aload_n rfl rfl ?_
      refine g_getR rfl ms.1 (mr_two ms) ?_
      refine g_iconst rfl ?_
      refine g_iald (i := 1) rfl (mt_two ms) (by omega) (by omega) ?_
      refine g_top (v2 := aI ((Qq : Int))) (congrArg aI (by exact (g5.sa (show SLa o ((o + 25)) by unfold SLa; omega) sQ).2.1)) ?_
      refine g_callVI [aI ((Pq : Int)), aI ((Qq : Int))] [aI ((p5 : Int)), aO (some o), aO (some o)] rfl rfl rfl rfl (Nat.le_of_ble_eq_true rfl) ms.1 (r_mul (by omega) ms V5 (by have := G_6.2.2.1; omega) (g5.rb xPq) (g5.rb xQq) (by omega)) ?_
      rintro _ _ ⟨p7, rfl, V7, rfl, g7, xp7⟩
      have G_8 := G_6.trans (g7.gs _)
      refine g_callVI [aI ((p5 : Int)), aI ((p7 : Int))] [aO (some o)] rfl rfl rfl rfl (Nat.le_of_ble_eq_true rfl) ms.1 (r_add (by omega) ms V7 (by have := G_8.2.2.1; omega) (g7.rb xp5) xp7 (41) (by omega) (by omega) (by omega)) ?_
      rintro _ _ ⟨p9, rfl, V9, rfl, g9, xp9⟩
      have G_10 := G_8.trans (g9.gs _)
      refine g_callVI [aI ((p9 : Int))] [] rfl rfl rfl rfl (Nat.le_of_ble_eq_true rfl) ms.1 (r_sign (by omega) ms V9 xp9) ?_
      rintro r11 _ ⟨rfl, e12⟩
      rw [e12]
      clear e12 r11
      refine g_if_ne rfl (fun cq264 => ?_) (fun cq264 => ?_)
      · skip
        refine g_iconst rfl ?_
        refine g_zret rfl (by omega) ?_
        refine ⟨?_, V9, rfl, (G_10.mono (by omega)).gm⟩
        have l0 := @lcmp_0 (((tpR S a).1 * (tpR S b).1) + ((tpR S a).2.1 * (tpR S b).2.1)) 0
        have m0 := @lcmp_lt (((tpR S a).1 * (tpR S b).1) + ((tpR S a).2.1 * (tpR S b).2.1)) 0
        have n0 := @lcmp_gt (0) (((tpR S a).1 * (tpR S b).1) + ((tpR S a).2.1 * (tpR S b).2.1))
        have n0q := @lcmp_gt (((tpR S a).1 * (tpR S b).1) + ((tpR S a).2.1 * (tpR S b).2.1)) 0
        first
          | rw [if_pos (by omega)]
          | rw [if_neg (by omega)]
      · skip
        refine g_iconst rfl ?_
        refine g_goto rfl ?_
        refine g_zret rfl (by omega) ?_
        refine ⟨?_, V9, rfl, (G_10.mono (by omega)).gm⟩
        have l0 := @lcmp_0 (((tpR S a).1 * (tpR S b).1) + ((tpR S a).2.1 * (tpR S b).2.1)) 0
        have m0 := @lcmp_lt (((tpR S a).1 * (tpR S b).1) + ((tpR S a).2.1 * (tpR S b).2.1)) 0
        have n0 := @lcmp_gt (0) (((tpR S a).1 * (tpR S b).1) + ((tpR S a).2.1 * (tpR S b).2.1))
        have n0q := @lcmp_gt (((tpR S a).1 * (tpR S b).1) + ((tpR S a).2.1 * (tpR S b).2.1)) 0
        first
          | rw [if_pos (by omega)]
          | rw [if_neg (by omega)]
set_option maxRecDepth 100000 in
set_option maxHeartbeats 4000000 in
theorem m_so6 {w : aW} {d : Nat} (hd : 9 ≤ d) {h : aH} {o : Nat} (ms : MS h o) (V : Nat → Nat → Int) {S : aS} (ok : OkT S) (mt : MT V o S) (hF : 0 ≤ V o 1 ∧ V o 1 + 25 ≤ 700) {a b c f : Int} (tP : SB V o (o + 24) (tpR S a) (20)) (tQ : SB V o (o + 25) (tpR S b) (20)) (tR : SB V o (o + 26) (tpR S c) (20)) (tW : SB V o (o + 27) (tpR S f) (20)) (_a : Int) (ha : 0 ≤ a ∧ a < sT S) (_b : Int) (hb : 0 ≤ b ∧ b < sT S) (_c : Int) (hc : 0 ≤ c ∧ c < sT S) (_f : Int) (hf : 0 ≤ f ∧ f < sT S)  : WP w d 325 [aO (some o), aI 6, aI a, aI b, aI c, aI f] (hw h V) (RI (fun r h1 => (r = if (¬ sTp S a.toNat 2 = 0 ∧ ¬ sTp S b.toNat 2 = 0 ∧ ¬ sTp S c.toNat 2 = 0 ∧ ¬ sTp S f.toNat 2 = 0) ∧ m_apart_S (tpR S a) (tpR S b) * (((tpR S c).2.2.1 * (tpR S f).2.2.1) * ((tpR S c).2.2.1 * (tpR S f).2.2.1)) = m_apart_S (tpR S c) (tpR S f) * (((tpR S a).2.2.1 * (tpR S b).2.2.1) * ((tpR S a).2.2.1 * (tpR S b).2.2.1)) then 1 else 0) ∧ ∃ V1, h1 = hw h V1 ∧ Gm V V1 o 25)) := by
  obtain ⟨d, rfl⟩ : ∃ d1, d = d1 + 1 := ⟨d - 1, by omega⟩
  refine WP.enter (cd := cd_X12_isSo) rfl ?_
  have G0 := Gs.refl V o (fun _ => False)
  obtain ⟨Pp, Pq, Pr, Ps, sP, xPp, xPq, xPr, xPs⟩ := tP
  obtain ⟨Qp, Qq, Qr, Qs, sQ, xQp, xQq, xQr, xQs⟩ := tQ
  obtain ⟨Rp, Rq, Rr, Rs, sR, xRp, xRq, xRr, xRs⟩ := tR
  obtain ⟨Wp, Wq, Wr, Ws, sW, xWp, xWq, xWr, xWs⟩ := tW
  have hn := ok.1
  have hls : largs 0 [aO (some o), aI 6, aI a, aI b, aI c, aI f] = [(0, aO (some o)), (1, aI 6), (2, aI a), (3, aI b), (4, aI c), (5, aI f)] := rfl
  rw [hls]
  clear hls
  refine g_iload_n rfl rfl ?_
  refine g_tsw (t := 273) rfl (by rfl) ?_
  refine g_aload_n rfl rfl ?_
  refine g_iload_n rfl rfl ?_
  refine g_iload_n rfl rfl ?_
  refine g_iload rfl rfl ?_
  refine g_iload rfl rfl ?_
  refine g_callVI [aI a, aI b, aI c, aI f] [] rfl rfl rfl rfl (Nat.le_of_ble_eq_true rfl) ms.1 (m_areNear (by omega) ms V ok mt a ha b hb c hc f hf) ?_
  rintro r1 _ ⟨rfl, e2⟩
  rw [e2]
  clear e2 r1
  refine g_b_eq rfl (fun cq283 => ?_) (fun cq283 => ?_)
  · skip
    refine g_iconst rfl ?_
    refine g_zret rfl (by omega) ?_
    refine ⟨?_, V, rfl, (G0.mono (by omega)).gm⟩
    have l0 := @lcmp_0 (m_apart_S (tpR S a) (tpR S b) * (((tpR S c).2.2.1 * (tpR S f).2.2.1) * ((tpR S c).2.2.1 * (tpR S f).2.2.1))) (m_apart_S (tpR S c) (tpR S f) * (((tpR S a).2.2.1 * (tpR S b).2.2.1) * ((tpR S a).2.2.1 * (tpR S b).2.2.1)))
    first
      | (refine (if_pos ?_).symm; refine ⟨cq283, l0.mp ?_⟩ <;> omega)
      | (refine (if_neg ?_).symm; intro q; exact cq283 q.1)
      | (refine (if_neg ?_).symm; intro q; exact cq362 (l0.mpr q.2))
  · skip
    refine g_aload_n rfl rfl ?_
    refine g_aload_n rfl rfl ?_
    refine g_aload_n rfl rfl ?_
    refine g_aload_n rfl rfl ?_
    refine g_getR rfl ms.1 (mr_one ms) ?_
    refine g_aload_n rfl rfl ?_
    refine g_getR rfl ms.1 (mr_two ms) ?_
    refine g_callVI [aO (some (o + 24)), aO (some (o + 25))] [aO (some o), aO (some o)] rfl rfl rfl rfl (Nat.le_of_ble_eq_true rfl) ms.1 (m_apart (by omega) ms V (by have := G0.2.2.1; omega) ((o + 24)) (show SLa o ((o + 24)) by unfold SLa; omega) (show SB V o (o + 24) (tpR S a) (20) from ⟨_, _, _, _, sP, (xPp.up (by omega)), (xPq.up (by omega)), (xPr.up (by omega)), (xPs.up (by omega))⟩) ((o + 25)) (show SLa o ((o + 25)) by unfold SLa; omega) (show SB V o (o + 25) (tpR S b) (20) from ⟨_, _, _, _, sQ, (xQp.up (by omega)), (xQq.up (by omega)), (xQr.up (by omega)), (xQs.up (by omega))⟩)) ?_
    rintro _ _ ⟨p3, rfl, V3, rfl, g3, xp3⟩
    have G_4 := G0.trans (g3.gs _)
    refine g_aload_n rfl rfl ?_
    refine g_aload_n rfl rfl ?_
    refine g_aload_n rfl rfl ?_
    refine g_getR rfl ms.1 (mr_three ms) ?_
    refine g_iconst rfl ?_
    refine g_iald (i := 2) rfl (mt_three ms) (by omega) (by omega) ?_
    refine g_top (v2 := aI ((Rr : Int))) (congrArg aI (by exact (g3.sa (show SLa o ((o + 26)) by unfold SLa; omega) sR).2.2.1)) ?_
    refine g_aload_n rfl rfl ?_
    refine g_getR rfl ms.1 (mr_four ms) ?_
    refine g_iconst rfl ?_
    refine g_iald (i := 2) rfl (mt_four ms) (by omega) (by omega) ?_
    refine g_top (v2 := aI ((Wr : Int))) (congrArg aI (by exact (g3.sa (show SLa o ((o + 27)) by unfold SLa; omega) sW).2.2.1)) ?_
    refine g_callVI [aI ((Rr : Int)), aI ((Wr : Int))] [aO (some o), aI ((p3 : Int)), aO (some o), aO (some o)] rfl rfl rfl rfl (Nat.le_of_ble_eq_true rfl) ms.1 (r_mul (by omega) ms V3 (by have := G_4.2.2.1; omega) (g3.rb xRr) (g3.rb xWr) (by omega)) ?_
    rintro _ _ ⟨p5, rfl, V5, rfl, g5, xp5⟩
    have G_6 := G_4.trans (g5.gs _)
    refine g_callVI [aI ((p5 : Int))] [aI ((p3 : Int)), aO (some o), aO (some o)] rfl rfl rfl rfl (Nat.le_of_ble_eq_true rfl) ms.1 (r_square (by omega) ms V5 (by have := G_6.2.2.1; omega) xp5 (by omega)) ?_
    rintro _ _ ⟨p7, rfl, V7, rfl, g7, xp7⟩
    have G_8 := G_6.trans (g7.gs _)
    refine g_callVI [aI ((p3 : Int)), aI ((p7 : Int))] [aO (some o)] rfl rfl rfl rfl (Nat.le_of_ble_eq_true rfl) ms.1 (r_mul (by omega) ms V7 (by have := G_8.2.2.1; omega) (g7.rb (g5.rb xp3)) xp7 (by omega)) ?_
    rintro _ _ ⟨p9, rfl, V9, rfl, g9, xp9⟩
    have G_10 := G_8.trans (g9.gs _)
    refine g_aload_n rfl rfl ?_
    refine g_aload_n rfl rfl ?_
    refine g_aload_n rfl rfl ?_
    refine g_getR rfl ms.1 (mr_three ms) ?_
    refine g_aload_n rfl rfl ?_
    refine g_getR rfl ms.1 (mr_four ms) ?_
    refine g_callVI [aO (some (o + 26)), aO (some (o + 27))] [aO (some o), aI ((p9 : Int)), aO (some o)] rfl rfl rfl rfl (Nat.le_of_ble_eq_true rfl) ms.1 (m_apart (by omega) ms V9 (by have := G_10.2.2.1; omega) ((o + 26)) (show SLa o ((o + 26)) by unfold SLa; omega) (show SB V9 o (o + 26) (tpR S c) (20) from ⟨_, _, _, _, (g9.sa (show SLa o ((o + 26)) by unfold SLa; omega) (g7.sa (show SLa o ((o + 26)) by unfold SLa; omega) (g5.sa (show SLa o ((o + 26)) by unfold SLa; omega) (g3.sa (show SLa o ((o + 26)) by unfold SLa; omega) sR)))), ((g9.rb (g7.rb (g5.rb (g3.rb xRp)))).up (by omega)), ((g9.rb (g7.rb (g5.rb (g3.rb xRq)))).up (by omega)), ((g9.rb (g7.rb (g5.rb (g3.rb xRr)))).up (by omega)), ((g9.rb (g7.rb (g5.rb (g3.rb xRs)))).up (by omega))⟩) ((o + 27)) (show SLa o ((o + 27)) by unfold SLa; omega) (show SB V9 o (o + 27) (tpR S f) (20) from ⟨_, _, _, _, (g9.sa (show SLa o ((o + 27)) by unfold SLa; omega) (g7.sa (show SLa o ((o + 27)) by unfold SLa; omega) (g5.sa (show SLa o ((o + 27)) by unfold SLa; omega) (g3.sa (show SLa o ((o + 27)) by unfold SLa; omega) sW)))), ((g9.rb (g7.rb (g5.rb (g3.rb xWp)))).up (by omega)), ((g9.rb (g7.rb (g5.rb (g3.rb xWq)))).up (by omega)), ((g9.rb (g7.rb (g5.rb (g3.rb xWr)))).up (by omega)), ((g9.rb (g7.rb (g5.rb (g3.rb xWs)))).up (by omega))⟩)) ?_
    rintro _ _ ⟨p11, rfl, V11, rfl, g11, xp11⟩
    have G_12 := G_10.trans (g11.gs _)
    refine g_aload_n rfl rfl ?_
    refine g_aload_n rfl rfl ?_
    refine g_aload_n rfl rfl ?_
    refine g_getR rfl ms.1 (mr_one ms) ?_
    refine g_iconst rfl ?_
    refine g_iald (i := 2) rfl (mt_one ms) (by omega) (by omega) ?_
    refine g_top (v2 := aI ((Pr : Int))) (congrArg aI (by exact (g11.sa (show SLa o ((o + 24)) by unfold SLa; omega) (g9.sa (show SLa o ((o + 24)) by unfold SLa; omega) (g7.sa (show SLa o ((o + 24)) by unfold SLa; omega) (g5.sa (show SLa o ((o + 24)) by unfold SLa; omega) (g3.sa (show SLa o ((o + 24)) by unfold SLa; omega) sP))))).2.2.1)) ?_
    refine g_aload_n rfl rfl ?_
    refine g_getR rfl ms.1 (mr_two ms) ?_
    refine g_iconst rfl ?_
    refine g_iald (i := 2) rfl (mt_two ms) (by omega) (by omega) ?_
    refine g_top (v2 := aI ((Qr : Int))) (congrArg aI (by exact (g11.sa (show SLa o ((o + 25)) by unfold SLa; omega) (g9.sa (show SLa o ((o + 25)) by unfold SLa; omega) (g7.sa (show SLa o ((o + 25)) by unfold SLa; omega) (g5.sa (show SLa o ((o + 25)) by unfold SLa; omega) (g3.sa (show SLa o ((o + 25)) by unfold SLa; omega) sQ))))).2.2.1)) ?_
    refine g_callVI [aI ((Pr : Int)), aI ((Qr : Int))] [aO (some o), aI ((p11 : Int)), aO (some o), aI ((p9 : Int)), aO (some o)] rfl rfl rfl rfl (Nat.le_of_ble_eq_true rfl) ms.1 (r_mul (by omega) ms V11 (by have := G_12.2.2.1; omega) (g11.rb (g9.rb (g7.rb (g5.rb (g3.rb xPr))))) (g11.rb (g9.rb (g7.rb (g5.rb (g3.rb xQr))))) (by omega)) ?_
    rintro _ _ ⟨p13, rfl, V13, rfl, g13, xp13⟩
    have G_14 := G_12.trans (g13.gs _)
    refine g_callVI [aI ((p13 : Int))] [aI ((p11 : Int)), aO (some o), aI ((p9 : Int)), aO (some o)] rfl rfl rfl rfl (Nat.le_of_ble_eq_true rfl) ms.1 (r_square (by omega) ms V13 (by have := G_14.2.2.1; omega) xp13 (by omega)) ?_
    rintro _ _ ⟨p15, rfl, V15, rfl, g15, xp15⟩
    have G_16 := G_14.trans (g15.gs _)
    refine g_callVI [aI ((p11 : Int)), aI ((p15 : Int))] [aI ((p9 : Int)), aO (some o)] rfl rfl rfl rfl (Nat.le_of_ble_eq_true rfl) ms.1 (r_mul (by omega) ms V15 (by have := G_16.2.2.1; omega) (g15.rb (g13.rb xp11)) xp15 (by omega)) ?_
    rintro _ _ ⟨p17, rfl, V17, rfl, g17, xp17⟩
    have G_18 := G_16.trans (g17.gs _)
    refine g_callVI [aI ((p9 : Int)), aI ((p17 : Int))] [] rfl rfl rfl rfl (Nat.le_of_ble_eq_true rfl) ms.1 (r_cmp (by omega) ms V17 (by have := G_18.2.2.1; omega) (g17.rb (g15.rb (g13.rb (g11.rb xp9)))) xp17 (164) (by omega) (by omega) (by omega)) ?_
    rintro _ _ ⟨rfl, V19, rfl, g19⟩
    have G_20 := G_18.trans (g19.gs _)
    refine g_if_ne rfl (fun cq362 => ?_) (fun cq362 => ?_)
    · skip
      refine g_iconst rfl ?_
      refine g_zret rfl (by omega) ?_
      refine ⟨?_, V19, rfl, (G_20.mono (by omega)).gm⟩
      have l0 := @lcmp_0 (m_apart_S (tpR S a) (tpR S b) * (((tpR S c).2.2.1 * (tpR S f).2.2.1) * ((tpR S c).2.2.1 * (tpR S f).2.2.1))) (m_apart_S (tpR S c) (tpR S f) * (((tpR S a).2.2.1 * (tpR S b).2.2.1) * ((tpR S a).2.2.1 * (tpR S b).2.2.1)))
      first
        | (refine (if_pos ?_).symm; refine ⟨cq283, l0.mp ?_⟩ <;> omega)
        | (refine (if_neg ?_).symm; intro q; exact cq283 q.1)
        | (refine (if_neg ?_).symm; intro q; exact cq362 (l0.mpr q.2))
    · skip
      refine g_iconst rfl ?_
      refine g_goto rfl ?_
      refine g_zret rfl (by omega) ?_
      refine ⟨?_, V19, rfl, (G_20.mono (by omega)).gm⟩
      have l0 := @lcmp_0 (m_apart_S (tpR S a) (tpR S b) * (((tpR S c).2.2.1 * (tpR S f).2.2.1) * ((tpR S c).2.2.1 * (tpR S f).2.2.1))) (m_apart_S (tpR S c) (tpR S f) * (((tpR S a).2.2.1 * (tpR S b).2.2.1) * ((tpR S a).2.2.1 * (tpR S b).2.2.1)))
      first
        | (refine (if_pos ?_).symm; refine ⟨cq283, l0.mp ?_⟩ <;> omega)
        | (refine (if_neg ?_).symm; intro q; exact cq283 q.1)
        | (refine (if_neg ?_).symm; intro q; exact cq362 (l0.mpr q.2))
set_option maxRecDepth 100000 in
set_option maxHeartbeats 4000000 in
theorem m_so7 {w : aW} {d : Nat} (hd : 9 ≤ d) {h : aH} {o : Nat} (ms : MS h o) (V : Nat → Nat → Int) {S : aS} (ok : OkT S) (mt : MT V o S) (hF : 0 ≤ V o 1 ∧ V o 1 + 90 ≤ 700) {a b c f : Int} (tP : SB V o (o + 24) (tpR S a) (20)) (tQ : SB V o (o + 25) (tpR S b) (20)) (tR : SB V o (o + 26) (tpR S c) (20)) (tW : SB V o (o + 27) (tpR S f) (20)) (_a : Int) (ha : 0 ≤ a ∧ a < sT S) (_b : Int) (hb : 0 ≤ b ∧ b < sT S) (_c : Int) (hc : 0 ≤ c ∧ c < sT S) (_f : Int) (hf : 0 ≤ f ∧ f < sT S)  : WP w d 325 [aO (some o), aI 7, aI a, aI b, aI c, aI f] (hw h V) (RI (fun r h1 => (r = if (¬ sTp S a.toNat 2 = 0 ∧ ¬ sTp S b.toNat 2 = 0 ∧ ¬ sTp S c.toNat 2 = 0 ∧ ¬ sTp S f.toNat 2 = 0) ∧ (¬ (sTp S a.toNat 0 = sTp S b.toNat 0 ∧ sTp S a.toNat 1 = sTp S b.toNat 1 ∧ sTp S a.toNat 2 = sTp S b.toNat 2 ∧ sTp S a.toNat 3 = sTp S b.toNat 3) ∧ ¬ (sTp S a.toNat 0 = sTp S c.toNat 0 ∧ sTp S a.toNat 1 = sTp S c.toNat 1 ∧ sTp S a.toNat 2 = sTp S c.toNat 2 ∧ sTp S a.toNat 3 = sTp S c.toNat 3) ∧ ¬ (sTp S a.toNat 0 = sTp S f.toNat 0 ∧ sTp S a.toNat 1 = sTp S f.toNat 1 ∧ sTp S a.toNat 2 = sTp S f.toNat 2 ∧ sTp S a.toNat 3 = sTp S f.toNat 3) ∧ ¬ (sTp S b.toNat 0 = sTp S c.toNat 0 ∧ sTp S b.toNat 1 = sTp S c.toNat 1 ∧ sTp S b.toNat 2 = sTp S c.toNat 2 ∧ sTp S b.toNat 3 = sTp S c.toNat 3) ∧ ¬ (sTp S b.toNat 0 = sTp S f.toNat 0 ∧ sTp S b.toNat 1 = sTp S f.toNat 1 ∧ sTp S b.toNat 2 = sTp S f.toNat 2 ∧ sTp S b.toNat 3 = sTp S f.toNat 3) ∧ ¬ (sTp S c.toNat 0 = sTp S f.toNat 0 ∧ sTp S c.toNat 1 = sTp S f.toNat 1 ∧ sTp S c.toNat 2 = sTp S f.toNat 2 ∧ sTp S c.toNat 3 = sTp S f.toNat 3)) ∧ m_onB (tpR S f) (m_thru_O (tpR S a) (tpR S b) (tpR S c)) = true then 1 else 0) ∧ ∃ V1, h1 = hw h V1 ∧ Gs V V1 o 90 (fun q => q = o + 29))) := by
  obtain ⟨d, rfl⟩ : ∃ d1, d = d1 + 1 := ⟨d - 1, by omega⟩
  refine WP.enter (cd := cd_X12_isSo) rfl ?_
  have G0 := Gs.refl V o (fun q => q = o + 29)
  obtain ⟨Pp, Pq, Pr, Ps, sP, xPp, xPq, xPr, xPs⟩ := tP
  obtain ⟨Qp, Qq, Qr, Qs, sQ, xQp, xQq, xQr, xQs⟩ := tQ
  obtain ⟨Rp, Rq, Rr, Rs, sR, xRp, xRq, xRr, xRs⟩ := tR
  obtain ⟨Wp, Wq, Wr, Ws, sW, xWp, xWq, xWr, xWs⟩ := tW
  have hn := ok.1
  have hls : largs 0 [aO (some o), aI 7, aI a, aI b, aI c, aI f] = [(0, aO (some o)), (1, aI 7), (2, aI a), (3, aI b), (4, aI c), (5, aI f)] := rfl
  rw [hls]
  clear hls
  refine g_iload_n rfl rfl ?_
  refine g_tsw (t := 371) rfl (by rfl) ?_
  refine g_aload_n rfl rfl ?_
  refine g_iload_n rfl rfl ?_
  refine g_iload_n rfl rfl ?_
  refine g_iload rfl rfl ?_
  refine g_iload rfl rfl ?_
  refine g_callVI [aI a, aI b, aI c, aI f] [] rfl rfl rfl rfl (Nat.le_of_ble_eq_true rfl) ms.1 (m_areNear (by omega) ms V ok mt a ha b hb c hc f hf) ?_
  rintro r1 _ ⟨rfl, e2⟩
  rw [e2]
  clear e2 r1
  refine g_b_eq rfl (fun cq381 => ?_) (fun cq381 => ?_)
  · skip
    refine g_iconst rfl ?_
    refine g_zret rfl (by omega) ?_
    refine ⟨?_, V, rfl, G0.mono (by omega)⟩
    first
      | (refine (if_neg ?_).symm; intro q; exact cq283 q.1)
      | (refine (if_neg ?_).symm; intro q; exact cq381 q.1)
      | (refine (if_neg ?_).symm; intro q; exact cq394 q.2.1)
      | (refine (if_neg (fun q => ?_)).symm
         have q4 := q.2.2
         have eh := rfl
         change m_thru_O (tpR S a) (tpR S b) (tpR S c) = none at eh
         try rw [eh] at q4
         cases q4)
      | (have eh := rfl
         change m_thru_O (tpR S a) (tpR S b) (tpR S c) = some _ at eh
         refine (if_pos ⟨cq381, cq394, ?_⟩).symm
         try rw [eh]
         exact decide_eq_true (lcmp_0.mp (by omega)))
      | (have eh := rfl
         change m_thru_O (tpR S a) (tpR S b) (tpR S c) = some _ at eh
         refine (if_neg (fun q => cq436 ?_)).symm
         have q4 := q.2.2
         try rw [eh] at q4
         exact lcmp_0.mpr (of_decide_eq_true q4))
  · skip
    refine g_aload_n rfl rfl ?_
    refine g_iload_n rfl rfl ?_
    refine g_iload_n rfl rfl ?_
    refine g_iload rfl rfl ?_
    refine g_iload rfl rfl ?_
    refine g_callVI [aI a, aI b, aI c, aI f] [] rfl rfl rfl rfl (Nat.le_of_ble_eq_true rfl) ms.1 (m_areApart (by omega) ms V ok mt a ha b hb c hc f hf) ?_
    rintro r3 _ ⟨rfl, e4⟩
    rw [e4]
    clear e4 r3
    refine g_b_eq rfl (fun cq394 => ?_) (fun cq394 => ?_)
    · skip
      refine g_iconst rfl ?_
      refine g_zret rfl (by omega) ?_
      refine ⟨?_, V, rfl, G0.mono (by omega)⟩
      first
        | (refine (if_neg ?_).symm; intro q; exact cq283 q.1)
        | (refine (if_neg ?_).symm; intro q; exact cq381 q.1)
        | (refine (if_neg ?_).symm; intro q; exact cq394 q.2.1)
        | (refine (if_neg (fun q => ?_)).symm
           have q4 := q.2.2
           have eh := rfl
           change m_thru_O (tpR S a) (tpR S b) (tpR S c) = none at eh
           try rw [eh] at q4
           cases q4)
        | (have eh := rfl
           change m_thru_O (tpR S a) (tpR S b) (tpR S c) = some _ at eh
           refine (if_pos ⟨cq381, cq394, ?_⟩).symm
           try rw [eh]
           exact decide_eq_true (lcmp_0.mp (by omega)))
        | (have eh := rfl
           change m_thru_O (tpR S a) (tpR S b) (tpR S c) = some _ at eh
           refine (if_neg (fun q => cq436 ?_)).symm
           have q4 := q.2.2
           try rw [eh] at q4
           exact lcmp_0.mpr (of_decide_eq_true q4))
    · skip
      refine g_aload_n rfl rfl ?_
      refine g_aload_n rfl rfl ?_
      refine g_getR rfl ms.1 (mr_one ms) ?_
      refine g_aload_n rfl rfl ?_
      refine g_getR rfl ms.1 (mr_two ms) ?_
      refine g_aload_n rfl rfl ?_
      refine g_getR rfl ms.1 (mr_three ms) ?_
      refine g_aload_n rfl rfl ?_
      refine g_getR rfl ms.1 (mr_got ms) ?_
      refine g_callVI [aO (some (o + 24)), aO (some (o + 25)), aO (some (o + 26)), aO (some (o + 29))] [] rfl rfl rfl rfl (Nat.le_of_ble_eq_true rfl) ms.1 (m_thru (by omega) ms V (by have := G0.2.2.1; omega) ((o + 24)) (show SLa o ((o + 24)) by unfold SLa; omega) (show SB V o (o + 24) (tpR S a) (20) from ⟨_, _, _, _, sP, (xPp.up (by omega)), (xPq.up (by omega)), (xPr.up (by omega)), (xPs.up (by omega))⟩) ((o + 25)) (show SLa o ((o + 25)) by unfold SLa; omega) (show SB V o (o + 25) (tpR S b) (20) from ⟨_, _, _, _, sQ, (xQp.up (by omega)), (xQq.up (by omega)), (xQr.up (by omega)), (xQs.up (by omega))⟩) ((o + 26)) (show SLa o ((o + 26)) by unfold SLa; omega) (show SB V o (o + 26) (tpR S c) (20) from ⟨_, _, _, _, sR, (xRp.up (by omega)), (xRq.up (by omega)), (xRr.up (by omega)), (xRs.up (by omega))⟩) ((o + 29)) (show SLa o ((o + 29)) by unfold SLa; omega) (by omega)) ?_
      rintro r5 _ ⟨V5, rfl, g5, q5⟩
      have G_6 := G0.trans (g5.wide (fun q hq => by have hq : q = o + 29 := hq; show q = o + 29; omega))
      cases eS5 : m_thru_O (tpR S a) (tpR S b) (tpR S c) with
      | none =>
        rw [eS5] at q5
        obtain rfl : r5 = 0 := q5
        refine g_if_eq_t rfl (by omega) ?_
        refine g_iconst rfl ?_
        refine g_zret rfl (by omega) ?_
        refine ⟨?_, V5, rfl, G_6.mono (by omega)⟩
        first
          | (refine (if_neg ?_).symm; intro q; exact cq283 q.1)
          | (refine (if_neg ?_).symm; intro q; exact cq381 q.1)
          | (refine (if_neg ?_).symm; intro q; exact cq394 q.2.1)
          | (refine (if_neg (fun q => ?_)).symm
             have q4 := q.2.2
             have eh := eS5
             change m_thru_O (tpR S a) (tpR S b) (tpR S c) = none at eh
             try rw [eh] at q4
             cases q4)
          | (have eh := eS5
             change m_thru_O (tpR S a) (tpR S b) (tpR S c) = some _ at eh
             refine (if_pos ⟨cq381, cq394, ?_⟩).symm
             try rw [eh]
             exact decide_eq_true (lcmp_0.mp (by omega)))
          | (have eh := eS5
             change m_thru_O (tpR S a) (tpR S b) (tpR S c) = some _ at eh
             refine (if_neg (fun q => cq436 ?_)).symm
             have q4 := q.2.2
             try rw [eh] at q4
             exact lcmp_0.mpr (of_decide_eq_true q4))
      | some P5 =>
        rw [eS5] at q5
        obtain ⟨rfl, t5, u5, v5, y5, s5, xt5, xu5, xv5, xy5⟩ := q5
        refine g_if_eq_f rfl (by omega) ?_
        refine g_aload_n rfl rfl ?_
        refine g_aload_n rfl rfl ?_
        refine g_aload_n rfl rfl ?_
        refine g_getR rfl ms.1 (mr_four ms) ?_
        refine g_aload_n rfl rfl ?_
        refine g_getR rfl ms.1 (mr_got ms) ?_
        refine g_callVI [aO (some (o + 27)), aO (some (o + 29))] [aO (some o)] rfl rfl rfl rfl (Nat.le_of_ble_eq_true rfl) ms.1 (m_within (by omega) ms V5 (by have := G_6.2.2.1; omega) ((o + 27)) (show SLa o ((o + 27)) by unfold SLa; omega) (show SB V5 o (o + 27) (tpR S f) (20) from ⟨_, _, _, _, (g5.sa (show SLa o ((o + 27)) by unfold SLa; omega) (show ¬(o + 27 = o + 29) by omega) sW), ((g5.rb xWp).up (by omega)), ((g5.rb xWq).up (by omega)), ((g5.rb xWr).up (by omega)), ((g5.rb xWs).up (by omega))⟩) ((o + 29)) (show SLa o ((o + 29)) by unfold SLa; omega) (show SB V5 o (o + 29) P5 (180) from ⟨_, _, _, _, s5, (xt5.up (by omega)), (xu5.up (by omega)), (xv5.up (by omega)), (xy5.up (by omega))⟩)) ?_
        rintro _ _ ⟨p7, rfl, V7, rfl, g7, xp7⟩
        have G_8 := G_6.trans (g7.gs _)
        refine g_callVI [aI ((p7 : Int))] [] rfl rfl rfl rfl (Nat.le_of_ble_eq_true rfl) ms.1 (r_sign (by omega) ms V7 xp7) ?_
        rintro r9 _ ⟨rfl, e10⟩
        rw [e10]
        clear e10 r9
        refine g_if_ne rfl (fun cq436 => ?_) (fun cq436 => ?_)
        · skip
          refine g_iconst rfl ?_
          refine g_zret rfl (by omega) ?_
          refine ⟨?_, V7, rfl, G_8.mono (by omega)⟩
          first
            | (refine (if_neg ?_).symm; intro q; exact cq283 q.1)
            | (refine (if_neg ?_).symm; intro q; exact cq381 q.1)
            | (refine (if_neg ?_).symm; intro q; exact cq394 q.2.1)
            | (refine (if_neg (fun q => ?_)).symm
               have q4 := q.2.2
               have eh := eS5
               change m_thru_O (tpR S a) (tpR S b) (tpR S c) = none at eh
               try rw [eh] at q4
               cases q4)
            | (have eh := eS5
               change m_thru_O (tpR S a) (tpR S b) (tpR S c) = some _ at eh
               refine (if_pos ⟨cq381, cq394, ?_⟩).symm
               try rw [eh]
               exact decide_eq_true (lcmp_0.mp (by omega)))
            | (have eh := eS5
               change m_thru_O (tpR S a) (tpR S b) (tpR S c) = some _ at eh
               refine (if_neg (fun q => cq436 ?_)).symm
               have q4 := q.2.2
               try rw [eh] at q4
               exact lcmp_0.mpr (of_decide_eq_true q4))
        · skip
          refine g_iconst rfl ?_
          refine g_goto rfl ?_
          refine g_zret rfl (by omega) ?_
          refine ⟨?_, V7, rfl, G_8.mono (by omega)⟩
          first
            | (refine (if_neg ?_).symm; intro q; exact cq283 q.1)
            | (refine (if_neg ?_).symm; intro q; exact cq381 q.1)
            | (refine (if_neg ?_).symm; intro q; exact cq394 q.2.1)
            | (refine (if_neg (fun q => ?_)).symm
               have q4 := q.2.2
               have eh := eS5
               change m_thru_O (tpR S a) (tpR S b) (tpR S c) = none at eh
               try rw [eh] at q4
               cases q4)
            | (have eh := eS5
               change m_thru_O (tpR S a) (tpR S b) (tpR S c) = some _ at eh
               refine (if_pos ⟨cq381, cq394, ?_⟩).symm
               try rw [eh]
               exact decide_eq_true (lcmp_0.mp (by omega)))
            | (have eh := eS5
               change m_thru_O (tpR S a) (tpR S b) (tpR S c) = some _ at eh
               refine (if_neg (fun q => cq436 ?_)).symm
               have q4 := q.2.2
               try rw [eh] at q4
               exact lcmp_0.mpr (of_decide_eq_true q4))
set_option maxRecDepth 100000 in
set_option maxHeartbeats 4000000 in
theorem m_so8 {w : aW} {d : Nat} (hd : 9 ≤ d) {h : aH} {o : Nat} (ms : MS h o) (V : Nat → Nat → Int) {S : aS} (ok : OkT S) (mt : MT V o S) (hF : 0 ≤ V o 1 ∧ V o 1 + 20 ≤ 700) {a b c f : Int} (tP : SB V o (o + 24) (tpR S a) (20)) (tQ : SB V o (o + 25) (tpR S b) (20)) (tR : SB V o (o + 26) (tpR S c) (20)) (tW : SB V o (o + 27) (tpR S f) (20)) (_a : Int) (ha : 0 ≤ a ∧ a < sT S) (_b : Int) (hb : 0 ≤ b ∧ b < sT S) (_c : Int) (hc : 0 ≤ c ∧ c < sT S) (_f : Int) (hf : 0 ≤ f ∧ f < sT S)  : WP w d 325 [aO (some o), aI 8, aI a, aI b, aI c, aI f] (hw h V) (RI (fun r h1 => (r = if ¬ (sTp S a.toNat 0 = 0 ∧ sTp S a.toNat 1 = 0) ∧ (m_bulge_S (tpR S b)) * (m_norm_S ((tpR S a))) = (m_reach_S ((tpR S a)) (tpR S b)) * (m_reach_S ((tpR S a)) (tpR S b)) then 1 else 0) ∧ ∃ V1, h1 = hw h V1 ∧ Gm V V1 o 20)) := by
  obtain ⟨d, rfl⟩ : ∃ d1, d = d1 + 1 := ⟨d - 1, by omega⟩
  refine WP.enter (cd := cd_X12_isSo) rfl ?_
  have G0 := Gs.refl V o (fun _ => False)
  obtain ⟨Pp, Pq, Pr, Ps, sP, xPp, xPq, xPr, xPs⟩ := tP
  obtain ⟨Qp, Qq, Qr, Qs, sQ, xQp, xQq, xQr, xQs⟩ := tQ
  obtain ⟨Rp, Rq, Rr, Rs, sR, xRp, xRq, xRr, xRs⟩ := tR
  obtain ⟨Wp, Wq, Wr, Ws, sW, xWp, xWq, xWr, xWs⟩ := tW
  have hn := ok.1
  have hls : largs 0 [aO (some o), aI 8, aI a, aI b, aI c, aI f] = [(0, aO (some o)), (1, aI 8), (2, aI a), (3, aI b), (4, aI c), (5, aI f)] := rfl
  rw [hls]
  clear hls
  refine g_iload_n rfl rfl ?_
  refine g_tsw (t := 445) rfl (by rfl) ?_
  refine g_aload_n rfl rfl ?_
  refine g_iload_n rfl rfl ?_
  refine g_callVI [aI a] [] rfl rfl rfl rfl (Nat.le_of_ble_eq_true rfl) ms.1 (m_isRim (by omega) ms V ok mt a ha) ?_
  rintro r1 _ ⟨rfl, e2⟩
  rw [e2]
  clear e2 r1
  refine g_b_ne rfl (fun cq450 => ?_) (fun cq450 => ?_)
  · skip
    refine g_iconst rfl ?_
    refine g_zret rfl (by omega) ?_
    refine ⟨?_, V, rfl, (G0.mono (by omega)).gm⟩
    first
      | (refine (if_pos ?_).symm; exact ⟨cq450, cq465⟩)
      | (refine (if_neg ?_).symm; intro q; exact cq465 q.2)
      | (refine (if_neg ?_).symm; intro q; exact q.1 cq450)
      | (refine (if_neg ?_).symm; intro q; exact cq450 q.1)
  · skip
    refine g_aload_n rfl rfl ?_
    refine g_aload_n rfl rfl ?_
    refine g_getR rfl ms.1 (mr_one ms) ?_
    refine g_aload_n rfl rfl ?_
    refine g_getR rfl ms.1 (mr_two ms) ?_
    refine g_callVI [aO (some (o + 24)), aO (some (o + 25))] [] rfl rfl rfl rfl (Nat.le_of_ble_eq_true rfl) ms.1 (m_touches (by omega) ms V (by have := G0.2.2.1; omega) ((o + 24)) (show SLa o ((o + 24)) by unfold SLa; omega) (show SB V o (o + 24) (tpR S a) (41) from ⟨_, _, _, _, sP, (xPp.up (by omega)), (xPq.up (by omega)), (xPr.up (by omega)), (xPs.up (by omega))⟩) ((o + 25)) (show SLa o ((o + 25)) by unfold SLa; omega) (show SB V o (o + 25) (tpR S b) (20) from ⟨_, _, _, _, sQ, (xQp.up (by omega)), (xQq.up (by omega)), (xQr.up (by omega)), (xQs.up (by omega))⟩)) ?_
    rintro _ _ ⟨rfl, V3, rfl, g3⟩
    have G_4 := G0.trans (g3.gs _)
    refine g_b_eq rfl (fun cq465 => ?_) (fun cq465 => ?_)
    · skip
      refine g_iconst rfl ?_
      refine g_zret rfl (by omega) ?_
      refine ⟨?_, V3, rfl, (G_4.mono (by omega)).gm⟩
      first
        | (refine (if_pos ?_).symm; exact ⟨cq450, cq465⟩)
        | (refine (if_neg ?_).symm; intro q; exact cq465 q.2)
        | (refine (if_neg ?_).symm; intro q; exact q.1 cq450)
        | (refine (if_neg ?_).symm; intro q; exact cq450 q.1)
    · skip
      refine g_iconst rfl ?_
      refine g_goto rfl ?_
      refine g_zret rfl (by omega) ?_
      refine ⟨?_, V3, rfl, (G_4.mono (by omega)).gm⟩
      first
        | (refine (if_pos ?_).symm; exact ⟨cq450, cq465⟩)
        | (refine (if_neg ?_).symm; intro q; exact cq465 q.2)
        | (refine (if_neg ?_).symm; intro q; exact q.1 cq450)
        | (refine (if_neg ?_).symm; intro q; exact cq450 q.1)
set_option maxRecDepth 100000 in
set_option maxHeartbeats 4000000 in
theorem m_so9 {w : aW} {d : Nat} (hd : 9 ≤ d) {h : aH} {o : Nat} (ms : MS h o) (V : Nat → Nat → Int) {S : aS} (ok : OkT S) (mt : MT V o S) (hF : 0 ≤ V o 1 ∧ V o 1 + 30 ≤ 700) {a b c f : Int} (tP : SB V o (o + 24) (tpR S a) (20)) (tQ : SB V o (o + 25) (tpR S b) (20)) (tR : SB V o (o + 26) (tpR S c) (20)) (tW : SB V o (o + 27) (tpR S f) (20)) (_a : Int) (ha : 0 ≤ a ∧ a < sT S) (_b : Int) (hb : 0 ≤ b ∧ b < sT S) (_c : Int) (hc : 0 ≤ c ∧ c < sT S) (_f : Int) (hf : 0 ≤ f ∧ f < sT S)  : WP w d 325 [aO (some o), aI 9, aI a, aI b, aI c, aI f] (hw h V) (RI (fun r h1 => (r = if (¬ (m_powers_S (tpR S a) (tpR S b)).1 = 0 ∨ ¬ (m_powers_S (tpR S a) (tpR S b)).2.1 = 0) ∧ (m_bulge_S (tpR S a)) * (m_norm_S (m_powers_S (tpR S a) (tpR S b))) = (m_reach_S (m_powers_S (tpR S a) (tpR S b)) (tpR S a)) * (m_reach_S (m_powers_S (tpR S a) (tpR S b)) (tpR S a)) then 1 else 0) ∧ ∃ V1, h1 = hw h V1 ∧ Gs V V1 o 30 (fun q => q = o + 26))) := by
  obtain ⟨d, rfl⟩ : ∃ d1, d = d1 + 1 := ⟨d - 1, by omega⟩
  refine WP.enter (cd := cd_X12_isSo) rfl ?_
  have G0 := Gs.refl V o (fun q => q = o + 26)
  obtain ⟨Pp, Pq, Pr, Ps, sP, xPp, xPq, xPr, xPs⟩ := tP
  obtain ⟨Qp, Qq, Qr, Qs, sQ, xQp, xQq, xQr, xQs⟩ := tQ
  obtain ⟨Rp, Rq, Rr, Rs, sR, xRp, xRq, xRr, xRs⟩ := tR
  obtain ⟨Wp, Wq, Wr, Ws, sW, xWp, xWq, xWr, xWs⟩ := tW
  have hn := ok.1
  have hls : largs 0 [aO (some o), aI 9, aI a, aI b, aI c, aI f] = [(0, aO (some o)), (1, aI 9), (2, aI a), (3, aI b), (4, aI c), (5, aI f)] := rfl
  rw [hls]
  clear hls
  refine g_iload_n rfl rfl ?_
  refine g_tsw (t := 474) rfl (by rfl) ?_
  refine g_aload_n rfl rfl ?_
  refine g_aload_n rfl rfl ?_
  refine g_getR rfl ms.1 (mr_one ms) ?_
  refine g_aload_n rfl rfl ?_
  refine g_getR rfl ms.1 (mr_two ms) ?_
  refine g_aload_n rfl rfl ?_
  refine g_getR rfl ms.1 (mr_three ms) ?_
  refine g_callVN [aO (some (o + 24)), aO (some (o + 25)), aO (some (o + 26))] [] rfl rfl rfl rfl (Nat.le_of_ble_eq_true rfl) ms.1 (m_powers (by omega) ms V (by have := G0.2.2.1; omega) ((o + 24)) (show SLa o ((o + 24)) by unfold SLa; omega) (show SB V o (o + 24) (tpR S a) (20) from ⟨_, _, _, _, sP, (xPp.up (by omega)), (xPq.up (by omega)), (xPr.up (by omega)), (xPs.up (by omega))⟩) ((o + 25)) (show SLa o ((o + 25)) by unfold SLa; omega) (show SB V o (o + 25) (tpR S b) (20) from ⟨_, _, _, _, sQ, (xQp.up (by omega)), (xQq.up (by omega)), (xQr.up (by omega)), (xQs.up (by omega))⟩) ((o + 26)) (show SLa o ((o + 26)) by unfold SLa; omega)) ?_
  rintro _ ⟨V1, rfl, g1, t1, u1, v1, y1, s1, xt1, xu1, xv1, xy1⟩
  have G_2 := G0.trans (g1.wide (fun q hq => by have hq : q = o + 26 := hq; show q = o + 26; omega))
  refine g_aload_n rfl rfl ?_
  refine g_aload_n rfl rfl ?_
  refine g_getR rfl ms.1 (mr_three ms) ?_
  refine g_iconst rfl ?_
  refine g_iald (i := 0) rfl (mt_three ms) (by omega) (by omega) ?_
  refine g_top (v2 := aI ((t1 : Int))) (congrArg aI (by exact s1.1)) ?_
  refine g_callVI [aI ((t1 : Int))] [] rfl rfl rfl rfl (Nat.le_of_ble_eq_true rfl) ms.1 (r_sign (by omega) ms V1 xt1) ?_
  rintro r3 _ ⟨rfl, e4⟩
  rw [e4]
  clear e4 r3
  refine g_if_ne rfl (fun cq500 => ?_) (fun cq500 => ?_)
  · skip
    refine g_aload_n rfl rfl ?_
    refine g_aload_n rfl rfl ?_
    refine g_getR rfl ms.1 (mr_three ms) ?_
    refine g_aload_n rfl rfl ?_
    refine g_getR rfl ms.1 (mr_one ms) ?_
    refine g_callVI [aO (some (o + 26)), aO (some (o + 24))] [] rfl rfl rfl rfl (Nat.le_of_ble_eq_true rfl) ms.1 (m_touches (by omega) ms V1 (by have := G_2.2.2.1; omega) ((o + 26)) (show SLa o ((o + 26)) by unfold SLa; omega) (show SB V1 o (o + 26) (m_powers_S (tpR S a) (tpR S b)) (41) from ⟨_, _, _, _, s1, (xt1.up (by omega)), (xu1.up (by omega)), (xv1.up (by omega)), (xy1.up (by omega))⟩) ((o + 24)) (show SLa o ((o + 24)) by unfold SLa; omega) (show SB V1 o (o + 24) (tpR S a) (20) from ⟨_, _, _, _, (g1.sa (show SLa o ((o + 24)) by unfold SLa; omega) (show ¬(o + 24 = o + 26) by omega) sP), ((g1.rb xPp).up (by omega)), ((g1.rb xPq).up (by omega)), ((g1.rb xPr).up (by omega)), ((g1.rb xPs).up (by omega))⟩)) ?_
    rintro _ _ ⟨rfl, V5, rfl, g5⟩
    have G_6 := G_2.trans (g5.gs _)
    refine g_b_eq rfl (fun cq528 => ?_) (fun cq528 => ?_)
    · skip
      refine g_iconst rfl ?_
      refine g_zret rfl (by omega) ?_
      refine ⟨?_, V5, rfl, G_6.mono (by omega)⟩
      have l0 := @lcmp_0 ((m_powers_S (tpR S a) (tpR S b)).1) 0
      have m0 := @lcmp_lt ((m_powers_S (tpR S a) (tpR S b)).1) 0
      have n0 := @lcmp_gt (0) ((m_powers_S (tpR S a) (tpR S b)).1)
      have n0q := @lcmp_gt ((m_powers_S (tpR S a) (tpR S b)).1) 0
      have l1 := @lcmp_0 ((m_powers_S (tpR S a) (tpR S b)).2.1) 0
      have m1 := @lcmp_lt ((m_powers_S (tpR S a) (tpR S b)).2.1) 0
      have n1 := @lcmp_gt (0) ((m_powers_S (tpR S a) (tpR S b)).2.1)
      have n1q := @lcmp_gt ((m_powers_S (tpR S a) (tpR S b)).2.1) 0
      first
        | (refine (if_pos ?_).symm; refine ⟨?_, cq528⟩ <;> omega)
        | (refine (if_neg ?_).symm; intro q; have q1 := q.1; omega)
        | (refine (if_neg ?_).symm; intro q; exact cq528 q.2)
    · skip
      refine g_iconst rfl ?_
      refine g_goto rfl ?_
      refine g_zret rfl (by omega) ?_
      refine ⟨?_, V5, rfl, G_6.mono (by omega)⟩
      have l0 := @lcmp_0 ((m_powers_S (tpR S a) (tpR S b)).1) 0
      have m0 := @lcmp_lt ((m_powers_S (tpR S a) (tpR S b)).1) 0
      have n0 := @lcmp_gt (0) ((m_powers_S (tpR S a) (tpR S b)).1)
      have n0q := @lcmp_gt ((m_powers_S (tpR S a) (tpR S b)).1) 0
      have l1 := @lcmp_0 ((m_powers_S (tpR S a) (tpR S b)).2.1) 0
      have m1 := @lcmp_lt ((m_powers_S (tpR S a) (tpR S b)).2.1) 0
      have n1 := @lcmp_gt (0) ((m_powers_S (tpR S a) (tpR S b)).2.1)
      have n1q := @lcmp_gt ((m_powers_S (tpR S a) (tpR S b)).2.1) 0
      first
        | (refine (if_pos ?_).symm; refine ⟨?_, cq528⟩ <;> omega)
        | (refine (if_neg ?_).symm; intro q; have q1 := q.1; omega)
        | (refine (if_neg ?_).symm; intro q; exact cq528 q.2)
  · skip
    refine g_aload_n rfl rfl ?_
    refine g_aload_n rfl rfl ?_
    refine g_getR rfl ms.1 (mr_three ms) ?_
    refine g_iconst rfl ?_
    refine g_iald (i := 1) rfl (mt_three ms) (by omega) (by omega) ?_
    refine g_top (v2 := aI ((u1 : Int))) (congrArg aI (by exact s1.2.1)) ?_
    refine g_callVI [aI ((u1 : Int))] [] rfl rfl rfl rfl (Nat.le_of_ble_eq_true rfl) ms.1 (r_sign (by omega) ms V1 xu1) ?_
    rintro r7 _ ⟨rfl, e8⟩
    rw [e8]
    clear e8 r7
    refine g_if_eq rfl (fun cq513 => ?_) (fun cq513 => ?_)
    · skip
      refine g_iconst rfl ?_
      refine g_zret rfl (by omega) ?_
      refine ⟨?_, V1, rfl, G_2.mono (by omega)⟩
      have l0 := @lcmp_0 ((m_powers_S (tpR S a) (tpR S b)).1) 0
      have m0 := @lcmp_lt ((m_powers_S (tpR S a) (tpR S b)).1) 0
      have n0 := @lcmp_gt (0) ((m_powers_S (tpR S a) (tpR S b)).1)
      have n0q := @lcmp_gt ((m_powers_S (tpR S a) (tpR S b)).1) 0
      have l1 := @lcmp_0 ((m_powers_S (tpR S a) (tpR S b)).2.1) 0
      have m1 := @lcmp_lt ((m_powers_S (tpR S a) (tpR S b)).2.1) 0
      have n1 := @lcmp_gt (0) ((m_powers_S (tpR S a) (tpR S b)).2.1)
      have n1q := @lcmp_gt ((m_powers_S (tpR S a) (tpR S b)).2.1) 0
      first
        | (refine (if_pos ?_).symm; refine ⟨?_, cq528⟩ <;> omega)
        | (refine (if_neg ?_).symm; intro q; have q1 := q.1; omega)
        | (refine (if_neg ?_).symm; intro q; exact cq528 q.2)
    · skip
      refine g_aload_n rfl rfl ?_
      refine g_aload_n rfl rfl ?_
      refine g_getR rfl ms.1 (mr_three ms) ?_
      refine g_aload_n rfl rfl ?_
      refine g_getR rfl ms.1 (mr_one ms) ?_
      refine g_callVI [aO (some (o + 26)), aO (some (o + 24))] [] rfl rfl rfl rfl (Nat.le_of_ble_eq_true rfl) ms.1 (m_touches (by omega) ms V1 (by have := G_2.2.2.1; omega) ((o + 26)) (show SLa o ((o + 26)) by unfold SLa; omega) (show SB V1 o (o + 26) (m_powers_S (tpR S a) (tpR S b)) (41) from ⟨_, _, _, _, s1, (xt1.up (by omega)), (xu1.up (by omega)), (xv1.up (by omega)), (xy1.up (by omega))⟩) ((o + 24)) (show SLa o ((o + 24)) by unfold SLa; omega) (show SB V1 o (o + 24) (tpR S a) (20) from ⟨_, _, _, _, (g1.sa (show SLa o ((o + 24)) by unfold SLa; omega) (show ¬(o + 24 = o + 26) by omega) sP), ((g1.rb xPp).up (by omega)), ((g1.rb xPq).up (by omega)), ((g1.rb xPr).up (by omega)), ((g1.rb xPs).up (by omega))⟩)) ?_
      rintro _ _ ⟨rfl, V9, rfl, g9⟩
      have G_10 := G_2.trans (g9.gs _)
      refine g_b_eq rfl (fun cq528 => ?_) (fun cq528 => ?_)
      · skip
        refine g_iconst rfl ?_
        refine g_zret rfl (by omega) ?_
        refine ⟨?_, V9, rfl, G_10.mono (by omega)⟩
        have l0 := @lcmp_0 ((m_powers_S (tpR S a) (tpR S b)).1) 0
        have m0 := @lcmp_lt ((m_powers_S (tpR S a) (tpR S b)).1) 0
        have n0 := @lcmp_gt (0) ((m_powers_S (tpR S a) (tpR S b)).1)
        have n0q := @lcmp_gt ((m_powers_S (tpR S a) (tpR S b)).1) 0
        have l1 := @lcmp_0 ((m_powers_S (tpR S a) (tpR S b)).2.1) 0
        have m1 := @lcmp_lt ((m_powers_S (tpR S a) (tpR S b)).2.1) 0
        have n1 := @lcmp_gt (0) ((m_powers_S (tpR S a) (tpR S b)).2.1)
        have n1q := @lcmp_gt ((m_powers_S (tpR S a) (tpR S b)).2.1) 0
        first
          | (refine (if_pos ?_).symm; refine ⟨?_, cq528⟩ <;> omega)
          | (refine (if_neg ?_).symm; intro q; have q1 := q.1; omega)
          | (refine (if_neg ?_).symm; intro q; exact cq528 q.2)
      · skip
        refine g_iconst rfl ?_
        refine g_goto rfl ?_
        refine g_zret rfl (by omega) ?_
        refine ⟨?_, V9, rfl, G_10.mono (by omega)⟩
        have l0 := @lcmp_0 ((m_powers_S (tpR S a) (tpR S b)).1) 0
        have m0 := @lcmp_lt ((m_powers_S (tpR S a) (tpR S b)).1) 0
        have n0 := @lcmp_gt (0) ((m_powers_S (tpR S a) (tpR S b)).1)
        have n0q := @lcmp_gt ((m_powers_S (tpR S a) (tpR S b)).1) 0
        have l1 := @lcmp_0 ((m_powers_S (tpR S a) (tpR S b)).2.1) 0
        have m1 := @lcmp_lt ((m_powers_S (tpR S a) (tpR S b)).2.1) 0
        have n1 := @lcmp_gt (0) ((m_powers_S (tpR S a) (tpR S b)).2.1)
        have n1q := @lcmp_gt ((m_powers_S (tpR S a) (tpR S b)).2.1) 0
        first
          | (refine (if_pos ?_).symm; refine ⟨?_, cq528⟩ <;> omega)
          | (refine (if_neg ?_).symm; intro q; have q1 := q.1; omega)
          | (refine (if_neg ?_).symm; intro q; exact cq528 q.2)
set_option maxRecDepth 100000 in
set_option maxHeartbeats 4000000 in
theorem m_so10 {w : aW} {d : Nat} (hd : 9 ≤ d) {h : aH} {o : Nat} (ms : MS h o) (V : Nat → Nat → Int) {S : aS} (ok : OkT S) (mt : MT V o S) (hF : 0 ≤ V o 1 ∧ V o 1 + 9 ≤ 700) {a b c f : Int} (tP : SB V o (o + 24) (tpR S a) (20)) (tQ : SB V o (o + 25) (tpR S b) (20)) (tR : SB V o (o + 26) (tpR S c) (20)) (tW : SB V o (o + 27) (tpR S f) (20)) (_a : Int) (ha : 0 ≤ a ∧ a < sT S) (_b : Int) (hb : 0 ≤ b ∧ b < sT S) (_c : Int) (hc : 0 ≤ c ∧ c < sT S) (_f : Int) (hf : 0 ≤ f ∧ f < sT S)  : WP w d 325 [aO (some o), aI 10, aI a, aI b, aI c, aI f] (hw h V) (RI (fun r h1 => (r = if ((tpR S a).2.1 * (tpR S b).2.1) + ((tpR S a).2.2.1 * (tpR S b).2.2.1) = 2 * (((tpR S a).2.2.2 * (tpR S b).1) + ((tpR S b).2.2.2 * (tpR S a).1)) then 1 else 0) ∧ ∃ V1, h1 = hw h V1 ∧ Gm V V1 o 9)) := by
  obtain ⟨d, rfl⟩ : ∃ d1, d = d1 + 1 := ⟨d - 1, by omega⟩
  refine WP.enter (cd := cd_X12_isSo) rfl ?_
  have G0 := Gs.refl V o (fun _ => False)
  obtain ⟨Pp, Pq, Pr, Ps, sP, xPp, xPq, xPr, xPs⟩ := tP
  obtain ⟨Qp, Qq, Qr, Qs, sQ, xQp, xQq, xQr, xQs⟩ := tQ
  obtain ⟨Rp, Rq, Rr, Rs, sR, xRp, xRq, xRr, xRs⟩ := tR
  obtain ⟨Wp, Wq, Wr, Ws, sW, xWp, xWq, xWr, xWs⟩ := tW
  have hn := ok.1
  have hls : largs 0 [aO (some o), aI 10, aI a, aI b, aI c, aI f] = [(0, aO (some o)), (1, aI 10), (2, aI a), (3, aI b), (4, aI c), (5, aI f)] := rfl
  rw [hls]
  clear hls
  refine g_iload_n rfl rfl ?_
  refine g_tsw (t := 537) rfl (by rfl) ?_
  refine g_aload_n rfl rfl ?_
  refine g_aload_n rfl rfl ?_
  refine g_aload_n rfl rfl ?_
  refine g_getR rfl ms.1 (mr_one ms) ?_
  refine g_iconst rfl ?_
  refine g_iald (i := 1) rfl (mt_one ms) (by omega) (by omega) ?_
  refine g_top (v2 := aI ((Pq : Int))) (congrArg aI (by exact sP.2.1)) ?_
  refine g_aload_n rfl rfl ?_
  refine g_getR rfl ms.1 (mr_two ms) ?_
  refine g_iconst rfl ?_
  refine g_iald (i := 1) rfl (mt_two ms) (by omega) (by omega) ?_
  refine g_top (v2 := aI ((Qq : Int))) (congrArg aI (by exact sQ.2.1)) ?_
  refine g_callVI [aI ((Pq : Int)), aI ((Qq : Int))] [aO (some o)] rfl rfl rfl rfl (Nat.le_of_ble_eq_true rfl) ms.1 (r_mul (by omega) ms V (by have := G0.2.2.1; omega) xPq xQq (by omega)) ?_
  rintro _ _ ⟨p1, rfl, V1, rfl, g1, xp1⟩
  have G_2 := G0.trans (g1.gs _)
  refine g_aload_n rfl rfl ?_
  refine g_aload_n rfl rfl ?_
  refine g_getR rfl ms.1 (mr_one ms) ?_
  refine g_iconst rfl ?_
  refine g_iald (i := 2) rfl (mt_one ms) (by omega) (by omega) ?_
  refine g_top (v2 := aI ((Pr : Int))) (congrArg aI (by exact (g1.sa (show SLa o ((o + 24)) by unfold SLa; omega) sP).2.2.1)) ?_
  refine g_aload_n rfl rfl ?_
  refine g_getR rfl ms.1 (mr_two ms) ?_
  refine g_iconst rfl ?_
  refine g_iald (i := 2) rfl (mt_two ms) (by omega) (by omega) ?_
  refine g_top (v2 := aI ((Qr : Int))) (congrArg aI (by exact (g1.sa (show SLa o ((o + 25)) by unfold SLa; omega) sQ).2.2.1)) ?_
  refine g_callVI [aI ((Pr : Int)), aI ((Qr : Int))] [aI ((p1 : Int)), aO (some o)] rfl rfl rfl rfl (Nat.le_of_ble_eq_true rfl) ms.1 (r_mul (by omega) ms V1 (by have := G_2.2.2.1; omega) (g1.rb xPr) (g1.rb xQr) (by omega)) ?_
  rintro _ _ ⟨p3, rfl, V3, rfl, g3, xp3⟩
  have G_4 := G_2.trans (g3.gs _)
  refine g_callVI [aI ((p1 : Int)), aI ((p3 : Int))] [] rfl rfl rfl rfl (Nat.le_of_ble_eq_true rfl) ms.1 (r_add (by omega) ms V3 (by have := G_4.2.2.1; omega) (g3.rb xp1) xp3 (41) (by omega) (by omega) (by omega)) ?_
  rintro _ _ ⟨p5, rfl, V5, rfl, g5, xp5⟩
  have G_6 := G_4.trans (g5.gs _)
  refine g_istore (l1 := [(6, aI ((p5 : Int))), (0, aO (some o)), (1, aI 10), (2, aI a), (3, aI b), (4, aI c), (5, aI f)]) rfl rfl ?_
  refine g_aload_n rfl rfl ?_
  refine g_aload_n rfl rfl ?_
  refine g_ldc2 rfl ?_
  refine g_callVI [aJ 2] [aO (some o)] rfl rfl rfl rfl (Nat.le_of_ble_eq_true rfl) ms.1 (r_num (by omega) ms V5 (by have := G_6.2.2.1; omega) 2 (by omega) 1 (by decide)) ?_
  rintro _ _ ⟨p7, rfl, V7, rfl, g7, xp7⟩
  have G_8 := G_6.trans (g7.gs _)
  refine g_aload_n rfl rfl ?_
  refine g_aload_n rfl rfl ?_
  refine g_aload_n rfl rfl ?_
  refine g_getR rfl ms.1 (mr_one ms) ?_
  refine g_iconst rfl ?_
  refine g_iald (i := 3) rfl (mt_one ms) (by omega) (by omega) ?_
  refine g_top (v2 := aI ((Ps : Int))) (congrArg aI (by exact (g7.sa (show SLa o ((o + 24)) by unfold SLa; omega) (g5.sa (show SLa o ((o + 24)) by unfold SLa; omega) (g3.sa (show SLa o ((o + 24)) by unfold SLa; omega) (g1.sa (show SLa o ((o + 24)) by unfold SLa; omega) sP)))).2.2.2)) ?_
  refine g_aload_n rfl rfl ?_
  refine g_getR rfl ms.1 (mr_two ms) ?_
  refine g_iconst rfl ?_
  refine g_iald (i := 0) rfl (mt_two ms) (by omega) (by omega) ?_
  refine g_top (v2 := aI ((Qp : Int))) (congrArg aI (by exact (g7.sa (show SLa o ((o + 25)) by unfold SLa; omega) (g5.sa (show SLa o ((o + 25)) by unfold SLa; omega) (g3.sa (show SLa o ((o + 25)) by unfold SLa; omega) (g1.sa (show SLa o ((o + 25)) by unfold SLa; omega) sQ)))).1)) ?_
  refine g_callVI [aI ((Ps : Int)), aI ((Qp : Int))] [aO (some o), aI ((p7 : Int)), aO (some o)] rfl rfl rfl rfl (Nat.le_of_ble_eq_true rfl) ms.1 (r_mul (by omega) ms V7 (by have := G_8.2.2.1; omega) (g7.rb (g5.rb (g3.rb (g1.rb xPs)))) (g7.rb (g5.rb (g3.rb (g1.rb xQp)))) (by omega)) ?_
  rintro _ _ ⟨p9, rfl, V9, rfl, g9, xp9⟩
  have G_10 := G_8.trans (g9.gs _)
  refine g_aload_n rfl rfl ?_
  refine g_aload_n rfl rfl ?_
  refine g_getR rfl ms.1 (mr_two ms) ?_
  refine g_iconst rfl ?_
  refine g_iald (i := 3) rfl (mt_two ms) (by omega) (by omega) ?_
  refine g_top (v2 := aI ((Qs : Int))) (congrArg aI (by exact (g9.sa (show SLa o ((o + 25)) by unfold SLa; omega) (g7.sa (show SLa o ((o + 25)) by unfold SLa; omega) (g5.sa (show SLa o ((o + 25)) by unfold SLa; omega) (g3.sa (show SLa o ((o + 25)) by unfold SLa; omega) (g1.sa (show SLa o ((o + 25)) by unfold SLa; omega) sQ))))).2.2.2)) ?_
  refine g_aload_n rfl rfl ?_
  refine g_getR rfl ms.1 (mr_one ms) ?_
  refine g_iconst rfl ?_
  refine g_iald (i := 0) rfl (mt_one ms) (by omega) (by omega) ?_
  refine g_top (v2 := aI ((Pp : Int))) (congrArg aI (by exact (g9.sa (show SLa o ((o + 24)) by unfold SLa; omega) (g7.sa (show SLa o ((o + 24)) by unfold SLa; omega) (g5.sa (show SLa o ((o + 24)) by unfold SLa; omega) (g3.sa (show SLa o ((o + 24)) by unfold SLa; omega) (g1.sa (show SLa o ((o + 24)) by unfold SLa; omega) sP))))).1)) ?_
  refine g_callVI [aI ((Qs : Int)), aI ((Pp : Int))] [aI ((p9 : Int)), aO (some o), aI ((p7 : Int)), aO (some o)] rfl rfl rfl rfl (Nat.le_of_ble_eq_true rfl) ms.1 (r_mul (by omega) ms V9 (by have := G_10.2.2.1; omega) (g9.rb (g7.rb (g5.rb (g3.rb (g1.rb xQs))))) (g9.rb (g7.rb (g5.rb (g3.rb (g1.rb xPp))))) (by omega)) ?_
  rintro _ _ ⟨p11, rfl, V11, rfl, g11, xp11⟩
  have G_12 := G_10.trans (g11.gs _)
  refine g_callVI [aI ((p9 : Int)), aI ((p11 : Int))] [aI ((p7 : Int)), aO (some o)] rfl rfl rfl rfl (Nat.le_of_ble_eq_true rfl) ms.1 (r_add (by omega) ms V11 (by have := G_12.2.2.1; omega) (g11.rb xp9) xp11 (41) (by omega) (by omega) (by omega)) ?_
  rintro _ _ ⟨p13, rfl, V13, rfl, g13, xp13⟩
  have G_14 := G_12.trans (g13.gs _)
  refine g_callVI [aI ((p7 : Int)), aI ((p13 : Int))] [] rfl rfl rfl rfl (Nat.le_of_ble_eq_true rfl) ms.1 (r_mul (by omega) ms V13 (by have := G_14.2.2.1; omega) (g13.rb (g11.rb (g9.rb xp7))) xp13 (by omega)) ?_
  rintro _ _ ⟨p15, rfl, V15, rfl, g15, xp15⟩
  have G_16 := G_14.trans (g15.gs _)
  refine g_istore (l1 := [(7, aI ((p15 : Int))), (6, aI ((p5 : Int))), (0, aO (some o)), (1, aI 10), (2, aI a), (3, aI b), (4, aI c), (5, aI f)]) rfl rfl ?_
  refine g_aload_n rfl rfl ?_
  refine g_iload rfl rfl ?_
  refine g_iload rfl rfl ?_
  refine g_callVI [aI ((p5 : Int)), aI ((p15 : Int))] [] rfl rfl rfl rfl (Nat.le_of_ble_eq_true rfl) ms.1 (r_cmp (by omega) ms V15 (by have := G_16.2.2.1; omega) (g15.rb (g13.rb (g11.rb (g9.rb (g7.rb xp5))))) xp15 (43) (by omega) (by omega) (by omega)) ?_
  rintro _ _ ⟨rfl, V17, rfl, g17⟩
  have G_18 := G_16.trans (g17.gs _)
  refine g_if_ne rfl (fun cq632 => ?_) (fun cq632 => ?_)
  · skip
    refine g_iconst rfl ?_
    refine g_zret rfl (by omega) ?_
    refine ⟨?_, V17, rfl, (G_18.mono (by omega)).gm⟩
    have l0 := @lcmp_0 (((tpR S a).2.1 * (tpR S b).2.1) + ((tpR S a).2.2.1 * (tpR S b).2.2.1)) (2 * (((tpR S a).2.2.2 * (tpR S b).1) + ((tpR S b).2.2.2 * (tpR S a).1)))
    first
      | rw [if_pos (by omega)]
      | rw [if_neg (by omega)]
  · skip
    refine g_iconst rfl ?_
    refine g_goto rfl ?_
    refine g_zret rfl (by omega) ?_
    refine ⟨?_, V17, rfl, (G_18.mono (by omega)).gm⟩
    have l0 := @lcmp_0 (((tpR S a).2.1 * (tpR S b).2.1) + ((tpR S a).2.2.1 * (tpR S b).2.2.1)) (2 * (((tpR S a).2.2.2 * (tpR S b).1) + ((tpR S b).2.2.2 * (tpR S a).1)))
    first
      | rw [if_pos (by omega)]
      | rw [if_neg (by omega)]
set_option maxRecDepth 100000 in
set_option maxHeartbeats 4000000 in
theorem m_so11 {w : aW} {d : Nat} (hd : 9 ≤ d) {h : aH} {o : Nat} (ms : MS h o) (V : Nat → Nat → Int) {S : aS} (ok : OkT S) (mt : MT V o S) (hF : 0 ≤ V o 1 ∧ V o 1 + 14 ≤ 700) {a b c f : Int} (tP : SB V o (o + 24) (tpR S a) (20)) (tQ : SB V o (o + 25) (tpR S b) (20)) (tR : SB V o (o + 26) (tpR S c) (20)) (tW : SB V o (o + 27) (tpR S f) (20)) (_a : Int) (ha : 0 ≤ a ∧ a < sT S) (_b : Int) (hb : 0 ≤ b ∧ b < sT S) (_c : Int) (hc : 0 ≤ c ∧ c < sT S) (_f : Int) (hf : 0 ≤ f ∧ f < sT S)  : WP w d 325 [aO (some o), aI 11, aI a, aI b, aI c, aI f] (hw h V) (RI (fun r h1 => (r = if ¬ sTp S a.toNat 2 = 0 ∧ ¬ sTp S b.toNat 2 = 0 ∧ ¬ sTp S c.toNat 2 = 0 ∧ 0 < m_det_S (tpR S a) (tpR S b) (tpR S c) then 1 else 0) ∧ ∃ V1, h1 = hw h V1 ∧ Gm V V1 o 14)) := by
  obtain ⟨d, rfl⟩ : ∃ d1, d = d1 + 1 := ⟨d - 1, by omega⟩
  refine WP.enter (cd := cd_X12_isSo) rfl ?_
  have G0 := Gs.refl V o (fun _ => False)
  obtain ⟨Pp, Pq, Pr, Ps, sP, xPp, xPq, xPr, xPs⟩ := tP
  obtain ⟨Qp, Qq, Qr, Qs, sQ, xQp, xQq, xQr, xQs⟩ := tQ
  obtain ⟨Rp, Rq, Rr, Rs, sR, xRp, xRq, xRr, xRs⟩ := tR
  obtain ⟨Wp, Wq, Wr, Ws, sW, xWp, xWq, xWr, xWs⟩ := tW
  have hn := ok.1
  have hls : largs 0 [aO (some o), aI 11, aI a, aI b, aI c, aI f] = [(0, aO (some o)), (1, aI 11), (2, aI a), (3, aI b), (4, aI c), (5, aI f)] := rfl
  rw [hls]
  clear hls
  refine g_iload_n rfl rfl ?_
  refine g_tsw (t := 641) rfl (by rfl) ?_
  refine g_aload_n rfl rfl ?_
  refine g_iload_n rfl rfl ?_
  refine g_callVI [aI a] [] rfl rfl rfl rfl (Nat.le_of_ble_eq_true rfl) ms.1 (m_isFar (by omega) ms V ok mt a ha) ?_
  rintro r1 _ ⟨rfl, e2⟩
  rw [e2]
  clear e2 r1
  refine g_b_ne rfl (fun cq646 => ?_) (fun cq646 => ?_)
  · skip
    refine g_iconst rfl ?_
    refine g_zret rfl (by omega) ?_
    refine ⟨?_, V, rfl, (G0.mono (by omega)).gm⟩
    have l0 := @lcmp_0 (m_det_S (tpR S a) (tpR S b) (tpR S c)) 0
    have m0 := @lcmp_lt (m_det_S (tpR S a) (tpR S b) (tpR S c)) 0
    have n0 := @lcmp_gt (0) (m_det_S (tpR S a) (tpR S b) (tpR S c))
    have n0q := @lcmp_gt (m_det_S (tpR S a) (tpR S b) (tpR S c)) 0
    first
      | rw [if_pos (by omega)]
      | rw [if_neg (by omega)]
  · skip
    refine g_aload_n rfl rfl ?_
    refine g_iload_n rfl rfl ?_
    refine g_callVI [aI b] [] rfl rfl rfl rfl (Nat.le_of_ble_eq_true rfl) ms.1 (m_isFar (by omega) ms V ok mt b hb) ?_
    rintro r3 _ ⟨rfl, e4⟩
    rw [e4]
    clear e4 r3
    refine g_b_ne rfl (fun cq654 => ?_) (fun cq654 => ?_)
    · skip
      refine g_iconst rfl ?_
      refine g_zret rfl (by omega) ?_
      refine ⟨?_, V, rfl, (G0.mono (by omega)).gm⟩
      have l0 := @lcmp_0 (m_det_S (tpR S a) (tpR S b) (tpR S c)) 0
      have m0 := @lcmp_lt (m_det_S (tpR S a) (tpR S b) (tpR S c)) 0
      have n0 := @lcmp_gt (0) (m_det_S (tpR S a) (tpR S b) (tpR S c))
      have n0q := @lcmp_gt (m_det_S (tpR S a) (tpR S b) (tpR S c)) 0
      first
        | rw [if_pos (by omega)]
        | rw [if_neg (by omega)]
    · skip
      refine g_aload_n rfl rfl ?_
      refine g_iload rfl rfl ?_
      refine g_callVI [aI c] [] rfl rfl rfl rfl (Nat.le_of_ble_eq_true rfl) ms.1 (m_isFar (by omega) ms V ok mt c hc) ?_
      rintro r5 _ ⟨rfl, e6⟩
      rw [e6]
      clear e6 r5
      refine g_b_ne rfl (fun cq663 => ?_) (fun cq663 => ?_)
      · skip
        refine g_iconst rfl ?_
        refine g_zret rfl (by omega) ?_
        refine ⟨?_, V, rfl, (G0.mono (by omega)).gm⟩
        have l0 := @lcmp_0 (m_det_S (tpR S a) (tpR S b) (tpR S c)) 0
        have m0 := @lcmp_lt (m_det_S (tpR S a) (tpR S b) (tpR S c)) 0
        have n0 := @lcmp_gt (0) (m_det_S (tpR S a) (tpR S b) (tpR S c))
        have n0q := @lcmp_gt (m_det_S (tpR S a) (tpR S b) (tpR S c)) 0
        first
          | rw [if_pos (by omega)]
          | rw [if_neg (by omega)]
      · skip
        refine g_aload_n rfl rfl ?_
        refine g_aload_n rfl rfl ?_
        refine g_aload_n rfl rfl ?_
        refine g_getR rfl ms.1 (mr_one ms) ?_
        refine g_aload_n rfl rfl ?_
        refine g_getR rfl ms.1 (mr_two ms) ?_
        refine g_aload_n rfl rfl ?_
        refine g_getR rfl ms.1 (mr_three ms) ?_
        refine g_callVI [aO (some (o + 24)), aO (some (o + 25)), aO (some (o + 26))] [aO (some o)] rfl rfl rfl rfl (Nat.le_of_ble_eq_true rfl) ms.1 (m_det (by omega) ms V (by have := G0.2.2.1; omega) ((o + 24)) (show SLa o ((o + 24)) by unfold SLa; omega) (show SB V o (o + 24) (tpR S a) (20) from ⟨_, _, _, _, sP, (xPp.up (by omega)), (xPq.up (by omega)), (xPr.up (by omega)), (xPs.up (by omega))⟩) ((o + 25)) (show SLa o ((o + 25)) by unfold SLa; omega) (show SB V o (o + 25) (tpR S b) (20) from ⟨_, _, _, _, sQ, (xQp.up (by omega)), (xQq.up (by omega)), (xQr.up (by omega)), (xQs.up (by omega))⟩) ((o + 26)) (show SLa o ((o + 26)) by unfold SLa; omega) (show SB V o (o + 26) (tpR S c) (20) from ⟨_, _, _, _, sR, (xRp.up (by omega)), (xRq.up (by omega)), (xRr.up (by omega)), (xRs.up (by omega))⟩)) ?_
        rintro _ _ ⟨p7, rfl, V7, rfl, g7, xp7⟩
        have G_8 := G0.trans (g7.gs _)
        refine g_callVI [aI ((p7 : Int))] [] rfl rfl rfl rfl (Nat.le_of_ble_eq_true rfl) ms.1 (r_sign (by omega) ms V7 xp7) ?_
        rintro r9 _ ⟨rfl, e10⟩
        rw [e10]
        clear e10 r9
        refine g_if_le rfl (fun cq686 => ?_) (fun cq686 => ?_)
        · skip
          refine g_iconst rfl ?_
          refine g_zret rfl (by omega) ?_
          refine ⟨?_, V7, rfl, (G_8.mono (by omega)).gm⟩
          have l0 := @lcmp_0 (m_det_S (tpR S a) (tpR S b) (tpR S c)) 0
          have m0 := @lcmp_lt (m_det_S (tpR S a) (tpR S b) (tpR S c)) 0
          have n0 := @lcmp_gt (0) (m_det_S (tpR S a) (tpR S b) (tpR S c))
          have n0q := @lcmp_gt (m_det_S (tpR S a) (tpR S b) (tpR S c)) 0
          first
            | rw [if_pos (by omega)]
            | rw [if_neg (by omega)]
        · skip
          refine g_iconst rfl ?_
          refine g_goto rfl ?_
          refine g_zret rfl (by omega) ?_
          refine ⟨?_, V7, rfl, (G_8.mono (by omega)).gm⟩
          have l0 := @lcmp_0 (m_det_S (tpR S a) (tpR S b) (tpR S c)) 0
          have m0 := @lcmp_lt (m_det_S (tpR S a) (tpR S b) (tpR S c)) 0
          have n0 := @lcmp_gt (0) (m_det_S (tpR S a) (tpR S b) (tpR S c))
          have n0q := @lcmp_gt (m_det_S (tpR S a) (tpR S b) (tpR S c)) 0
          first
            | rw [if_pos (by omega)]
            | rw [if_neg (by omega)]
set_option maxRecDepth 100000 in
set_option maxHeartbeats 4000000 in
theorem m_so12 {w : aW} {d : Nat} (hd : 9 ≤ d) {h : aH} {o : Nat} (ms : MS h o) (V : Nat → Nat → Int) {S : aS} (ok : OkT S) (mt : MT V o S) (hF : 0 ≤ V o 1 ∧ V o 1 + 12 ≤ 700) {a b c f : Int} (tP : SB V o (o + 24) (tpR S a) (20)) (tQ : SB V o (o + 25) (tpR S b) (20)) (tR : SB V o (o + 26) (tpR S c) (20)) (tW : SB V o (o + 27) (tpR S f) (20)) (_a : Int) (ha : 0 ≤ a ∧ a < sT S) (_b : Int) (hb : 0 ≤ b ∧ b < sT S) (_c : Int) (hc : 0 ≤ c ∧ c < sT S) (_f : Int) (hf : 0 ≤ f ∧ f < sT S)  : WP w d 325 [aO (some o), aI 12, aI a, aI b, aI c, aI f] (hw h V) (RI (fun r h1 => (r = if ¬ sTp S a.toNat 2 = 0 ∧ m_within_S (tpR S a) (tpR S b) < 0 then 1 else 0) ∧ ∃ V1, h1 = hw h V1 ∧ Gm V V1 o 12)) := by
  obtain ⟨d, rfl⟩ : ∃ d1, d = d1 + 1 := ⟨d - 1, by omega⟩
  refine WP.enter (cd := cd_X12_isSo) rfl ?_
  have G0 := Gs.refl V o (fun _ => False)
  obtain ⟨Pp, Pq, Pr, Ps, sP, xPp, xPq, xPr, xPs⟩ := tP
  obtain ⟨Qp, Qq, Qr, Qs, sQ, xQp, xQq, xQr, xQs⟩ := tQ
  obtain ⟨Rp, Rq, Rr, Rs, sR, xRp, xRq, xRr, xRs⟩ := tR
  obtain ⟨Wp, Wq, Wr, Ws, sW, xWp, xWq, xWr, xWs⟩ := tW
  have hn := ok.1
  have hls : largs 0 [aO (some o), aI 12, aI a, aI b, aI c, aI f] = [(0, aO (some o)), (1, aI 12), (2, aI a), (3, aI b), (4, aI c), (5, aI f)] := rfl
  rw [hls]
  clear hls
  refine g_iload_n rfl rfl ?_
  refine g_tsw (t := 695) rfl (by rfl) ?_
  refine g_aload_n rfl rfl ?_
  refine g_iload_n rfl rfl ?_
  refine g_callVI [aI a] [] rfl rfl rfl rfl (Nat.le_of_ble_eq_true rfl) ms.1 (m_isFar (by omega) ms V ok mt a ha) ?_
  rintro r1 _ ⟨rfl, e2⟩
  rw [e2]
  clear e2 r1
  refine g_b_ne rfl (fun cq700 => ?_) (fun cq700 => ?_)
  · skip
    refine g_iconst rfl ?_
    refine g_zret rfl (by omega) ?_
    refine ⟨?_, V, rfl, (G0.mono (by omega)).gm⟩
    have l0 := @lcmp_0 (m_within_S (tpR S a) (tpR S b)) 0
    have m0 := @lcmp_lt (m_within_S (tpR S a) (tpR S b)) 0
    have n0 := @lcmp_gt (0) (m_within_S (tpR S a) (tpR S b))
    have n0q := @lcmp_gt (m_within_S (tpR S a) (tpR S b)) 0
    first
      | rw [if_pos (by omega)]
      | rw [if_neg (by omega)]
  · skip
    refine g_aload_n rfl rfl ?_
    refine g_aload_n rfl rfl ?_
    refine g_aload_n rfl rfl ?_
    refine g_getR rfl ms.1 (mr_one ms) ?_
    refine g_aload_n rfl rfl ?_
    refine g_getR rfl ms.1 (mr_two ms) ?_
    refine g_callVI [aO (some (o + 24)), aO (some (o + 25))] [aO (some o)] rfl rfl rfl rfl (Nat.le_of_ble_eq_true rfl) ms.1 (m_within (by omega) ms V (by have := G0.2.2.1; omega) ((o + 24)) (show SLa o ((o + 24)) by unfold SLa; omega) (show SB V o (o + 24) (tpR S a) (20) from ⟨_, _, _, _, sP, (xPp.up (by omega)), (xPq.up (by omega)), (xPr.up (by omega)), (xPs.up (by omega))⟩) ((o + 25)) (show SLa o ((o + 25)) by unfold SLa; omega) (show SB V o (o + 25) (tpR S b) (180) from ⟨_, _, _, _, sQ, (xQp.up (by omega)), (xQq.up (by omega)), (xQr.up (by omega)), (xQs.up (by omega))⟩)) ?_
    rintro _ _ ⟨p3, rfl, V3, rfl, g3, xp3⟩
    have G_4 := G0.trans (g3.gs _)
    refine g_callVI [aI ((p3 : Int))] [] rfl rfl rfl rfl (Nat.le_of_ble_eq_true rfl) ms.1 (r_sign (by omega) ms V3 xp3) ?_
    rintro r5 _ ⟨rfl, e6⟩
    rw [e6]
    clear e6 r5
    refine g_if_ge rfl (fun cq719 => ?_) (fun cq719 => ?_)
    · skip
      refine g_iconst rfl ?_
      refine g_zret rfl (by omega) ?_
      refine ⟨?_, V3, rfl, (G_4.mono (by omega)).gm⟩
      have l0 := @lcmp_0 (m_within_S (tpR S a) (tpR S b)) 0
      have m0 := @lcmp_lt (m_within_S (tpR S a) (tpR S b)) 0
      have n0 := @lcmp_gt (0) (m_within_S (tpR S a) (tpR S b))
      have n0q := @lcmp_gt (m_within_S (tpR S a) (tpR S b)) 0
      first
        | rw [if_pos (by omega)]
        | rw [if_neg (by omega)]
    · skip
      refine g_iconst rfl ?_
      refine g_goto rfl ?_
      refine g_zret rfl (by omega) ?_
      refine ⟨?_, V3, rfl, (G_4.mono (by omega)).gm⟩
      have l0 := @lcmp_0 (m_within_S (tpR S a) (tpR S b)) 0
      have m0 := @lcmp_lt (m_within_S (tpR S a) (tpR S b)) 0
      have n0 := @lcmp_gt (0) (m_within_S (tpR S a) (tpR S b))
      have n0q := @lcmp_gt (m_within_S (tpR S a) (tpR S b)) 0
      first
        | rw [if_pos (by omega)]
        | rw [if_neg (by omega)]
set_option maxRecDepth 100000 in
set_option maxHeartbeats 4000000 in
theorem m_so13 {w : aW} {d : Nat} (hd : 9 ≤ d) {h : aH} {o : Nat} (ms : MS h o) (V : Nat → Nat → Int) {S : aS} (ok : OkT S) (mt : MT V o S) (hF : 0 ≤ V o 1 ∧ V o 1 + 37 ≤ 700) {a b c f : Int} (tP : SB V o (o + 24) (tpR S a) (20)) (tQ : SB V o (o + 25) (tpR S b) (20)) (tR : SB V o (o + 26) (tpR S c) (20)) (tW : SB V o (o + 27) (tpR S f) (20)) (_a : Int) (ha : 0 ≤ a ∧ a < sT S) (_b : Int) (hb : 0 ≤ b ∧ b < sT S) (_c : Int) (hc : 0 ≤ c ∧ c < sT S) (_f : Int) (hf : 0 ≤ f ∧ f < sT S)  : WP w d 325 [aO (some o), aI 13, aI a, aI b, aI c, aI f] (hw h V) (RI (fun r h1 => (r = if m_dot_S (m_pole_S (tpR S a) (tpR S c)) (tpR S b) = 0 then 1 else 0) ∧ ∃ V1, h1 = hw h V1 ∧ Gs V V1 o 37 (fun q => q = o + 29))) := by
  obtain ⟨d, rfl⟩ : ∃ d1, d = d1 + 1 := ⟨d - 1, by omega⟩
  refine WP.enter (cd := cd_X12_isSo) rfl ?_
  have G0 := Gs.refl V o (fun q => q = o + 29)
  obtain ⟨Pp, Pq, Pr, Ps, sP, xPp, xPq, xPr, xPs⟩ := tP
  obtain ⟨Qp, Qq, Qr, Qs, sQ, xQp, xQq, xQr, xQs⟩ := tQ
  obtain ⟨Rp, Rq, Rr, Rs, sR, xRp, xRq, xRr, xRs⟩ := tR
  obtain ⟨Wp, Wq, Wr, Ws, sW, xWp, xWq, xWr, xWs⟩ := tW
  have hn := ok.1
  have hls : largs 0 [aO (some o), aI 13, aI a, aI b, aI c, aI f] = [(0, aO (some o)), (1, aI 13), (2, aI a), (3, aI b), (4, aI c), (5, aI f)] := rfl
  rw [hls]
  clear hls
  refine g_iload_n rfl rfl ?_
  refine g_tsw (t := 728) rfl (by rfl) ?_
  refine g_aload_n rfl rfl ?_
  refine g_aload_n rfl rfl ?_
  refine g_getR rfl ms.1 (mr_one ms) ?_
  refine g_aload_n rfl rfl ?_
  refine g_getR rfl ms.1 (mr_three ms) ?_
  refine g_aload_n rfl rfl ?_
  refine g_getR rfl ms.1 (mr_got ms) ?_
  refine g_callVN [aO (some (o + 24)), aO (some (o + 26)), aO (some (o + 29))] [] rfl rfl rfl rfl (Nat.le_of_ble_eq_true rfl) ms.1 (m_pole (by omega) ms V (by have := G0.2.2.1; omega) ((o + 24)) (show SLa o ((o + 24)) by unfold SLa; omega) (show SB V o (o + 24) (tpR S a) (20) from ⟨_, _, _, _, sP, (xPp.up (by omega)), (xPq.up (by omega)), (xPr.up (by omega)), (xPs.up (by omega))⟩) ((o + 26)) (show SLa o ((o + 26)) by unfold SLa; omega) (show SB V o (o + 26) (tpR S c) (20) from ⟨_, _, _, _, sR, (xRp.up (by omega)), (xRq.up (by omega)), (xRr.up (by omega)), (xRs.up (by omega))⟩) ((o + 29)) (show SLa o ((o + 29)) by unfold SLa; omega)) ?_
  rintro _ ⟨V1, rfl, g1, t1, u1, v1, y1, s1, xt1, xu1, xv1, xy1⟩
  have G_2 := G0.trans (g1.wide (fun q hq => by have hq : q = o + 29 := hq; show q = o + 29; omega))
  refine g_aload_n rfl rfl ?_
  refine g_aload_n rfl rfl ?_
  refine g_aload_n rfl rfl ?_
  refine g_getR rfl ms.1 (mr_got ms) ?_
  refine g_aload_n rfl rfl ?_
  refine g_getR rfl ms.1 (mr_two ms) ?_
  refine g_callVI [aO (some (o + 29)), aO (some (o + 25))] [aO (some o)] rfl rfl rfl rfl (Nat.le_of_ble_eq_true rfl) ms.1 (m_dot (by omega) ms V1 (by have := G_2.2.2.1; omega) ((o + 29)) (show SLa o ((o + 29)) by unfold SLa; omega) (show SB V1 o (o + 29) (m_pole_S (tpR S a) (tpR S c)) (65) from ⟨_, _, _, _, s1, (xt1.up (by omega)), (xu1.up (by omega)), (xv1.up (by omega)), (xy1.up (by omega))⟩) ((o + 25)) (show SLa o ((o + 25)) by unfold SLa; omega) (show SB V1 o (o + 25) (tpR S b) (65) from ⟨_, _, _, _, (g1.sa (show SLa o ((o + 25)) by unfold SLa; omega) (show ¬(o + 25 = o + 29) by omega) sQ), ((g1.rb xQp).up (by omega)), ((g1.rb xQq).up (by omega)), ((g1.rb xQr).up (by omega)), ((g1.rb xQs).up (by omega))⟩) (by omega)) ?_
  rintro _ _ ⟨p3, rfl, V3, rfl, g3, xp3⟩
  have G_4 := G_2.trans (g3.gs _)
  refine g_callVI [aI ((p3 : Int))] [] rfl rfl rfl rfl (Nat.le_of_ble_eq_true rfl) ms.1 (r_sign (by omega) ms V3 xp3) ?_
  rintro r5 _ ⟨rfl, e6⟩
  rw [e6]
  clear e6 r5
  refine g_if_ne rfl (fun cq760 => ?_) (fun cq760 => ?_)
  · skip
    refine g_iconst rfl ?_
    refine g_zret rfl (by omega) ?_
    refine ⟨?_, V3, rfl, G_4.mono (by omega)⟩
    have l0 := @lcmp_0 (m_dot_S (m_pole_S (tpR S a) (tpR S c)) (tpR S b)) 0
    have m0 := @lcmp_lt (m_dot_S (m_pole_S (tpR S a) (tpR S c)) (tpR S b)) 0
    have n0 := @lcmp_gt (0) (m_dot_S (m_pole_S (tpR S a) (tpR S c)) (tpR S b))
    have n0q := @lcmp_gt (m_dot_S (m_pole_S (tpR S a) (tpR S c)) (tpR S b)) 0
    first
      | rw [if_pos (by omega)]
      | rw [if_neg (by omega)]
  · skip
    refine g_iconst rfl ?_
    refine g_goto rfl ?_
    refine g_zret rfl (by omega) ?_
    refine ⟨?_, V3, rfl, G_4.mono (by omega)⟩
    have l0 := @lcmp_0 (m_dot_S (m_pole_S (tpR S a) (tpR S c)) (tpR S b)) 0
    have m0 := @lcmp_lt (m_dot_S (m_pole_S (tpR S a) (tpR S c)) (tpR S b)) 0
    have n0 := @lcmp_gt (0) (m_dot_S (m_pole_S (tpR S a) (tpR S c)) (tpR S b))
    have n0q := @lcmp_gt (m_dot_S (m_pole_S (tpR S a) (tpR S c)) (tpR S b)) 0
    first
      | rw [if_pos (by omega)]
      | rw [if_neg (by omega)]
set_option maxRecDepth 100000 in
set_option maxHeartbeats 4000000 in
theorem m_so14 {w : aW} {d : Nat} (hd : 9 ≤ d) {h : aH} {o : Nat} (ms : MS h o) (V : Nat → Nat → Int) {S : aS} (ok : OkT S) (mt : MT V o S) (hF : 0 ≤ V o 1 ∧ V o 1 + 84 ≤ 700) {a b c f : Int} (tP : SB V o (o + 24) (tpR S a) (20)) (tQ : SB V o (o + 25) (tpR S b) (20)) (tR : SB V o (o + 26) (tpR S c) (20)) (tW : SB V o (o + 27) (tpR S f) (20)) (_a : Int) (ha : 0 ≤ a ∧ a < sT S) (_b : Int) (hb : 0 ≤ b ∧ b < sT S) (_c : Int) (hc : 0 ≤ c ∧ c < sT S) (_f : Int) (hf : 0 ≤ f ∧ f < sT S)  : WP w d 325 [aO (some o), aI 14, aI a, aI b, aI c, aI f] (hw h V) (RI (fun r h1 => (r = if (¬ (sTp S a.toNat 0 = sTp S b.toNat 0 ∧ sTp S a.toNat 1 = sTp S b.toNat 1 ∧ sTp S a.toNat 2 = sTp S b.toNat 2 ∧ sTp S a.toNat 3 = sTp S b.toNat 3) ∧ ¬ (sTp S a.toNat 0 = sTp S c.toNat 0 ∧ sTp S a.toNat 1 = sTp S c.toNat 1 ∧ sTp S a.toNat 2 = sTp S c.toNat 2 ∧ sTp S a.toNat 3 = sTp S c.toNat 3) ∧ ¬ (sTp S a.toNat 0 = sTp S f.toNat 0 ∧ sTp S a.toNat 1 = sTp S f.toNat 1 ∧ sTp S a.toNat 2 = sTp S f.toNat 2 ∧ sTp S a.toNat 3 = sTp S f.toNat 3) ∧ ¬ (sTp S b.toNat 0 = sTp S c.toNat 0 ∧ sTp S b.toNat 1 = sTp S c.toNat 1 ∧ sTp S b.toNat 2 = sTp S c.toNat 2 ∧ sTp S b.toNat 3 = sTp S c.toNat 3) ∧ ¬ (sTp S b.toNat 0 = sTp S f.toNat 0 ∧ sTp S b.toNat 1 = sTp S f.toNat 1 ∧ sTp S b.toNat 2 = sTp S f.toNat 2 ∧ sTp S b.toNat 3 = sTp S f.toNat 3) ∧ ¬ (sTp S c.toNat 0 = sTp S f.toNat 0 ∧ sTp S c.toNat 1 = sTp S f.toNat 1 ∧ sTp S c.toNat 2 = sTp S f.toNat 2 ∧ sTp S c.toNat 3 = sTp S f.toNat 3)) ∧ m_det_S (tpR S a) (tpR S b) (tpR S c) = 0 ∧ m_det_S (tpR S a) (tpR S b) (tpR S f) = 0 ∧ m_crB (m_t3 (tpR S f)) (m_harm_O (tpR S a) (tpR S b) (m_t3 (tpR S c))) = true then 1 else 0) ∧ ∃ V1, h1 = hw h V1 ∧ Gs V V1 o 84 (fun q => q = o + 30 ∨ q = o + 31 ∨ q = o + 26 ∨ q = o + 27 ∨ q = o + 28 ∨ q = o + 29))) := by
  obtain ⟨d, rfl⟩ : ∃ d1, d = d1 + 1 := ⟨d - 1, by omega⟩
  refine WP.enter (cd := cd_X12_isSo) rfl ?_
  have G0 := Gs.refl V o (fun q => q = o + 30 ∨ q = o + 31 ∨ q = o + 26 ∨ q = o + 27 ∨ q = o + 28 ∨ q = o + 29)
  obtain ⟨Pp, Pq, Pr, Ps, sP, xPp, xPq, xPr, xPs⟩ := tP
  obtain ⟨Qp, Qq, Qr, Qs, sQ, xQp, xQq, xQr, xQs⟩ := tQ
  obtain ⟨Rp, Rq, Rr, Rs, sR, xRp, xRq, xRr, xRs⟩ := tR
  obtain ⟨Wp, Wq, Wr, Ws, sW, xWp, xWq, xWr, xWs⟩ := tW
  have hn := ok.1
  have hls : largs 0 [aO (some o), aI 14, aI a, aI b, aI c, aI f] = [(0, aO (some o)), (1, aI 14), (2, aI a), (3, aI b), (4, aI c), (5, aI f)] := rfl
  rw [hls]
  clear hls
  refine g_iload_n rfl rfl ?_
  refine g_tsw (t := 769) rfl (by rfl) ?_
  refine g_aload_n rfl rfl ?_
  refine g_iload_n rfl rfl ?_
  refine g_iload_n rfl rfl ?_
  refine g_iload rfl rfl ?_
  refine g_iload rfl rfl ?_
  refine g_callVI [aI a, aI b, aI c, aI f] [] rfl rfl rfl rfl (Nat.le_of_ble_eq_true rfl) ms.1 (m_isCross (by omega) ms V ok mt (by have := G0.2.2.1; omega) (show SB V o (o + 24) (tpR S a) (20) from ⟨_, _, _, _, sP, (xPp.up (by omega)), (xPq.up (by omega)), (xPr.up (by omega)), (xPs.up (by omega))⟩) (show SB V o (o + 25) (tpR S b) (20) from ⟨_, _, _, _, sQ, (xQp.up (by omega)), (xQq.up (by omega)), (xQr.up (by omega)), (xQs.up (by omega))⟩) (show SB V o (o + 26) (tpR S c) (20) from ⟨_, _, _, _, sR, (xRp.up (by omega)), (xRq.up (by omega)), (xRr.up (by omega)), (xRs.up (by omega))⟩) (show SB V o (o + 27) (tpR S f) (20) from ⟨_, _, _, _, sW, (xWp.up (by omega)), (xWq.up (by omega)), (xWr.up (by omega)), (xWs.up (by omega))⟩) a ha b hb c hc f hf) ?_
  rintro _ _ ⟨rfl, V1, rfl, g1⟩
  have G_2 := G0.trans (g1.wide (fun q hq => by have hq : q = o + 30 ∨ q = o + 31 ∨ q = o + 26 ∨ q = o + 27 ∨ q = o + 28 ∨ q = o + 29 := hq; show q = o + 30 ∨ q = o + 31 ∨ q = o + 26 ∨ q = o + 27 ∨ q = o + 28 ∨ q = o + 29; omega))
  refine g_zret rfl (by split <;> omega) ?_
  refine ⟨?_, V1, rfl, G_2.mono (by omega)⟩
  rfl
theorem m_names0 {w : aW} {d : Nat} (hd : 1 ≤ d) (h : aH) : WP w d 322 [aI 0] h (RI (fun r h1 => h1 = h ∧ r = 9)) := by
  obtain ⟨d, rfl⟩ : ∃ d1, d = d1 + 1 := ⟨d - 1, by omega⟩
  refine WP.enter (cd := cd_X12_names) rfl ?_
  have hls : largs 0 [aI 0] = [(0, aI 0)] := rfl
  rw [hls]
  clear hls
  refine g_iload_n rfl rfl ?_
  refine g_tsw (t := 72) rfl (by rfl) ?_
  refine g_bipush rfl ?_
  refine g_iret rfl ?_
  exact ⟨rfl, rfl⟩
theorem m_names1 {w : aW} {d : Nat} (hd : 1 ≤ d) (h : aH) : WP w d 322 [aI 1] h (RI (fun r h1 => h1 = h ∧ r = 1119)) := by
  obtain ⟨d, rfl⟩ : ∃ d1, d = d1 + 1 := ⟨d - 1, by omega⟩
  refine WP.enter (cd := cd_X12_names) rfl ?_
  have hls : largs 0 [aI 1] = [(0, aI 1)] := rfl
  rw [hls]
  clear hls
  refine g_iload_n rfl rfl ?_
  refine g_tsw (t := 75) rfl (by rfl) ?_
  refine g_sipush rfl ?_
  refine g_iret rfl ?_
  exact ⟨rfl, rfl⟩
theorem m_names2 {w : aW} {d : Nat} (hd : 1 ≤ d) (h : aH) : WP w d 322 [aI 2] h (RI (fun r h1 => h1 = h ∧ r = 199)) := by
  obtain ⟨d, rfl⟩ : ∃ d1, d = d1 + 1 := ⟨d - 1, by omega⟩
  refine WP.enter (cd := cd_X12_names) rfl ?_
  have hls : largs 0 [aI 2] = [(0, aI 2)] := rfl
  rw [hls]
  clear hls
  refine g_iload_n rfl rfl ?_
  refine g_tsw (t := 79) rfl (by rfl) ?_
  refine g_sipush rfl ?_
  refine g_iret rfl ?_
  exact ⟨rfl, rfl⟩
theorem m_names3 {w : aW} {d : Nat} (hd : 1 ≤ d) (h : aH) : WP w d 322 [aI 3] h (RI (fun r h1 => h1 = h ∧ r = 299)) := by
  obtain ⟨d, rfl⟩ : ∃ d1, d = d1 + 1 := ⟨d - 1, by omega⟩
  refine WP.enter (cd := cd_X12_names) rfl ?_
  have hls : largs 0 [aI 3] = [(0, aI 3)] := rfl
  rw [hls]
  clear hls
  refine g_iload_n rfl rfl ?_
  refine g_tsw (t := 83) rfl (by rfl) ?_
  refine g_sipush rfl ?_
  refine g_iret rfl ?_
  exact ⟨rfl, rfl⟩
theorem m_names4 {w : aW} {d : Nat} (hd : 1 ≤ d) (h : aH) : WP w d 322 [aI 4] h (RI (fun r h1 => h1 = h ∧ r = 1199)) := by
  obtain ⟨d, rfl⟩ : ∃ d1, d = d1 + 1 := ⟨d - 1, by omega⟩
  refine WP.enter (cd := cd_X12_names) rfl ?_
  have hls : largs 0 [aI 4] = [(0, aI 4)] := rfl
  rw [hls]
  clear hls
  refine g_iload_n rfl rfl ?_
  refine g_tsw (t := 87) rfl (by rfl) ?_
  refine g_sipush rfl ?_
  refine g_iret rfl ?_
  exact ⟨rfl, rfl⟩
theorem m_names5 {w : aW} {d : Nat} (hd : 1 ≤ d) (h : aH) : WP w d 322 [aI 5] h (RI (fun r h1 => h1 = h ∧ r = 1199)) := by
  obtain ⟨d, rfl⟩ : ∃ d1, d = d1 + 1 := ⟨d - 1, by omega⟩
  refine WP.enter (cd := cd_X12_names) rfl ?_
  have hls : largs 0 [aI 5] = [(0, aI 5)] := rfl
  rw [hls]
  clear hls
  refine g_iload_n rfl rfl ?_
  refine g_tsw (t := 87) rfl (by rfl) ?_
  refine g_sipush rfl ?_
  refine g_iret rfl ?_
  exact ⟨rfl, rfl⟩
theorem m_names6 {w : aW} {d : Nat} (hd : 1 ≤ d) (h : aH) : WP w d 322 [aI 6] h (RI (fun r h1 => h1 = h ∧ r = 0)) := by
  obtain ⟨d, rfl⟩ : ∃ d1, d = d1 + 1 := ⟨d - 1, by omega⟩
  refine WP.enter (cd := cd_X12_names) rfl ?_
  have hls : largs 0 [aI 6] = [(0, aI 6)] := rfl
  rw [hls]
  clear hls
  refine g_iload_n rfl rfl ?_
  refine g_tsw (t := 103) rfl (by rfl) ?_
  refine g_iconst rfl ?_
  refine g_iret rfl ?_
  exact ⟨rfl, rfl⟩
theorem m_names7 {w : aW} {d : Nat} (hd : 1 ≤ d) (h : aH) : WP w d 322 [aI 7] h (RI (fun r h1 => h1 = h ∧ r = 0)) := by
  obtain ⟨d, rfl⟩ : ∃ d1, d = d1 + 1 := ⟨d - 1, by omega⟩
  refine WP.enter (cd := cd_X12_names) rfl ?_
  have hls : largs 0 [aI 7] = [(0, aI 7)] := rfl
  rw [hls]
  clear hls
  refine g_iload_n rfl rfl ?_
  refine g_tsw (t := 103) rfl (by rfl) ?_
  refine g_iconst rfl ?_
  refine g_iret rfl ?_
  exact ⟨rfl, rfl⟩
theorem m_names8 {w : aW} {d : Nat} (hd : 1 ≤ d) (h : aH) : WP w d 322 [aI 8] h (RI (fun r h1 => h1 = h ∧ r = 1299)) := by
  obtain ⟨d, rfl⟩ : ∃ d1, d = d1 + 1 := ⟨d - 1, by omega⟩
  refine WP.enter (cd := cd_X12_names) rfl ?_
  have hls : largs 0 [aI 8] = [(0, aI 8)] := rfl
  rw [hls]
  clear hls
  refine g_iload_n rfl rfl ?_
  refine g_tsw (t := 91) rfl (by rfl) ?_
  refine g_sipush rfl ?_
  refine g_iret rfl ?_
  exact ⟨rfl, rfl⟩
theorem m_names9 {w : aW} {d : Nat} (hd : 1 ≤ d) (h : aH) : WP w d 322 [aI 9] h (RI (fun r h1 => h1 = h ∧ r = 2299)) := by
  obtain ⟨d, rfl⟩ : ∃ d1, d = d1 + 1 := ⟨d - 1, by omega⟩
  refine WP.enter (cd := cd_X12_names) rfl ?_
  have hls : largs 0 [aI 9] = [(0, aI 9)] := rfl
  rw [hls]
  clear hls
  refine g_iload_n rfl rfl ?_
  refine g_tsw (t := 95) rfl (by rfl) ?_
  refine g_sipush rfl ?_
  refine g_iret rfl ?_
  exact ⟨rfl, rfl⟩
theorem m_names10 {w : aW} {d : Nat} (hd : 1 ≤ d) (h : aH) : WP w d 322 [aI 10] h (RI (fun r h1 => h1 = h ∧ r = 2299)) := by
  obtain ⟨d, rfl⟩ : ∃ d1, d = d1 + 1 := ⟨d - 1, by omega⟩
  refine WP.enter (cd := cd_X12_names) rfl ?_
  have hls : largs 0 [aI 10] = [(0, aI 10)] := rfl
  rw [hls]
  clear hls
  refine g_iload_n rfl rfl ?_
  refine g_tsw (t := 95) rfl (by rfl) ?_
  refine g_sipush rfl ?_
  refine g_iret rfl ?_
  exact ⟨rfl, rfl⟩
theorem m_names11 {w : aW} {d : Nat} (hd : 1 ≤ d) (h : aH) : WP w d 322 [aI 11] h (RI (fun r h1 => h1 = h ∧ r = 9)) := by
  obtain ⟨d, rfl⟩ : ∃ d1, d = d1 + 1 := ⟨d - 1, by omega⟩
  refine WP.enter (cd := cd_X12_names) rfl ?_
  have hls : largs 0 [aI 11] = [(0, aI 11)] := rfl
  rw [hls]
  clear hls
  refine g_iload_n rfl rfl ?_
  refine g_tsw (t := 72) rfl (by rfl) ?_
  refine g_bipush rfl ?_
  refine g_iret rfl ?_
  exact ⟨rfl, rfl⟩
theorem m_names12 {w : aW} {d : Nat} (hd : 1 ≤ d) (h : aH) : WP w d 322 [aI 12] h (RI (fun r h1 => h1 = h ∧ r = 299)) := by
  obtain ⟨d, rfl⟩ : ∃ d1, d = d1 + 1 := ⟨d - 1, by omega⟩
  refine WP.enter (cd := cd_X12_names) rfl ?_
  have hls : largs 0 [aI 12] = [(0, aI 12)] := rfl
  rw [hls]
  clear hls
  refine g_iload_n rfl rfl ?_
  refine g_tsw (t := 83) rfl (by rfl) ?_
  refine g_sipush rfl ?_
  refine g_iret rfl ?_
  exact ⟨rfl, rfl⟩
theorem m_names13 {w : aW} {d : Nat} (hd : 1 ≤ d) (h : aH) : WP w d 322 [aI 13] h (RI (fun r h1 => h1 = h ∧ r = 1129)) := by
  obtain ⟨d, rfl⟩ : ∃ d1, d = d1 + 1 := ⟨d - 1, by omega⟩
  refine WP.enter (cd := cd_X12_names) rfl ?_
  have hls : largs 0 [aI 13] = [(0, aI 13)] := rfl
  rw [hls]
  clear hls
  refine g_iload_n rfl rfl ?_
  refine g_tsw (t := 99) rfl (by rfl) ?_
  refine g_sipush rfl ?_
  refine g_iret rfl ?_
  exact ⟨rfl, rfl⟩
theorem m_names14 {w : aW} {d : Nat} (hd : 1 ≤ d) (h : aH) : WP w d 322 [aI 14] h (RI (fun r h1 => h1 = h ∧ r = 0)) := by
  obtain ⟨d, rfl⟩ : ∃ d1, d = d1 + 1 := ⟨d - 1, by omega⟩
  refine WP.enter (cd := cd_X12_names) rfl ?_
  have hls : largs 0 [aI 14] = [(0, aI 14)] := rfl
  rw [hls]
  clear hls
  refine g_iload_n rfl rfl ?_
  refine g_tsw (t := 103) rfl (by rfl) ?_
  refine g_iconst rfl ?_
  refine g_iret rfl ?_
  exact ⟨rfl, rfl⟩
theorem m_named9 {w : aW} {d : Nat} (hd : 1 ≤ d) {h : aH} {o : Nat} (ms : MS h o) (V : Nat → Nat → Int) (t : Int) : WP w d 323 [aO (some o), aI t, aI 9] (hw h V) (RI (fun r h1 => h1 = hw h V ∧ r = 1)) := by
  obtain ⟨d, rfl⟩ : ∃ d1, d = d1 + 1 := ⟨d - 1, by omega⟩
  refine WP.enter (cd := cd_X12_isNamed) rfl ?_
  have hls : largs 0 [aO (some o), aI t, aI 9] = [(0, aO (some o)), (1, aI t), (2, aI 9)] := rfl
  rw [hls]
  clear hls
  refine g_iload_n rfl rfl ?_
  refine g_bipush rfl ?_
  refine g_icmp_eq_t rfl (by omega) ?_
  refine g_iconst rfl ?_
  refine g_goto rfl ?_
  refine g_zret rfl (by omega) ?_
  exact ⟨rfl, rfl⟩
set_option maxRecDepth 100000 in
set_option maxHeartbeats 4000000 in
theorem m_isNamed {w : aW} {d : Nat} (hd : 4 ≤ d) {h : aH} {o : Nat} (ms : MS h o) (V : Nat → Nat → Int) {S : aS} (ok : OkT S) (mt : MT V o S) (t : Int) (s : Int) (hy0 : s ≠ 9) : WP w d 323 [aO (some o), aI t, aI s] (hw h V) (RI (fun r h1 => h1 = hw h V ∧ r = if (0 ≤ t ∧ t < sT S) ∧ sTs S t.toNat = s then 1 else 0)) := by
  obtain ⟨d, rfl⟩ : ∃ d1, d = d1 + 1 := ⟨d - 1, by omega⟩
  refine WP.enter (cd := cd_X12_isNamed) rfl ?_
  have G0 := Gs.refl V o (fun _ => False)
  have hls : largs 0 [aO (some o), aI t, aI s] = [(0, aO (some o)), (1, aI t), (2, aI s)] := rfl
  rw [hls]
  clear hls
  refine g_iload_n rfl rfl ?_
  refine g_bipush rfl ?_
  refine g_icmp_eq_f rfl (by omega) ?_
  refine g_aload_n rfl rfl ?_
  refine g_iload_n rfl rfl ?_
  refine g_iload_n rfl rfl ?_
  refine g_callVI [aI t, aI s] [] rfl rfl rfl rfl (Nat.le_of_ble_eq_true rfl) ms.1 (m_is (by omega) ms V ok mt t s) ?_
  rintro r1 _ ⟨rfl, e2⟩
  rw [e2]
  clear e2 r1
  refine g_b_eq rfl (fun cq12 => ?_) (fun cq12 => ?_)
  · skip
    refine g_iconst rfl ?_
    refine g_zret rfl (by omega) ?_
    refine ⟨rfl, ?_⟩
    first
      | rw [if_pos (by omega)]
      | rw [if_neg (by omega)]
  · skip
    refine g_iconst rfl ?_
    refine g_goto rfl ?_
    refine g_zret rfl (by omega) ?_
    refine ⟨rfl, ?_⟩
    first
      | rw [if_pos (by omega)]
      | rw [if_neg (by omega)]
set_option maxRecDepth 100000 in
set_option maxHeartbeats 4000000 in
theorem m_holds0 {w : aW} {d : Nat} (hd : 10 ≤ d) {h : aH} {o : Nat} (ms : MS h o) (V : Nat → Nat → Int) {S : aS} (ok : OkT S) (mt : MT V o S) (a b c f : Int) : WP w d 324 [aO (some o), aI 0, aI a, aI b, aI c, aI f] (hw h V) (RI (fun r h1 => ∃ V1, h1 = hw h V1 ∧ FS V V1 o ∧ r = if isS S a 0 ∧ isS S b 0 ∧ isS S c 0 then (if m_det_S (tpR S a) (tpR S b) (tpR S c) = 0 then 1 else 0) else -1)) := by
  obtain ⟨d, rfl⟩ : ∃ d1, d = d1 + 1 := ⟨d - 1, by omega⟩
  refine WP.enter (cd := cd_X12_holds) rfl ?_
  have hn := ok.1
  have hls : largs 0 [aO (some o), aI 0, aI a, aI b, aI c, aI f] = [(0, aO (some o)), (1, aI 0), (2, aI a), (3, aI b), (4, aI c), (5, aI f)] := rfl
  rw [hls]
  clear hls
  refine g_aload_n rfl rfl ?_
  refine g_iconst rfl ?_
  refine g_putI rfl ms.1 ?_
  refine g_hp (h2 := hw h (vset V o 31 0)) rfl ?_
  refine g_aload_n rfl rfl ?_
  refine g_iconst rfl ?_
  refine g_putI rfl ms.1 ?_
  obtain ⟨V0, eV0⟩ : ∃ W, W = vset (vset V o 31 0) o 1 0 := ⟨_, rfl⟩
  refine g_hp (h2 := hw h V0) (by rw [eV0]; rfl) ?_
  have mt : MT V0 o S := by rw [eV0]; exact mt.rs
  have f0 : V0 o 1 = 0 := by rw [eV0]; exact vset_eq _ _ _ _
  have G0 := Gs.refl V0 o (fun q => q = o + 24 ∨ q = o + 25 ∨ q = o + 26 ∨ q = o + 27)
  refine g_iload_n rfl rfl ?_
  refine g_i2l rfl ?_
  refine g_lconst0 rfl ?_
  refine g_ldc2 rfl ?_
  refine g_callSI [aJ 0, aJ 0, aJ 14] [] rfl rfl rfl rfl (Nat.le_of_ble_eq_true rfl) (c_in (by omega) _ _ _ _) ?_
  rintro r1 _ ⟨rfl, rfl⟩
  refine g_b_ne rfl (fun cq19 => ?_) (fun cq19 => ?_)
  · skip
    refine g_iload_n rfl rfl ?_
    refine g_callSI [aI 0] [] rfl rfl rfl rfl (Nat.le_of_ble_eq_true rfl) (m_names0 (by omega) _) ?_
    rintro _ _ ⟨rfl, rfl⟩
    refine g_istore (l1 := [(6, aI 9), (0, aO (some o)), (1, aI 0), (2, aI a), (3, aI b), (4, aI c), (5, aI f)]) rfl rfl ?_
    refine g_aload_n rfl rfl ?_
    refine g_iload_n rfl rfl ?_
    refine g_iload rfl rfl ?_
    refine g_sipush rfl ?_
    refine g_idivN (m := 1000) (n := 9) rfl (by omega) (by omega) ?_
    refine g_top (v2 := aI 0) (congrArg aI (by rfl)) ?_
    refine g_callVI [aI a, aI 0] [] rfl rfl rfl rfl (Nat.le_of_ble_eq_true rfl) ms.1 (m_isNamed (by omega) ms V0 ok mt a 0 (by omega)) ?_
    rintro r2 _ ⟨rfl, e3⟩
    rw [e3]
    clear e3 r2
    refine g_b_eq rfl (fun cq41 => ?_) (fun cq41 => ?_)
    · skip
      refine g_iconst rfl ?_
      refine g_istore (l1 := [(7, aI 0), (6, aI 9), (0, aO (some o)), (1, aI 0), (2, aI a), (3, aI b), (4, aI c), (5, aI f)]) rfl rfl ?_
      refine g_iload rfl rfl ?_
      refine g_if_ne_f rfl (by omega) ?_
      refine g_iconst rfl ?_
      refine g_iret rfl ?_
      refine ⟨V0, rfl, (G0.wide (T2 := fun q => o + 24 ≤ q ∧ q ≤ o + 31) (fun q hq => by have hq : q = o + 24 ∨ q = o + 25 ∨ q = o + 26 ∨ q = o + 27 := hq; show o + 24 ≤ q ∧ q ≤ o + 31; omega)).fs (fun q hq => hq) eV0, ?_⟩
      exact (if_neg (by unfold isS; omega)).symm
    · skip
      refine g_aload_n rfl rfl ?_
      refine g_iload_n rfl rfl ?_
      refine g_iload rfl rfl ?_
      refine g_bipush rfl ?_
      refine g_idivN (m := 100) (n := 9) rfl (by omega) (by omega) ?_
      refine g_bipush rfl ?_
      refine g_iremN (m := 10) (n := (9 / 100)) rfl (by omega) ?_
      refine g_top (v2 := aI 0) (congrArg aI (by rfl)) ?_
      refine g_callVI [aI b, aI 0] [] rfl rfl rfl rfl (Nat.le_of_ble_eq_true rfl) ms.1 (m_isNamed (by omega) ms V0 ok mt b 0 (by omega)) ?_
      rintro r4 _ ⟨rfl, e5⟩
      rw [e5]
      clear e5 r4
      refine g_b_eq rfl (fun cq57 => ?_) (fun cq57 => ?_)
      · skip
        refine g_iconst rfl ?_
        refine g_istore (l1 := [(7, aI 0), (6, aI 9), (0, aO (some o)), (1, aI 0), (2, aI a), (3, aI b), (4, aI c), (5, aI f)]) rfl rfl ?_
        refine g_iload rfl rfl ?_
        refine g_if_ne_f rfl (by omega) ?_
        refine g_iconst rfl ?_
        refine g_iret rfl ?_
        refine ⟨V0, rfl, (G0.wide (T2 := fun q => o + 24 ≤ q ∧ q ≤ o + 31) (fun q hq => by have hq : q = o + 24 ∨ q = o + 25 ∨ q = o + 26 ∨ q = o + 27 := hq; show o + 24 ≤ q ∧ q ≤ o + 31; omega)).fs (fun q hq => hq) eV0, ?_⟩
        exact (if_neg (by unfold isS; omega)).symm
      · skip
        refine g_aload_n rfl rfl ?_
        refine g_iload rfl rfl ?_
        refine g_iload rfl rfl ?_
        refine g_bipush rfl ?_
        refine g_idivN (m := 10) (n := 9) rfl (by omega) (by omega) ?_
        refine g_bipush rfl ?_
        refine g_iremN (m := 10) (n := (9 / 10)) rfl (by omega) ?_
        refine g_top (v2 := aI 0) (congrArg aI (by rfl)) ?_
        refine g_callVI [aI c, aI 0] [] rfl rfl rfl rfl (Nat.le_of_ble_eq_true rfl) ms.1 (m_isNamed (by omega) ms V0 ok mt c 0 (by omega)) ?_
        rintro r6 _ ⟨rfl, e7⟩
        rw [e7]
        clear e7 r6
        refine g_b_eq rfl (fun cq74 => ?_) (fun cq74 => ?_)
        · skip
          refine g_iconst rfl ?_
          refine g_istore (l1 := [(7, aI 0), (6, aI 9), (0, aO (some o)), (1, aI 0), (2, aI a), (3, aI b), (4, aI c), (5, aI f)]) rfl rfl ?_
          refine g_iload rfl rfl ?_
          refine g_if_ne_f rfl (by omega) ?_
          refine g_iconst rfl ?_
          refine g_iret rfl ?_
          refine ⟨V0, rfl, (G0.wide (T2 := fun q => o + 24 ≤ q ∧ q ≤ o + 31) (fun q hq => by have hq : q = o + 24 ∨ q = o + 25 ∨ q = o + 26 ∨ q = o + 27 := hq; show o + 24 ≤ q ∧ q ≤ o + 31; omega)).fs (fun q hq => hq) eV0, ?_⟩
          exact (if_neg (by unfold isS; omega)).symm
        · skip
          refine g_aload_n rfl rfl ?_
          refine g_iload rfl rfl ?_
          refine g_iload rfl rfl ?_
          refine g_bipush rfl ?_
          refine g_iremN (m := 10) (n := 9) rfl (by omega) ?_
          refine g_top (v2 := aI 9) (congrArg aI (by rfl)) ?_
          refine g_callVI [aI f, aI 9] [] rfl rfl rfl rfl (Nat.le_of_ble_eq_true rfl) ms.1 (m_named9 (by omega) ms V0 f) ?_
          rintro r8 hx8 ⟨ehx8, rfl⟩
          rw [ehx8]
          clear ehx8 hx8
          refine g_if_eq_f rfl (by omega) ?_
          refine g_iconst rfl ?_
          refine g_goto rfl ?_
          refine g_istore (l1 := [(7, aI 1), (6, aI 9), (0, aO (some o)), (1, aI 0), (2, aI a), (3, aI b), (4, aI c), (5, aI f)]) rfl rfl ?_
          refine g_iload rfl rfl ?_
          refine g_if_ne_t rfl (by omega) ?_
          refine g_aload_n rfl rfl ?_
          have ha : 0 ≤ a ∧ a < sT S := by omega
          have hb : 0 ≤ b ∧ b < sT S := by omega
          have hc : 0 ≤ c ∧ c < sT S := by omega
          refine g_aload_n rfl rfl ?_
          refine g_getR rfl ms.1 (mr_one ms) ?_
          refine g_iload_n rfl rfl ?_
          refine g_callVN [aO (some (o + 24)), aI a] [] rfl rfl rfl rfl (Nat.le_of_ble_eq_true rfl) ms.1 (m_load (by omega) ms V0 ok mt (by have := G0.2.2.1; omega) ((o + 24)) (show SLa o ((o + 24)) by unfold SLa; omega) a ha) ?_
          rintro _ ⟨V9, rfl, g9, t9, u9, v9, y9, s9, xt9, xu9, xv9, xy9⟩
          have G_10 := G0.trans (g9.wide (fun q hq => by have hq : q = o + 24 := hq; show q = o + 24 ∨ q = o + 25 ∨ q = o + 26 ∨ q = o + 27; omega))
          refine g_aload_n rfl rfl ?_
          refine g_aload_n rfl rfl ?_
          refine g_getR rfl ms.1 (mr_two ms) ?_
          refine g_iload_n rfl rfl ?_
          refine g_callVN [aO (some (o + 25)), aI b] [] rfl rfl rfl rfl (Nat.le_of_ble_eq_true rfl) ms.1 (m_load (by omega) ms V9 ok (g9.mt (show ¬((o + 4) = o + 24) by omega) (show ¬((o + 5) = o + 24) by omega) mt) (by have := G_10.2.2.1; omega) ((o + 25)) (show SLa o ((o + 25)) by unfold SLa; omega) b hb) ?_
          rintro _ ⟨V11, rfl, g11, t11, u11, v11, y11, s11, xt11, xu11, xv11, xy11⟩
          have G_12 := G_10.trans (g11.wide (fun q hq => by have hq : q = o + 25 := hq; show q = o + 24 ∨ q = o + 25 ∨ q = o + 26 ∨ q = o + 27; omega))
          refine g_iload rfl rfl ?_
          refine g_bipush rfl ?_
          refine g_idivN (m := 10) (n := 9) rfl (by omega) (by omega) ?_
          refine g_bipush rfl ?_
          refine g_iremN (m := 10) (n := (9 / 10)) rfl (by omega) ?_
          refine g_top (v2 := aI 0) (congrArg aI (by rfl)) ?_
          refine g_bipush rfl ?_
          refine g_icmp_eq_f rfl (by omega) ?_
          refine g_iconst rfl ?_
          refine g_goto rfl ?_
          refine g_istore (l1 := [(8, aI 1), (7, aI 1), (6, aI 9), (0, aO (some o)), (1, aI 0), (2, aI a), (3, aI b), (4, aI c), (5, aI f)]) rfl rfl ?_
          refine g_aload_n rfl rfl ?_
          refine g_aload_n rfl rfl ?_
          refine g_getR rfl ms.1 (mr_three ms) ?_
          refine g_iload rfl rfl ?_
          refine g_if_eq_f rfl (by omega) ?_
          refine g_iload rfl rfl ?_
          refine g_goto rfl ?_
          refine g_callVN [aO (some (o + 26)), aI c] [] rfl rfl rfl rfl (Nat.le_of_ble_eq_true rfl) ms.1 (m_load (by omega) ms V11 ok (g11.mt (show ¬((o + 4) = o + 25) by omega) (show ¬((o + 5) = o + 25) by omega) (g9.mt (show ¬((o + 4) = o + 24) by omega) (show ¬((o + 5) = o + 24) by omega) mt)) (by have := G_12.2.2.1; omega) ((o + 26)) (show SLa o ((o + 26)) by unfold SLa; omega) c hc) ?_
          rintro _ ⟨V13, rfl, g13, t13, u13, v13, y13, s13, xt13, xu13, xv13, xy13⟩
          have G_14 := G_12.trans (g13.wide (fun q hq => by have hq : q = o + 26 := hq; show q = o + 24 ∨ q = o + 25 ∨ q = o + 26 ∨ q = o + 27; omega))
          refine g_aload_n rfl rfl ?_
          refine g_aload_n rfl rfl ?_
          refine g_getR rfl ms.1 (mr_four ms) ?_
          refine g_iload rfl rfl ?_
          refine g_bipush rfl ?_
          refine g_iremN (m := 10) (n := 9) rfl (by omega) ?_
          refine g_top (v2 := aI 9) (congrArg aI (by rfl)) ?_
          refine g_bipush rfl ?_
          refine g_icmp_eq_t rfl (by omega) ?_
          refine g_iload_n rfl rfl ?_
          refine g_callVN [aO (some (o + 27)), aI a] [] rfl rfl rfl rfl (Nat.le_of_ble_eq_true rfl) ms.1 (m_load (by omega) ms V13 ok (g13.mt (show ¬((o + 4) = o + 26) by omega) (show ¬((o + 5) = o + 26) by omega) (g11.mt (show ¬((o + 4) = o + 25) by omega) (show ¬((o + 5) = o + 25) by omega) (g9.mt (show ¬((o + 4) = o + 24) by omega) (show ¬((o + 5) = o + 24) by omega) mt))) (by have := G_14.2.2.1; omega) ((o + 27)) (show SLa o ((o + 27)) by unfold SLa; omega) a ha) ?_
          rintro _ ⟨V15, rfl, g15, t15, u15, v15, y15, s15, xt15, xu15, xv15, xy15⟩
          have G_16 := G_14.trans (g15.wide (fun q hq => by have hq : q = o + 27 := hq; show q = o + 24 ∨ q = o + 25 ∨ q = o + 26 ∨ q = o + 27; omega))
          refine g_aload_n rfl rfl ?_
          refine g_iload_n rfl rfl ?_
          refine g_iload_n rfl rfl ?_
          refine g_iload_n rfl rfl ?_
          refine g_iload rfl rfl ?_
          refine g_if_eq_f rfl (by omega) ?_
          refine g_iload rfl rfl ?_
          refine g_goto rfl ?_
          refine g_iload rfl rfl ?_
          refine g_bipush rfl ?_
          refine g_iremN (m := 10) (n := 9) rfl (by omega) ?_
          refine g_top (v2 := aI 9) (congrArg aI (by rfl)) ?_
          refine g_bipush rfl ?_
          refine g_icmp_eq_t rfl (by omega) ?_
          refine g_iload_n rfl rfl ?_
          refine g_callVI [aI 0, aI a, aI b, aI c, aI a] [] rfl rfl rfl rfl (Nat.le_of_ble_eq_true rfl) ms.1 (m_so0 (by omega) ms V15 ok (g15.mt (show ¬((o + 4) = o + 27) by omega) (show ¬((o + 5) = o + 27) by omega) (g13.mt (show ¬((o + 4) = o + 26) by omega) (show ¬((o + 5) = o + 26) by omega) (g11.mt (show ¬((o + 4) = o + 25) by omega) (show ¬((o + 5) = o + 25) by omega) (g9.mt (show ¬((o + 4) = o + 24) by omega) (show ¬((o + 5) = o + 24) by omega) mt)))) (by have := G_16.2.2.1; omega) (show SB V15 o (o + 24) (tpR S a) (20) from ⟨_, _, _, _, (g15.sa (show SLa o ((o + 24)) by unfold SLa; omega) (show ¬(o + 24 = o + 27) by omega) (g13.sa (show SLa o ((o + 24)) by unfold SLa; omega) (show ¬(o + 24 = o + 26) by omega) (g11.sa (show SLa o ((o + 24)) by unfold SLa; omega) (show ¬(o + 24 = o + 25) by omega) s9))), ((g15.rb (g13.rb (g11.rb xt9))).up (by omega)), ((g15.rb (g13.rb (g11.rb xu9))).up (by omega)), ((g15.rb (g13.rb (g11.rb xv9))).up (by omega)), ((g15.rb (g13.rb (g11.rb xy9))).up (by omega))⟩) (show SB V15 o (o + 25) (tpR S b) (20) from ⟨_, _, _, _, (g15.sa (show SLa o ((o + 25)) by unfold SLa; omega) (show ¬(o + 25 = o + 27) by omega) (g13.sa (show SLa o ((o + 25)) by unfold SLa; omega) (show ¬(o + 25 = o + 26) by omega) s11)), ((g15.rb (g13.rb xt11)).up (by omega)), ((g15.rb (g13.rb xu11)).up (by omega)), ((g15.rb (g13.rb xv11)).up (by omega)), ((g15.rb (g13.rb xy11)).up (by omega))⟩) (show SB V15 o (o + 26) (tpR S c) (20) from ⟨_, _, _, _, (g15.sa (show SLa o ((o + 26)) by unfold SLa; omega) (show ¬(o + 26 = o + 27) by omega) s13), ((g15.rb xt13).up (by omega)), ((g15.rb xu13).up (by omega)), ((g15.rb xv13).up (by omega)), ((g15.rb xy13).up (by omega))⟩) (show SB V15 o (o + 27) (tpR S a) (20) from ⟨_, _, _, _, s15, (xt15.up (by omega)), (xu15.up (by omega)), (xv15.up (by omega)), (xy15.up (by omega))⟩) a ha b hb c hc a ha) ?_
          rintro _ _ ⟨rfl, V17, rfl, g17⟩
          have G_18 := G_16.trans (g17.gs _)
          refine g_b_eq rfl (fun cq220 => ?_) (fun cq220 => ?_)
          · skip
            refine g_iconst rfl ?_
            refine g_iret rfl ?_
            refine ⟨_, rfl, (G_18.wide (T2 := fun q => o + 24 ≤ q ∧ q ≤ o + 31) (fun q hq => by have hq : q = o + 24 ∨ q = o + 25 ∨ q = o + 26 ∨ q = o + 27 := hq; show o + 24 ≤ q ∧ q ≤ o + 31; omega)).fs (fun q hq => hq) eV0, ?_⟩
            rw [if_pos (by unfold isS; omega)]
            first
              | exact (if_pos cq220).symm
              | exact (if_neg cq220).symm
          · skip
            refine g_iconst rfl ?_
            refine g_goto rfl ?_
            refine g_iret rfl ?_
            refine ⟨_, rfl, (G_18.wide (T2 := fun q => o + 24 ≤ q ∧ q ≤ o + 31) (fun q hq => by have hq : q = o + 24 ∨ q = o + 25 ∨ q = o + 26 ∨ q = o + 27 := hq; show o + 24 ≤ q ∧ q ≤ o + 31; omega)).fs (fun q hq => hq) eV0, ?_⟩
            rw [if_pos (by unfold isS; omega)]
            first
              | exact (if_pos cq220).symm
              | exact (if_neg cq220).symm
  · skip
    refine g_iconst rfl ?_
    refine g_iret rfl ?_
    refine ⟨V0, rfl, (G0.wide (T2 := fun q => o + 24 ≤ q ∧ q ≤ o + 31) (fun q hq => by have hq : q = o + 24 ∨ q = o + 25 ∨ q = o + 26 ∨ q = o + 27 := hq; show o + 24 ≤ q ∧ q ≤ o + 31; omega)).fs (fun q hq => hq) eV0, ?_⟩
    exact (if_neg (by unfold isS; omega)).symm
set_option maxRecDepth 100000 in
set_option maxHeartbeats 4000000 in
theorem m_holds1 {w : aW} {d : Nat} (hd : 10 ≤ d) {h : aH} {o : Nat} (ms : MS h o) (V : Nat → Nat → Int) {S : aS} (ok : OkT S) (mt : MT V o S) (a b c f : Int) : WP w d 324 [aO (some o), aI 1, aI a, aI b, aI c, aI f] (hw h V) (RI (fun r h1 => ∃ V1, h1 = hw h V1 ∧ FS V V1 o ∧ r = if isS S a 1 ∧ isS S b 1 ∧ isS S c 1 then (if m_det_S (tpR S a) (tpR S b) (tpR S c) = 0 then 1 else 0) else -1)) := by
  obtain ⟨d, rfl⟩ : ∃ d1, d = d1 + 1 := ⟨d - 1, by omega⟩
  refine WP.enter (cd := cd_X12_holds) rfl ?_
  have hn := ok.1
  have hls : largs 0 [aO (some o), aI 1, aI a, aI b, aI c, aI f] = [(0, aO (some o)), (1, aI 1), (2, aI a), (3, aI b), (4, aI c), (5, aI f)] := rfl
  rw [hls]
  clear hls
  refine g_aload_n rfl rfl ?_
  refine g_iconst rfl ?_
  refine g_putI rfl ms.1 ?_
  refine g_hp (h2 := hw h (vset V o 31 0)) rfl ?_
  refine g_aload_n rfl rfl ?_
  refine g_iconst rfl ?_
  refine g_putI rfl ms.1 ?_
  obtain ⟨V0, eV0⟩ : ∃ W, W = vset (vset V o 31 0) o 1 0 := ⟨_, rfl⟩
  refine g_hp (h2 := hw h V0) (by rw [eV0]; rfl) ?_
  have mt : MT V0 o S := by rw [eV0]; exact mt.rs
  have f0 : V0 o 1 = 0 := by rw [eV0]; exact vset_eq _ _ _ _
  have G0 := Gs.refl V0 o (fun q => q = o + 24 ∨ q = o + 25 ∨ q = o + 26 ∨ q = o + 27)
  refine g_iload_n rfl rfl ?_
  refine g_i2l rfl ?_
  refine g_lconst0 rfl ?_
  refine g_ldc2 rfl ?_
  refine g_callSI [aJ 1, aJ 0, aJ 14] [] rfl rfl rfl rfl (Nat.le_of_ble_eq_true rfl) (c_in (by omega) _ _ _ _) ?_
  rintro r1 _ ⟨rfl, rfl⟩
  refine g_b_ne rfl (fun cq19 => ?_) (fun cq19 => ?_)
  · skip
    refine g_iload_n rfl rfl ?_
    refine g_callSI [aI 1] [] rfl rfl rfl rfl (Nat.le_of_ble_eq_true rfl) (m_names1 (by omega) _) ?_
    rintro _ _ ⟨rfl, rfl⟩
    refine g_istore (l1 := [(6, aI 1119), (0, aO (some o)), (1, aI 1), (2, aI a), (3, aI b), (4, aI c), (5, aI f)]) rfl rfl ?_
    refine g_aload_n rfl rfl ?_
    refine g_iload_n rfl rfl ?_
    refine g_iload rfl rfl ?_
    refine g_sipush rfl ?_
    refine g_idivN (m := 1000) (n := 1119) rfl (by omega) (by omega) ?_
    refine g_top (v2 := aI 1) (congrArg aI (by rfl)) ?_
    refine g_callVI [aI a, aI 1] [] rfl rfl rfl rfl (Nat.le_of_ble_eq_true rfl) ms.1 (m_isNamed (by omega) ms V0 ok mt a 1 (by omega)) ?_
    rintro r2 _ ⟨rfl, e3⟩
    rw [e3]
    clear e3 r2
    refine g_b_eq rfl (fun cq41 => ?_) (fun cq41 => ?_)
    · skip
      refine g_iconst rfl ?_
      refine g_istore (l1 := [(7, aI 0), (6, aI 1119), (0, aO (some o)), (1, aI 1), (2, aI a), (3, aI b), (4, aI c), (5, aI f)]) rfl rfl ?_
      refine g_iload rfl rfl ?_
      refine g_if_ne_f rfl (by omega) ?_
      refine g_iconst rfl ?_
      refine g_iret rfl ?_
      refine ⟨V0, rfl, (G0.wide (T2 := fun q => o + 24 ≤ q ∧ q ≤ o + 31) (fun q hq => by have hq : q = o + 24 ∨ q = o + 25 ∨ q = o + 26 ∨ q = o + 27 := hq; show o + 24 ≤ q ∧ q ≤ o + 31; omega)).fs (fun q hq => hq) eV0, ?_⟩
      exact (if_neg (by unfold isS; omega)).symm
    · skip
      refine g_aload_n rfl rfl ?_
      refine g_iload_n rfl rfl ?_
      refine g_iload rfl rfl ?_
      refine g_bipush rfl ?_
      refine g_idivN (m := 100) (n := 1119) rfl (by omega) (by omega) ?_
      refine g_bipush rfl ?_
      refine g_iremN (m := 10) (n := (1119 / 100)) rfl (by omega) ?_
      refine g_top (v2 := aI 1) (congrArg aI (by rfl)) ?_
      refine g_callVI [aI b, aI 1] [] rfl rfl rfl rfl (Nat.le_of_ble_eq_true rfl) ms.1 (m_isNamed (by omega) ms V0 ok mt b 1 (by omega)) ?_
      rintro r4 _ ⟨rfl, e5⟩
      rw [e5]
      clear e5 r4
      refine g_b_eq rfl (fun cq57 => ?_) (fun cq57 => ?_)
      · skip
        refine g_iconst rfl ?_
        refine g_istore (l1 := [(7, aI 0), (6, aI 1119), (0, aO (some o)), (1, aI 1), (2, aI a), (3, aI b), (4, aI c), (5, aI f)]) rfl rfl ?_
        refine g_iload rfl rfl ?_
        refine g_if_ne_f rfl (by omega) ?_
        refine g_iconst rfl ?_
        refine g_iret rfl ?_
        refine ⟨V0, rfl, (G0.wide (T2 := fun q => o + 24 ≤ q ∧ q ≤ o + 31) (fun q hq => by have hq : q = o + 24 ∨ q = o + 25 ∨ q = o + 26 ∨ q = o + 27 := hq; show o + 24 ≤ q ∧ q ≤ o + 31; omega)).fs (fun q hq => hq) eV0, ?_⟩
        exact (if_neg (by unfold isS; omega)).symm
      · skip
        refine g_aload_n rfl rfl ?_
        refine g_iload rfl rfl ?_
        refine g_iload rfl rfl ?_
        refine g_bipush rfl ?_
        refine g_idivN (m := 10) (n := 1119) rfl (by omega) (by omega) ?_
        refine g_bipush rfl ?_
        refine g_iremN (m := 10) (n := (1119 / 10)) rfl (by omega) ?_
        refine g_top (v2 := aI 1) (congrArg aI (by rfl)) ?_
        refine g_callVI [aI c, aI 1] [] rfl rfl rfl rfl (Nat.le_of_ble_eq_true rfl) ms.1 (m_isNamed (by omega) ms V0 ok mt c 1 (by omega)) ?_
        rintro r6 _ ⟨rfl, e7⟩
        rw [e7]
        clear e7 r6
        refine g_b_eq rfl (fun cq74 => ?_) (fun cq74 => ?_)
        · skip
          refine g_iconst rfl ?_
          refine g_istore (l1 := [(7, aI 0), (6, aI 1119), (0, aO (some o)), (1, aI 1), (2, aI a), (3, aI b), (4, aI c), (5, aI f)]) rfl rfl ?_
          refine g_iload rfl rfl ?_
          refine g_if_ne_f rfl (by omega) ?_
          refine g_iconst rfl ?_
          refine g_iret rfl ?_
          refine ⟨V0, rfl, (G0.wide (T2 := fun q => o + 24 ≤ q ∧ q ≤ o + 31) (fun q hq => by have hq : q = o + 24 ∨ q = o + 25 ∨ q = o + 26 ∨ q = o + 27 := hq; show o + 24 ≤ q ∧ q ≤ o + 31; omega)).fs (fun q hq => hq) eV0, ?_⟩
          exact (if_neg (by unfold isS; omega)).symm
        · skip
          refine g_aload_n rfl rfl ?_
          refine g_iload rfl rfl ?_
          refine g_iload rfl rfl ?_
          refine g_bipush rfl ?_
          refine g_iremN (m := 10) (n := 1119) rfl (by omega) ?_
          refine g_top (v2 := aI 9) (congrArg aI (by rfl)) ?_
          refine g_callVI [aI f, aI 9] [] rfl rfl rfl rfl (Nat.le_of_ble_eq_true rfl) ms.1 (m_named9 (by omega) ms V0 f) ?_
          rintro r8 hx8 ⟨ehx8, rfl⟩
          rw [ehx8]
          clear ehx8 hx8
          refine g_if_eq_f rfl (by omega) ?_
          refine g_iconst rfl ?_
          refine g_goto rfl ?_
          refine g_istore (l1 := [(7, aI 1), (6, aI 1119), (0, aO (some o)), (1, aI 1), (2, aI a), (3, aI b), (4, aI c), (5, aI f)]) rfl rfl ?_
          refine g_iload rfl rfl ?_
          refine g_if_ne_t rfl (by omega) ?_
          refine g_aload_n rfl rfl ?_
          have ha : 0 ≤ a ∧ a < sT S := by omega
          have hb : 0 ≤ b ∧ b < sT S := by omega
          have hc : 0 ≤ c ∧ c < sT S := by omega
          refine g_aload_n rfl rfl ?_
          refine g_getR rfl ms.1 (mr_one ms) ?_
          refine g_iload_n rfl rfl ?_
          refine g_callVN [aO (some (o + 24)), aI a] [] rfl rfl rfl rfl (Nat.le_of_ble_eq_true rfl) ms.1 (m_load (by omega) ms V0 ok mt (by have := G0.2.2.1; omega) ((o + 24)) (show SLa o ((o + 24)) by unfold SLa; omega) a ha) ?_
          rintro _ ⟨V9, rfl, g9, t9, u9, v9, y9, s9, xt9, xu9, xv9, xy9⟩
          have G_10 := G0.trans (g9.wide (fun q hq => by have hq : q = o + 24 := hq; show q = o + 24 ∨ q = o + 25 ∨ q = o + 26 ∨ q = o + 27; omega))
          refine g_aload_n rfl rfl ?_
          refine g_aload_n rfl rfl ?_
          refine g_getR rfl ms.1 (mr_two ms) ?_
          refine g_iload_n rfl rfl ?_
          refine g_callVN [aO (some (o + 25)), aI b] [] rfl rfl rfl rfl (Nat.le_of_ble_eq_true rfl) ms.1 (m_load (by omega) ms V9 ok (g9.mt (show ¬((o + 4) = o + 24) by omega) (show ¬((o + 5) = o + 24) by omega) mt) (by have := G_10.2.2.1; omega) ((o + 25)) (show SLa o ((o + 25)) by unfold SLa; omega) b hb) ?_
          rintro _ ⟨V11, rfl, g11, t11, u11, v11, y11, s11, xt11, xu11, xv11, xy11⟩
          have G_12 := G_10.trans (g11.wide (fun q hq => by have hq : q = o + 25 := hq; show q = o + 24 ∨ q = o + 25 ∨ q = o + 26 ∨ q = o + 27; omega))
          refine g_iload rfl rfl ?_
          refine g_bipush rfl ?_
          refine g_idivN (m := 10) (n := 1119) rfl (by omega) (by omega) ?_
          refine g_bipush rfl ?_
          refine g_iremN (m := 10) (n := (1119 / 10)) rfl (by omega) ?_
          refine g_top (v2 := aI 1) (congrArg aI (by rfl)) ?_
          refine g_bipush rfl ?_
          refine g_icmp_eq_f rfl (by omega) ?_
          refine g_iconst rfl ?_
          refine g_goto rfl ?_
          refine g_istore (l1 := [(8, aI 1), (7, aI 1), (6, aI 1119), (0, aO (some o)), (1, aI 1), (2, aI a), (3, aI b), (4, aI c), (5, aI f)]) rfl rfl ?_
          refine g_aload_n rfl rfl ?_
          refine g_aload_n rfl rfl ?_
          refine g_getR rfl ms.1 (mr_three ms) ?_
          refine g_iload rfl rfl ?_
          refine g_if_eq_f rfl (by omega) ?_
          refine g_iload rfl rfl ?_
          refine g_goto rfl ?_
          refine g_callVN [aO (some (o + 26)), aI c] [] rfl rfl rfl rfl (Nat.le_of_ble_eq_true rfl) ms.1 (m_load (by omega) ms V11 ok (g11.mt (show ¬((o + 4) = o + 25) by omega) (show ¬((o + 5) = o + 25) by omega) (g9.mt (show ¬((o + 4) = o + 24) by omega) (show ¬((o + 5) = o + 24) by omega) mt)) (by have := G_12.2.2.1; omega) ((o + 26)) (show SLa o ((o + 26)) by unfold SLa; omega) c hc) ?_
          rintro _ ⟨V13, rfl, g13, t13, u13, v13, y13, s13, xt13, xu13, xv13, xy13⟩
          have G_14 := G_12.trans (g13.wide (fun q hq => by have hq : q = o + 26 := hq; show q = o + 24 ∨ q = o + 25 ∨ q = o + 26 ∨ q = o + 27; omega))
          refine g_aload_n rfl rfl ?_
          refine g_aload_n rfl rfl ?_
          refine g_getR rfl ms.1 (mr_four ms) ?_
          refine g_iload rfl rfl ?_
          refine g_bipush rfl ?_
          refine g_iremN (m := 10) (n := 1119) rfl (by omega) ?_
          refine g_top (v2 := aI 9) (congrArg aI (by rfl)) ?_
          refine g_bipush rfl ?_
          refine g_icmp_eq_t rfl (by omega) ?_
          refine g_iload_n rfl rfl ?_
          refine g_callVN [aO (some (o + 27)), aI a] [] rfl rfl rfl rfl (Nat.le_of_ble_eq_true rfl) ms.1 (m_load (by omega) ms V13 ok (g13.mt (show ¬((o + 4) = o + 26) by omega) (show ¬((o + 5) = o + 26) by omega) (g11.mt (show ¬((o + 4) = o + 25) by omega) (show ¬((o + 5) = o + 25) by omega) (g9.mt (show ¬((o + 4) = o + 24) by omega) (show ¬((o + 5) = o + 24) by omega) mt))) (by have := G_14.2.2.1; omega) ((o + 27)) (show SLa o ((o + 27)) by unfold SLa; omega) a ha) ?_
          rintro _ ⟨V15, rfl, g15, t15, u15, v15, y15, s15, xt15, xu15, xv15, xy15⟩
          have G_16 := G_14.trans (g15.wide (fun q hq => by have hq : q = o + 27 := hq; show q = o + 24 ∨ q = o + 25 ∨ q = o + 26 ∨ q = o + 27; omega))
          refine g_aload_n rfl rfl ?_
          refine g_iload_n rfl rfl ?_
          refine g_iload_n rfl rfl ?_
          refine g_iload_n rfl rfl ?_
          refine g_iload rfl rfl ?_
          refine g_if_eq_f rfl (by omega) ?_
          refine g_iload rfl rfl ?_
          refine g_goto rfl ?_
          refine g_iload rfl rfl ?_
          refine g_bipush rfl ?_
          refine g_iremN (m := 10) (n := 1119) rfl (by omega) ?_
          refine g_top (v2 := aI 9) (congrArg aI (by rfl)) ?_
          refine g_bipush rfl ?_
          refine g_icmp_eq_t rfl (by omega) ?_
          refine g_iload_n rfl rfl ?_
          refine g_callVI [aI 1, aI a, aI b, aI c, aI a] [] rfl rfl rfl rfl (Nat.le_of_ble_eq_true rfl) ms.1 (m_so1 (by omega) ms V15 ok (g15.mt (show ¬((o + 4) = o + 27) by omega) (show ¬((o + 5) = o + 27) by omega) (g13.mt (show ¬((o + 4) = o + 26) by omega) (show ¬((o + 5) = o + 26) by omega) (g11.mt (show ¬((o + 4) = o + 25) by omega) (show ¬((o + 5) = o + 25) by omega) (g9.mt (show ¬((o + 4) = o + 24) by omega) (show ¬((o + 5) = o + 24) by omega) mt)))) (by have := G_16.2.2.1; omega) (show SB V15 o (o + 24) (tpR S a) (20) from ⟨_, _, _, _, (g15.sa (show SLa o ((o + 24)) by unfold SLa; omega) (show ¬(o + 24 = o + 27) by omega) (g13.sa (show SLa o ((o + 24)) by unfold SLa; omega) (show ¬(o + 24 = o + 26) by omega) (g11.sa (show SLa o ((o + 24)) by unfold SLa; omega) (show ¬(o + 24 = o + 25) by omega) s9))), ((g15.rb (g13.rb (g11.rb xt9))).up (by omega)), ((g15.rb (g13.rb (g11.rb xu9))).up (by omega)), ((g15.rb (g13.rb (g11.rb xv9))).up (by omega)), ((g15.rb (g13.rb (g11.rb xy9))).up (by omega))⟩) (show SB V15 o (o + 25) (tpR S b) (20) from ⟨_, _, _, _, (g15.sa (show SLa o ((o + 25)) by unfold SLa; omega) (show ¬(o + 25 = o + 27) by omega) (g13.sa (show SLa o ((o + 25)) by unfold SLa; omega) (show ¬(o + 25 = o + 26) by omega) s11)), ((g15.rb (g13.rb xt11)).up (by omega)), ((g15.rb (g13.rb xu11)).up (by omega)), ((g15.rb (g13.rb xv11)).up (by omega)), ((g15.rb (g13.rb xy11)).up (by omega))⟩) (show SB V15 o (o + 26) (tpR S c) (20) from ⟨_, _, _, _, (g15.sa (show SLa o ((o + 26)) by unfold SLa; omega) (show ¬(o + 26 = o + 27) by omega) s13), ((g15.rb xt13).up (by omega)), ((g15.rb xu13).up (by omega)), ((g15.rb xv13).up (by omega)), ((g15.rb xy13).up (by omega))⟩) (show SB V15 o (o + 27) (tpR S a) (20) from ⟨_, _, _, _, s15, (xt15.up (by omega)), (xu15.up (by omega)), (xv15.up (by omega)), (xy15.up (by omega))⟩) a ha b hb c hc a ha) ?_
          rintro _ _ ⟨rfl, V17, rfl, g17⟩
          have G_18 := G_16.trans (g17.gs _)
          refine g_b_eq rfl (fun cq220 => ?_) (fun cq220 => ?_)
          · skip
            refine g_iconst rfl ?_
            refine g_iret rfl ?_
            refine ⟨_, rfl, (G_18.wide (T2 := fun q => o + 24 ≤ q ∧ q ≤ o + 31) (fun q hq => by have hq : q = o + 24 ∨ q = o + 25 ∨ q = o + 26 ∨ q = o + 27 := hq; show o + 24 ≤ q ∧ q ≤ o + 31; omega)).fs (fun q hq => hq) eV0, ?_⟩
            rw [if_pos (by unfold isS; omega)]
            first
              | exact (if_pos cq220).symm
              | exact (if_neg cq220).symm
          · skip
            refine g_iconst rfl ?_
            refine g_goto rfl ?_
            refine g_iret rfl ?_
            refine ⟨_, rfl, (G_18.wide (T2 := fun q => o + 24 ≤ q ∧ q ≤ o + 31) (fun q hq => by have hq : q = o + 24 ∨ q = o + 25 ∨ q = o + 26 ∨ q = o + 27 := hq; show o + 24 ≤ q ∧ q ≤ o + 31; omega)).fs (fun q hq => hq) eV0, ?_⟩
            rw [if_pos (by unfold isS; omega)]
            first
              | exact (if_pos cq220).symm
              | exact (if_neg cq220).symm
  · skip
    refine g_iconst rfl ?_
    refine g_iret rfl ?_
    refine ⟨V0, rfl, (G0.wide (T2 := fun q => o + 24 ≤ q ∧ q ≤ o + 31) (fun q hq => by have hq : q = o + 24 ∨ q = o + 25 ∨ q = o + 26 ∨ q = o + 27 := hq; show o + 24 ≤ q ∧ q ≤ o + 31; omega)).fs (fun q hq => hq) eV0, ?_⟩
    exact (if_neg (by unfold isS; omega)).symm
set_option maxRecDepth 100000 in
set_option maxHeartbeats 4000000 in
theorem m_holds2 {w : aW} {d : Nat} (hd : 10 ≤ d) {h : aH} {o : Nat} (ms : MS h o) (V : Nat → Nat → Int) {S : aS} (ok : OkT S) (mt : MT V o S) (a b c f : Int) : WP w d 324 [aO (some o), aI 2, aI a, aI b, aI c, aI f] (hw h V) (RI (fun r h1 => ∃ V1, h1 = hw h V1 ∧ FS V V1 o ∧ r = if isS S a 0 ∧ isS S b 1 then (if m_dot_S (tpR S a) (tpR S b) = 0 then 1 else 0) else -1)) := by
  obtain ⟨d, rfl⟩ : ∃ d1, d = d1 + 1 := ⟨d - 1, by omega⟩
  refine WP.enter (cd := cd_X12_holds) rfl ?_
  have hn := ok.1
  have hls : largs 0 [aO (some o), aI 2, aI a, aI b, aI c, aI f] = [(0, aO (some o)), (1, aI 2), (2, aI a), (3, aI b), (4, aI c), (5, aI f)] := rfl
  rw [hls]
  clear hls
  refine g_aload_n rfl rfl ?_
  refine g_iconst rfl ?_
  refine g_putI rfl ms.1 ?_
  refine g_hp (h2 := hw h (vset V o 31 0)) rfl ?_
  refine g_aload_n rfl rfl ?_
  refine g_iconst rfl ?_
  refine g_putI rfl ms.1 ?_
  obtain ⟨V0, eV0⟩ : ∃ W, W = vset (vset V o 31 0) o 1 0 := ⟨_, rfl⟩
  refine g_hp (h2 := hw h V0) (by rw [eV0]; rfl) ?_
  have mt : MT V0 o S := by rw [eV0]; exact mt.rs
  have f0 : V0 o 1 = 0 := by rw [eV0]; exact vset_eq _ _ _ _
  have G0 := Gs.refl V0 o (fun q => q = o + 24 ∨ q = o + 25 ∨ q = o + 26 ∨ q = o + 27)
  refine g_iload_n rfl rfl ?_
  refine g_i2l rfl ?_
  refine g_lconst0 rfl ?_
  refine g_ldc2 rfl ?_
  refine g_callSI [aJ 2, aJ 0, aJ 14] [] rfl rfl rfl rfl (Nat.le_of_ble_eq_true rfl) (c_in (by omega) _ _ _ _) ?_
  rintro r1 _ ⟨rfl, rfl⟩
  refine g_b_ne rfl (fun cq19 => ?_) (fun cq19 => ?_)
  · skip
    refine g_iload_n rfl rfl ?_
    refine g_callSI [aI 2] [] rfl rfl rfl rfl (Nat.le_of_ble_eq_true rfl) (m_names2 (by omega) _) ?_
    rintro _ _ ⟨rfl, rfl⟩
    refine g_istore (l1 := [(6, aI 199), (0, aO (some o)), (1, aI 2), (2, aI a), (3, aI b), (4, aI c), (5, aI f)]) rfl rfl ?_
    refine g_aload_n rfl rfl ?_
    refine g_iload_n rfl rfl ?_
    refine g_iload rfl rfl ?_
    refine g_sipush rfl ?_
    refine g_idivN (m := 1000) (n := 199) rfl (by omega) (by omega) ?_
    refine g_top (v2 := aI 0) (congrArg aI (by rfl)) ?_
    refine g_callVI [aI a, aI 0] [] rfl rfl rfl rfl (Nat.le_of_ble_eq_true rfl) ms.1 (m_isNamed (by omega) ms V0 ok mt a 0 (by omega)) ?_
    rintro r2 _ ⟨rfl, e3⟩
    rw [e3]
    clear e3 r2
    refine g_b_eq rfl (fun cq41 => ?_) (fun cq41 => ?_)
    · skip
      refine g_iconst rfl ?_
      refine g_istore (l1 := [(7, aI 0), (6, aI 199), (0, aO (some o)), (1, aI 2), (2, aI a), (3, aI b), (4, aI c), (5, aI f)]) rfl rfl ?_
      refine g_iload rfl rfl ?_
      refine g_if_ne_f rfl (by omega) ?_
      refine g_iconst rfl ?_
      refine g_iret rfl ?_
      refine ⟨V0, rfl, (G0.wide (T2 := fun q => o + 24 ≤ q ∧ q ≤ o + 31) (fun q hq => by have hq : q = o + 24 ∨ q = o + 25 ∨ q = o + 26 ∨ q = o + 27 := hq; show o + 24 ≤ q ∧ q ≤ o + 31; omega)).fs (fun q hq => hq) eV0, ?_⟩
      exact (if_neg (by unfold isS; omega)).symm
    · skip
      refine g_aload_n rfl rfl ?_
      refine g_iload_n rfl rfl ?_
      refine g_iload rfl rfl ?_
      refine g_bipush rfl ?_
      refine g_idivN (m := 100) (n := 199) rfl (by omega) (by omega) ?_
      refine g_bipush rfl ?_
      refine g_iremN (m := 10) (n := (199 / 100)) rfl (by omega) ?_
      refine g_top (v2 := aI 1) (congrArg aI (by rfl)) ?_
      refine g_callVI [aI b, aI 1] [] rfl rfl rfl rfl (Nat.le_of_ble_eq_true rfl) ms.1 (m_isNamed (by omega) ms V0 ok mt b 1 (by omega)) ?_
      rintro r4 _ ⟨rfl, e5⟩
      rw [e5]
      clear e5 r4
      refine g_b_eq rfl (fun cq57 => ?_) (fun cq57 => ?_)
      · skip
        refine g_iconst rfl ?_
        refine g_istore (l1 := [(7, aI 0), (6, aI 199), (0, aO (some o)), (1, aI 2), (2, aI a), (3, aI b), (4, aI c), (5, aI f)]) rfl rfl ?_
        refine g_iload rfl rfl ?_
        refine g_if_ne_f rfl (by omega) ?_
        refine g_iconst rfl ?_
        refine g_iret rfl ?_
        refine ⟨V0, rfl, (G0.wide (T2 := fun q => o + 24 ≤ q ∧ q ≤ o + 31) (fun q hq => by have hq : q = o + 24 ∨ q = o + 25 ∨ q = o + 26 ∨ q = o + 27 := hq; show o + 24 ≤ q ∧ q ≤ o + 31; omega)).fs (fun q hq => hq) eV0, ?_⟩
        exact (if_neg (by unfold isS; omega)).symm
      · skip
        refine g_aload_n rfl rfl ?_
        refine g_iload rfl rfl ?_
        refine g_iload rfl rfl ?_
        refine g_bipush rfl ?_
        refine g_idivN (m := 10) (n := 199) rfl (by omega) (by omega) ?_
        refine g_bipush rfl ?_
        refine g_iremN (m := 10) (n := (199 / 10)) rfl (by omega) ?_
        refine g_top (v2 := aI 9) (congrArg aI (by rfl)) ?_
        refine g_callVI [aI c, aI 9] [] rfl rfl rfl rfl (Nat.le_of_ble_eq_true rfl) ms.1 (m_named9 (by omega) ms V0 c) ?_
        rintro r6 hx6 ⟨ehx6, rfl⟩
        rw [ehx6]
        clear ehx6 hx6
        refine g_if_eq_f rfl (by omega) ?_
        refine g_aload_n rfl rfl ?_
        refine g_iload rfl rfl ?_
        refine g_iload rfl rfl ?_
        refine g_bipush rfl ?_
        refine g_iremN (m := 10) (n := 199) rfl (by omega) ?_
        refine g_top (v2 := aI 9) (congrArg aI (by rfl)) ?_
        refine g_callVI [aI f, aI 9] [] rfl rfl rfl rfl (Nat.le_of_ble_eq_true rfl) ms.1 (m_named9 (by omega) ms V0 f) ?_
        rintro r7 hx7 ⟨ehx7, rfl⟩
        rw [ehx7]
        clear ehx7 hx7
        refine g_if_eq_f rfl (by omega) ?_
        refine g_iconst rfl ?_
        refine g_goto rfl ?_
        refine g_istore (l1 := [(7, aI 1), (6, aI 199), (0, aO (some o)), (1, aI 2), (2, aI a), (3, aI b), (4, aI c), (5, aI f)]) rfl rfl ?_
        refine g_iload rfl rfl ?_
        refine g_if_ne_t rfl (by omega) ?_
        refine g_aload_n rfl rfl ?_
        have ha : 0 ≤ a ∧ a < sT S := by omega
        have hb : 0 ≤ b ∧ b < sT S := by omega
        refine g_aload_n rfl rfl ?_
        refine g_getR rfl ms.1 (mr_one ms) ?_
        refine g_iload_n rfl rfl ?_
        refine g_callVN [aO (some (o + 24)), aI a] [] rfl rfl rfl rfl (Nat.le_of_ble_eq_true rfl) ms.1 (m_load (by omega) ms V0 ok mt (by have := G0.2.2.1; omega) ((o + 24)) (show SLa o ((o + 24)) by unfold SLa; omega) a ha) ?_
        rintro _ ⟨V8, rfl, g8, t8, u8, v8, y8, s8, xt8, xu8, xv8, xy8⟩
        have G_9 := G0.trans (g8.wide (fun q hq => by have hq : q = o + 24 := hq; show q = o + 24 ∨ q = o + 25 ∨ q = o + 26 ∨ q = o + 27; omega))
        refine g_aload_n rfl rfl ?_
        refine g_aload_n rfl rfl ?_
        refine g_getR rfl ms.1 (mr_two ms) ?_
        refine g_iload_n rfl rfl ?_
        refine g_callVN [aO (some (o + 25)), aI b] [] rfl rfl rfl rfl (Nat.le_of_ble_eq_true rfl) ms.1 (m_load (by omega) ms V8 ok (g8.mt (show ¬((o + 4) = o + 24) by omega) (show ¬((o + 5) = o + 24) by omega) mt) (by have := G_9.2.2.1; omega) ((o + 25)) (show SLa o ((o + 25)) by unfold SLa; omega) b hb) ?_
        rintro _ ⟨V10, rfl, g10, t10, u10, v10, y10, s10, xt10, xu10, xv10, xy10⟩
        have G_11 := G_9.trans (g10.wide (fun q hq => by have hq : q = o + 25 := hq; show q = o + 24 ∨ q = o + 25 ∨ q = o + 26 ∨ q = o + 27; omega))
        refine g_iload rfl rfl ?_
        refine g_bipush rfl ?_
        refine g_idivN (m := 10) (n := 199) rfl (by omega) (by omega) ?_
        refine g_bipush rfl ?_
        refine g_iremN (m := 10) (n := (199 / 10)) rfl (by omega) ?_
        refine g_top (v2 := aI 9) (congrArg aI (by rfl)) ?_
        refine g_bipush rfl ?_
        refine g_icmp_eq_t rfl (by omega) ?_
        refine g_iconst rfl ?_
        refine g_istore (l1 := [(8, aI 0), (7, aI 1), (6, aI 199), (0, aO (some o)), (1, aI 2), (2, aI a), (3, aI b), (4, aI c), (5, aI f)]) rfl rfl ?_
        refine g_aload_n rfl rfl ?_
        refine g_aload_n rfl rfl ?_
        refine g_getR rfl ms.1 (mr_three ms) ?_
        refine g_iload rfl rfl ?_
        refine g_if_eq_t rfl (by omega) ?_
        refine g_iload_n rfl rfl ?_
        refine g_callVN [aO (some (o + 26)), aI a] [] rfl rfl rfl rfl (Nat.le_of_ble_eq_true rfl) ms.1 (m_load (by omega) ms V10 ok (g10.mt (show ¬((o + 4) = o + 25) by omega) (show ¬((o + 5) = o + 25) by omega) (g8.mt (show ¬((o + 4) = o + 24) by omega) (show ¬((o + 5) = o + 24) by omega) mt)) (by have := G_11.2.2.1; omega) ((o + 26)) (show SLa o ((o + 26)) by unfold SLa; omega) a ha) ?_
        rintro _ ⟨V12, rfl, g12, t12, u12, v12, y12, s12, xt12, xu12, xv12, xy12⟩
        have G_13 := G_11.trans (g12.wide (fun q hq => by have hq : q = o + 26 := hq; show q = o + 24 ∨ q = o + 25 ∨ q = o + 26 ∨ q = o + 27; omega))
        refine g_aload_n rfl rfl ?_
        refine g_aload_n rfl rfl ?_
        refine g_getR rfl ms.1 (mr_four ms) ?_
        refine g_iload rfl rfl ?_
        refine g_bipush rfl ?_
        refine g_iremN (m := 10) (n := 199) rfl (by omega) ?_
        refine g_top (v2 := aI 9) (congrArg aI (by rfl)) ?_
        refine g_bipush rfl ?_
        refine g_icmp_eq_t rfl (by omega) ?_
        refine g_iload_n rfl rfl ?_
        refine g_callVN [aO (some (o + 27)), aI a] [] rfl rfl rfl rfl (Nat.le_of_ble_eq_true rfl) ms.1 (m_load (by omega) ms V12 ok (g12.mt (show ¬((o + 4) = o + 26) by omega) (show ¬((o + 5) = o + 26) by omega) (g10.mt (show ¬((o + 4) = o + 25) by omega) (show ¬((o + 5) = o + 25) by omega) (g8.mt (show ¬((o + 4) = o + 24) by omega) (show ¬((o + 5) = o + 24) by omega) mt))) (by have := G_13.2.2.1; omega) ((o + 27)) (show SLa o ((o + 27)) by unfold SLa; omega) a ha) ?_
        rintro _ ⟨V14, rfl, g14, t14, u14, v14, y14, s14, xt14, xu14, xv14, xy14⟩
        have G_15 := G_13.trans (g14.wide (fun q hq => by have hq : q = o + 27 := hq; show q = o + 24 ∨ q = o + 25 ∨ q = o + 26 ∨ q = o + 27; omega))
        refine g_aload_n rfl rfl ?_
        refine g_iload_n rfl rfl ?_
        refine g_iload_n rfl rfl ?_
        refine g_iload_n rfl rfl ?_
        refine g_iload rfl rfl ?_
        refine g_if_eq_t rfl (by omega) ?_
        refine g_iload_n rfl rfl ?_
        refine g_iload rfl rfl ?_
        refine g_bipush rfl ?_
        refine g_iremN (m := 10) (n := 199) rfl (by omega) ?_
        refine g_top (v2 := aI 9) (congrArg aI (by rfl)) ?_
        refine g_bipush rfl ?_
        refine g_icmp_eq_t rfl (by omega) ?_
        refine g_iload_n rfl rfl ?_
        refine g_callVI [aI 2, aI a, aI b, aI a, aI a] [] rfl rfl rfl rfl (Nat.le_of_ble_eq_true rfl) ms.1 (m_so2 (by omega) ms V14 ok (g14.mt (show ¬((o + 4) = o + 27) by omega) (show ¬((o + 5) = o + 27) by omega) (g12.mt (show ¬((o + 4) = o + 26) by omega) (show ¬((o + 5) = o + 26) by omega) (g10.mt (show ¬((o + 4) = o + 25) by omega) (show ¬((o + 5) = o + 25) by omega) (g8.mt (show ¬((o + 4) = o + 24) by omega) (show ¬((o + 5) = o + 24) by omega) mt)))) (by have := G_15.2.2.1; omega) (show SB V14 o (o + 24) (tpR S a) (20) from ⟨_, _, _, _, (g14.sa (show SLa o ((o + 24)) by unfold SLa; omega) (show ¬(o + 24 = o + 27) by omega) (g12.sa (show SLa o ((o + 24)) by unfold SLa; omega) (show ¬(o + 24 = o + 26) by omega) (g10.sa (show SLa o ((o + 24)) by unfold SLa; omega) (show ¬(o + 24 = o + 25) by omega) s8))), ((g14.rb (g12.rb (g10.rb xt8))).up (by omega)), ((g14.rb (g12.rb (g10.rb xu8))).up (by omega)), ((g14.rb (g12.rb (g10.rb xv8))).up (by omega)), ((g14.rb (g12.rb (g10.rb xy8))).up (by omega))⟩) (show SB V14 o (o + 25) (tpR S b) (20) from ⟨_, _, _, _, (g14.sa (show SLa o ((o + 25)) by unfold SLa; omega) (show ¬(o + 25 = o + 27) by omega) (g12.sa (show SLa o ((o + 25)) by unfold SLa; omega) (show ¬(o + 25 = o + 26) by omega) s10)), ((g14.rb (g12.rb xt10)).up (by omega)), ((g14.rb (g12.rb xu10)).up (by omega)), ((g14.rb (g12.rb xv10)).up (by omega)), ((g14.rb (g12.rb xy10)).up (by omega))⟩) (show SB V14 o (o + 26) (tpR S a) (20) from ⟨_, _, _, _, (g14.sa (show SLa o ((o + 26)) by unfold SLa; omega) (show ¬(o + 26 = o + 27) by omega) s12), ((g14.rb xt12).up (by omega)), ((g14.rb xu12).up (by omega)), ((g14.rb xv12).up (by omega)), ((g14.rb xy12).up (by omega))⟩) (show SB V14 o (o + 27) (tpR S a) (20) from ⟨_, _, _, _, s14, (xt14.up (by omega)), (xu14.up (by omega)), (xv14.up (by omega)), (xy14.up (by omega))⟩) a ha b hb a ha a ha) ?_
        rintro _ _ ⟨rfl, V16, rfl, g16⟩
        have G_17 := G_15.trans (g16.gs _)
        refine g_b_eq rfl (fun cq220 => ?_) (fun cq220 => ?_)
        · skip
          refine g_iconst rfl ?_
          refine g_iret rfl ?_
          refine ⟨_, rfl, (G_17.wide (T2 := fun q => o + 24 ≤ q ∧ q ≤ o + 31) (fun q hq => by have hq : q = o + 24 ∨ q = o + 25 ∨ q = o + 26 ∨ q = o + 27 := hq; show o + 24 ≤ q ∧ q ≤ o + 31; omega)).fs (fun q hq => hq) eV0, ?_⟩
          rw [if_pos (by unfold isS; omega)]
          first
            | exact (if_pos cq220).symm
            | exact (if_neg cq220).symm
        · skip
          refine g_iconst rfl ?_
          refine g_goto rfl ?_
          refine g_iret rfl ?_
          refine ⟨_, rfl, (G_17.wide (T2 := fun q => o + 24 ≤ q ∧ q ≤ o + 31) (fun q hq => by have hq : q = o + 24 ∨ q = o + 25 ∨ q = o + 26 ∨ q = o + 27 := hq; show o + 24 ≤ q ∧ q ≤ o + 31; omega)).fs (fun q hq => hq) eV0, ?_⟩
          rw [if_pos (by unfold isS; omega)]
          first
            | exact (if_pos cq220).symm
            | exact (if_neg cq220).symm
  · skip
    refine g_iconst rfl ?_
    refine g_iret rfl ?_
    refine ⟨V0, rfl, (G0.wide (T2 := fun q => o + 24 ≤ q ∧ q ≤ o + 31) (fun q hq => by have hq : q = o + 24 ∨ q = o + 25 ∨ q = o + 26 ∨ q = o + 27 := hq; show o + 24 ≤ q ∧ q ≤ o + 31; omega)).fs (fun q hq => hq) eV0, ?_⟩
    exact (if_neg (by unfold isS; omega)).symm
set_option maxRecDepth 100000 in
set_option maxHeartbeats 4000000 in
theorem m_holds3 {w : aW} {d : Nat} (hd : 10 ≤ d) {h : aH} {o : Nat} (ms : MS h o) (V : Nat → Nat → Int) {S : aS} (ok : OkT S) (mt : MT V o S) (a b c f : Int) : WP w d 324 [aO (some o), aI 3, aI a, aI b, aI c, aI f] (hw h V) (RI (fun r h1 => ∃ V1, h1 = hw h V1 ∧ FS V V1 o ∧ r = if isS S a 0 ∧ isS S b 2 then (if ¬ sTp S a.toNat 2 = 0 ∧ m_within_S (tpR S a) (tpR S b) = 0 then 1 else 0) else -1)) := by
  obtain ⟨d, rfl⟩ : ∃ d1, d = d1 + 1 := ⟨d - 1, by omega⟩
  refine WP.enter (cd := cd_X12_holds) rfl ?_
  have hn := ok.1
  have hls : largs 0 [aO (some o), aI 3, aI a, aI b, aI c, aI f] = [(0, aO (some o)), (1, aI 3), (2, aI a), (3, aI b), (4, aI c), (5, aI f)] := rfl
  rw [hls]
  clear hls
  refine g_aload_n rfl rfl ?_
  refine g_iconst rfl ?_
  refine g_putI rfl ms.1 ?_
  refine g_hp (h2 := hw h (vset V o 31 0)) rfl ?_
  refine g_aload_n rfl rfl ?_
  refine g_iconst rfl ?_
  refine g_putI rfl ms.1 ?_
  obtain ⟨V0, eV0⟩ : ∃ W, W = vset (vset V o 31 0) o 1 0 := ⟨_, rfl⟩
  refine g_hp (h2 := hw h V0) (by rw [eV0]; rfl) ?_
  have mt : MT V0 o S := by rw [eV0]; exact mt.rs
  have f0 : V0 o 1 = 0 := by rw [eV0]; exact vset_eq _ _ _ _
  have G0 := Gs.refl V0 o (fun q => q = o + 24 ∨ q = o + 25 ∨ q = o + 26 ∨ q = o + 27)
  refine g_iload_n rfl rfl ?_
  refine g_i2l rfl ?_
  refine g_lconst0 rfl ?_
  refine g_ldc2 rfl ?_
  refine g_callSI [aJ 3, aJ 0, aJ 14] [] rfl rfl rfl rfl (Nat.le_of_ble_eq_true rfl) (c_in (by omega) _ _ _ _) ?_
  rintro r1 _ ⟨rfl, rfl⟩
  refine g_b_ne rfl (fun cq19 => ?_) (fun cq19 => ?_)
  · skip
    refine g_iload_n rfl rfl ?_
    refine g_callSI [aI 3] [] rfl rfl rfl rfl (Nat.le_of_ble_eq_true rfl) (m_names3 (by omega) _) ?_
    rintro _ _ ⟨rfl, rfl⟩
    refine g_istore (l1 := [(6, aI 299), (0, aO (some o)), (1, aI 3), (2, aI a), (3, aI b), (4, aI c), (5, aI f)]) rfl rfl ?_
    refine g_aload_n rfl rfl ?_
    refine g_iload_n rfl rfl ?_
    refine g_iload rfl rfl ?_
    refine g_sipush rfl ?_
    refine g_idivN (m := 1000) (n := 299) rfl (by omega) (by omega) ?_
    refine g_top (v2 := aI 0) (congrArg aI (by rfl)) ?_
    refine g_callVI [aI a, aI 0] [] rfl rfl rfl rfl (Nat.le_of_ble_eq_true rfl) ms.1 (m_isNamed (by omega) ms V0 ok mt a 0 (by omega)) ?_
    rintro r2 _ ⟨rfl, e3⟩
    rw [e3]
    clear e3 r2
    refine g_b_eq rfl (fun cq41 => ?_) (fun cq41 => ?_)
    · skip
      refine g_iconst rfl ?_
      refine g_istore (l1 := [(7, aI 0), (6, aI 299), (0, aO (some o)), (1, aI 3), (2, aI a), (3, aI b), (4, aI c), (5, aI f)]) rfl rfl ?_
      refine g_iload rfl rfl ?_
      refine g_if_ne_f rfl (by omega) ?_
      refine g_iconst rfl ?_
      refine g_iret rfl ?_
      refine ⟨V0, rfl, (G0.wide (T2 := fun q => o + 24 ≤ q ∧ q ≤ o + 31) (fun q hq => by have hq : q = o + 24 ∨ q = o + 25 ∨ q = o + 26 ∨ q = o + 27 := hq; show o + 24 ≤ q ∧ q ≤ o + 31; omega)).fs (fun q hq => hq) eV0, ?_⟩
      exact (if_neg (by unfold isS; omega)).symm
    · skip
      refine g_aload_n rfl rfl ?_
      refine g_iload_n rfl rfl ?_
      refine g_iload rfl rfl ?_
      refine g_bipush rfl ?_
      refine g_idivN (m := 100) (n := 299) rfl (by omega) (by omega) ?_
      refine g_bipush rfl ?_
      refine g_iremN (m := 10) (n := (299 / 100)) rfl (by omega) ?_
      refine g_top (v2 := aI 2) (congrArg aI (by rfl)) ?_
      refine g_callVI [aI b, aI 2] [] rfl rfl rfl rfl (Nat.le_of_ble_eq_true rfl) ms.1 (m_isNamed (by omega) ms V0 ok mt b 2 (by omega)) ?_
      rintro r4 _ ⟨rfl, e5⟩
      rw [e5]
      clear e5 r4
      refine g_b_eq rfl (fun cq57 => ?_) (fun cq57 => ?_)
      · skip
        refine g_iconst rfl ?_
        refine g_istore (l1 := [(7, aI 0), (6, aI 299), (0, aO (some o)), (1, aI 3), (2, aI a), (3, aI b), (4, aI c), (5, aI f)]) rfl rfl ?_
        refine g_iload rfl rfl ?_
        refine g_if_ne_f rfl (by omega) ?_
        refine g_iconst rfl ?_
        refine g_iret rfl ?_
        refine ⟨V0, rfl, (G0.wide (T2 := fun q => o + 24 ≤ q ∧ q ≤ o + 31) (fun q hq => by have hq : q = o + 24 ∨ q = o + 25 ∨ q = o + 26 ∨ q = o + 27 := hq; show o + 24 ≤ q ∧ q ≤ o + 31; omega)).fs (fun q hq => hq) eV0, ?_⟩
        exact (if_neg (by unfold isS; omega)).symm
      · skip
        refine g_aload_n rfl rfl ?_
        refine g_iload rfl rfl ?_
        refine g_iload rfl rfl ?_
        refine g_bipush rfl ?_
        refine g_idivN (m := 10) (n := 299) rfl (by omega) (by omega) ?_
        refine g_bipush rfl ?_
        refine g_iremN (m := 10) (n := (299 / 10)) rfl (by omega) ?_
        refine g_top (v2 := aI 9) (congrArg aI (by rfl)) ?_
        refine g_callVI [aI c, aI 9] [] rfl rfl rfl rfl (Nat.le_of_ble_eq_true rfl) ms.1 (m_named9 (by omega) ms V0 c) ?_
        rintro r6 hx6 ⟨ehx6, rfl⟩
        rw [ehx6]
        clear ehx6 hx6
        refine g_if_eq_f rfl (by omega) ?_
        refine g_aload_n rfl rfl ?_
        refine g_iload rfl rfl ?_
        refine g_iload rfl rfl ?_
        refine g_bipush rfl ?_
        refine g_iremN (m := 10) (n := 299) rfl (by omega) ?_
        refine g_top (v2 := aI 9) (congrArg aI (by rfl)) ?_
        refine g_callVI [aI f, aI 9] [] rfl rfl rfl rfl (Nat.le_of_ble_eq_true rfl) ms.1 (m_named9 (by omega) ms V0 f) ?_
        rintro r7 hx7 ⟨ehx7, rfl⟩
        rw [ehx7]
        clear ehx7 hx7
        refine g_if_eq_f rfl (by omega) ?_
        refine g_iconst rfl ?_
        refine g_goto rfl ?_
        refine g_istore (l1 := [(7, aI 1), (6, aI 299), (0, aO (some o)), (1, aI 3), (2, aI a), (3, aI b), (4, aI c), (5, aI f)]) rfl rfl ?_
        refine g_iload rfl rfl ?_
        refine g_if_ne_t rfl (by omega) ?_
        refine g_aload_n rfl rfl ?_
        have ha : 0 ≤ a ∧ a < sT S := by omega
        have hb : 0 ≤ b ∧ b < sT S := by omega
        refine g_aload_n rfl rfl ?_
        refine g_getR rfl ms.1 (mr_one ms) ?_
        refine g_iload_n rfl rfl ?_
        refine g_callVN [aO (some (o + 24)), aI a] [] rfl rfl rfl rfl (Nat.le_of_ble_eq_true rfl) ms.1 (m_load (by omega) ms V0 ok mt (by have := G0.2.2.1; omega) ((o + 24)) (show SLa o ((o + 24)) by unfold SLa; omega) a ha) ?_
        rintro _ ⟨V8, rfl, g8, t8, u8, v8, y8, s8, xt8, xu8, xv8, xy8⟩
        have G_9 := G0.trans (g8.wide (fun q hq => by have hq : q = o + 24 := hq; show q = o + 24 ∨ q = o + 25 ∨ q = o + 26 ∨ q = o + 27; omega))
        refine g_aload_n rfl rfl ?_
        refine g_aload_n rfl rfl ?_
        refine g_getR rfl ms.1 (mr_two ms) ?_
        refine g_iload_n rfl rfl ?_
        refine g_callVN [aO (some (o + 25)), aI b] [] rfl rfl rfl rfl (Nat.le_of_ble_eq_true rfl) ms.1 (m_load (by omega) ms V8 ok (g8.mt (show ¬((o + 4) = o + 24) by omega) (show ¬((o + 5) = o + 24) by omega) mt) (by have := G_9.2.2.1; omega) ((o + 25)) (show SLa o ((o + 25)) by unfold SLa; omega) b hb) ?_
        rintro _ ⟨V10, rfl, g10, t10, u10, v10, y10, s10, xt10, xu10, xv10, xy10⟩
        have G_11 := G_9.trans (g10.wide (fun q hq => by have hq : q = o + 25 := hq; show q = o + 24 ∨ q = o + 25 ∨ q = o + 26 ∨ q = o + 27; omega))
        refine g_iload rfl rfl ?_
        refine g_bipush rfl ?_
        refine g_idivN (m := 10) (n := 299) rfl (by omega) (by omega) ?_
        refine g_bipush rfl ?_
        refine g_iremN (m := 10) (n := (299 / 10)) rfl (by omega) ?_
        refine g_top (v2 := aI 9) (congrArg aI (by rfl)) ?_
        refine g_bipush rfl ?_
        refine g_icmp_eq_t rfl (by omega) ?_
        refine g_iconst rfl ?_
        refine g_istore (l1 := [(8, aI 0), (7, aI 1), (6, aI 299), (0, aO (some o)), (1, aI 3), (2, aI a), (3, aI b), (4, aI c), (5, aI f)]) rfl rfl ?_
        refine g_aload_n rfl rfl ?_
        refine g_aload_n rfl rfl ?_
        refine g_getR rfl ms.1 (mr_three ms) ?_
        refine g_iload rfl rfl ?_
        refine g_if_eq_t rfl (by omega) ?_
        refine g_iload_n rfl rfl ?_
        refine g_callVN [aO (some (o + 26)), aI a] [] rfl rfl rfl rfl (Nat.le_of_ble_eq_true rfl) ms.1 (m_load (by omega) ms V10 ok (g10.mt (show ¬((o + 4) = o + 25) by omega) (show ¬((o + 5) = o + 25) by omega) (g8.mt (show ¬((o + 4) = o + 24) by omega) (show ¬((o + 5) = o + 24) by omega) mt)) (by have := G_11.2.2.1; omega) ((o + 26)) (show SLa o ((o + 26)) by unfold SLa; omega) a ha) ?_
        rintro _ ⟨V12, rfl, g12, t12, u12, v12, y12, s12, xt12, xu12, xv12, xy12⟩
        have G_13 := G_11.trans (g12.wide (fun q hq => by have hq : q = o + 26 := hq; show q = o + 24 ∨ q = o + 25 ∨ q = o + 26 ∨ q = o + 27; omega))
        refine g_aload_n rfl rfl ?_
        refine g_aload_n rfl rfl ?_
        refine g_getR rfl ms.1 (mr_four ms) ?_
        refine g_iload rfl rfl ?_
        refine g_bipush rfl ?_
        refine g_iremN (m := 10) (n := 299) rfl (by omega) ?_
        refine g_top (v2 := aI 9) (congrArg aI (by rfl)) ?_
        refine g_bipush rfl ?_
        refine g_icmp_eq_t rfl (by omega) ?_
        refine g_iload_n rfl rfl ?_
        refine g_callVN [aO (some (o + 27)), aI a] [] rfl rfl rfl rfl (Nat.le_of_ble_eq_true rfl) ms.1 (m_load (by omega) ms V12 ok (g12.mt (show ¬((o + 4) = o + 26) by omega) (show ¬((o + 5) = o + 26) by omega) (g10.mt (show ¬((o + 4) = o + 25) by omega) (show ¬((o + 5) = o + 25) by omega) (g8.mt (show ¬((o + 4) = o + 24) by omega) (show ¬((o + 5) = o + 24) by omega) mt))) (by have := G_13.2.2.1; omega) ((o + 27)) (show SLa o ((o + 27)) by unfold SLa; omega) a ha) ?_
        rintro _ ⟨V14, rfl, g14, t14, u14, v14, y14, s14, xt14, xu14, xv14, xy14⟩
        have G_15 := G_13.trans (g14.wide (fun q hq => by have hq : q = o + 27 := hq; show q = o + 24 ∨ q = o + 25 ∨ q = o + 26 ∨ q = o + 27; omega))
        refine g_aload_n rfl rfl ?_
        refine g_iload_n rfl rfl ?_
        refine g_iload_n rfl rfl ?_
        refine g_iload_n rfl rfl ?_
        refine g_iload rfl rfl ?_
        refine g_if_eq_t rfl (by omega) ?_
        refine g_iload_n rfl rfl ?_
        refine g_iload rfl rfl ?_
        refine g_bipush rfl ?_
        refine g_iremN (m := 10) (n := 299) rfl (by omega) ?_
        refine g_top (v2 := aI 9) (congrArg aI (by rfl)) ?_
        refine g_bipush rfl ?_
        refine g_icmp_eq_t rfl (by omega) ?_
        refine g_iload_n rfl rfl ?_
        refine g_callVI [aI 3, aI a, aI b, aI a, aI a] [] rfl rfl rfl rfl (Nat.le_of_ble_eq_true rfl) ms.1 (m_so3 (by omega) ms V14 ok (g14.mt (show ¬((o + 4) = o + 27) by omega) (show ¬((o + 5) = o + 27) by omega) (g12.mt (show ¬((o + 4) = o + 26) by omega) (show ¬((o + 5) = o + 26) by omega) (g10.mt (show ¬((o + 4) = o + 25) by omega) (show ¬((o + 5) = o + 25) by omega) (g8.mt (show ¬((o + 4) = o + 24) by omega) (show ¬((o + 5) = o + 24) by omega) mt)))) (by have := G_15.2.2.1; omega) (show SB V14 o (o + 24) (tpR S a) (20) from ⟨_, _, _, _, (g14.sa (show SLa o ((o + 24)) by unfold SLa; omega) (show ¬(o + 24 = o + 27) by omega) (g12.sa (show SLa o ((o + 24)) by unfold SLa; omega) (show ¬(o + 24 = o + 26) by omega) (g10.sa (show SLa o ((o + 24)) by unfold SLa; omega) (show ¬(o + 24 = o + 25) by omega) s8))), ((g14.rb (g12.rb (g10.rb xt8))).up (by omega)), ((g14.rb (g12.rb (g10.rb xu8))).up (by omega)), ((g14.rb (g12.rb (g10.rb xv8))).up (by omega)), ((g14.rb (g12.rb (g10.rb xy8))).up (by omega))⟩) (show SB V14 o (o + 25) (tpR S b) (20) from ⟨_, _, _, _, (g14.sa (show SLa o ((o + 25)) by unfold SLa; omega) (show ¬(o + 25 = o + 27) by omega) (g12.sa (show SLa o ((o + 25)) by unfold SLa; omega) (show ¬(o + 25 = o + 26) by omega) s10)), ((g14.rb (g12.rb xt10)).up (by omega)), ((g14.rb (g12.rb xu10)).up (by omega)), ((g14.rb (g12.rb xv10)).up (by omega)), ((g14.rb (g12.rb xy10)).up (by omega))⟩) (show SB V14 o (o + 26) (tpR S a) (20) from ⟨_, _, _, _, (g14.sa (show SLa o ((o + 26)) by unfold SLa; omega) (show ¬(o + 26 = o + 27) by omega) s12), ((g14.rb xt12).up (by omega)), ((g14.rb xu12).up (by omega)), ((g14.rb xv12).up (by omega)), ((g14.rb xy12).up (by omega))⟩) (show SB V14 o (o + 27) (tpR S a) (20) from ⟨_, _, _, _, s14, (xt14.up (by omega)), (xu14.up (by omega)), (xv14.up (by omega)), (xy14.up (by omega))⟩) a ha b hb a ha a ha) ?_
        rintro _ _ ⟨rfl, V16, rfl, g16⟩
        have G_17 := G_15.trans (g16.gs _)
        refine g_b_eq rfl (fun cq220 => ?_) (fun cq220 => ?_)
        · skip
          refine g_iconst rfl ?_
          refine g_iret rfl ?_
          refine ⟨_, rfl, (G_17.wide (T2 := fun q => o + 24 ≤ q ∧ q ≤ o + 31) (fun q hq => by have hq : q = o + 24 ∨ q = o + 25 ∨ q = o + 26 ∨ q = o + 27 := hq; show o + 24 ≤ q ∧ q ≤ o + 31; omega)).fs (fun q hq => hq) eV0, ?_⟩
          rw [if_pos (by unfold isS; omega)]
          first
            | exact (if_pos cq220).symm
            | exact (if_neg cq220).symm
        · skip
          refine g_iconst rfl ?_
          refine g_goto rfl ?_
          refine g_iret rfl ?_
          refine ⟨_, rfl, (G_17.wide (T2 := fun q => o + 24 ≤ q ∧ q ≤ o + 31) (fun q hq => by have hq : q = o + 24 ∨ q = o + 25 ∨ q = o + 26 ∨ q = o + 27 := hq; show o + 24 ≤ q ∧ q ≤ o + 31; omega)).fs (fun q hq => hq) eV0, ?_⟩
          rw [if_pos (by unfold isS; omega)]
          first
            | exact (if_pos cq220).symm
            | exact (if_neg cq220).symm
  · skip
    refine g_iconst rfl ?_
    refine g_iret rfl ?_
    refine ⟨V0, rfl, (G0.wide (T2 := fun q => o + 24 ≤ q ∧ q ≤ o + 31) (fun q hq => by have hq : q = o + 24 ∨ q = o + 25 ∨ q = o + 26 ∨ q = o + 27 := hq; show o + 24 ≤ q ∧ q ≤ o + 31; omega)).fs (fun q hq => hq) eV0, ?_⟩
    exact (if_neg (by unfold isS; omega)).symm
set_option maxRecDepth 100000 in
set_option maxHeartbeats 4000000 in
theorem m_holds4 {w : aW} {d : Nat} (hd : 10 ≤ d) {h : aH} {o : Nat} (ms : MS h o) (V : Nat → Nat → Int) {S : aS} (ok : OkT S) (mt : MT V o S) (a b c f : Int) : WP w d 324 [aO (some o), aI 4, aI a, aI b, aI c, aI f] (hw h V) (RI (fun r h1 => ∃ V1, h1 = hw h V1 ∧ FS V V1 o ∧ r = if isS S a 1 ∧ isS S b 1 then (if ((tpR S a).1 * (tpR S b).2.1) - ((tpR S a).2.1 * (tpR S b).1) = 0 then 1 else 0) else -1)) := by
  obtain ⟨d, rfl⟩ : ∃ d1, d = d1 + 1 := ⟨d - 1, by omega⟩
  refine WP.enter (cd := cd_X12_holds) rfl ?_
  have hn := ok.1
  have hls : largs 0 [aO (some o), aI 4, aI a, aI b, aI c, aI f] = [(0, aO (some o)), (1, aI 4), (2, aI a), (3, aI b), (4, aI c), (5, aI f)] := rfl
  rw [hls]
  clear hls
  refine g_aload_n rfl rfl ?_
  refine g_iconst rfl ?_
  refine g_putI rfl ms.1 ?_
  refine g_hp (h2 := hw h (vset V o 31 0)) rfl ?_
  refine g_aload_n rfl rfl ?_
  refine g_iconst rfl ?_
  refine g_putI rfl ms.1 ?_
  obtain ⟨V0, eV0⟩ : ∃ W, W = vset (vset V o 31 0) o 1 0 := ⟨_, rfl⟩
  refine g_hp (h2 := hw h V0) (by rw [eV0]; rfl) ?_
  have mt : MT V0 o S := by rw [eV0]; exact mt.rs
  have f0 : V0 o 1 = 0 := by rw [eV0]; exact vset_eq _ _ _ _
  have G0 := Gs.refl V0 o (fun q => q = o + 24 ∨ q = o + 25 ∨ q = o + 26 ∨ q = o + 27)
  refine g_iload_n rfl rfl ?_
  refine g_i2l rfl ?_
  refine g_lconst0 rfl ?_
  refine g_ldc2 rfl ?_
  refine g_callSI [aJ 4, aJ 0, aJ 14] [] rfl rfl rfl rfl (Nat.le_of_ble_eq_true rfl) (c_in (by omega) _ _ _ _) ?_
  rintro r1 _ ⟨rfl, rfl⟩
  refine g_b_ne rfl (fun cq19 => ?_) (fun cq19 => ?_)
  · skip
    refine g_iload_n rfl rfl ?_
    refine g_callSI [aI 4] [] rfl rfl rfl rfl (Nat.le_of_ble_eq_true rfl) (m_names4 (by omega) _) ?_
    rintro _ _ ⟨rfl, rfl⟩
    refine g_istore (l1 := [(6, aI 1199), (0, aO (some o)), (1, aI 4), (2, aI a), (3, aI b), (4, aI c), (5, aI f)]) rfl rfl ?_
    refine g_aload_n rfl rfl ?_
    refine g_iload_n rfl rfl ?_
    refine g_iload rfl rfl ?_
    refine g_sipush rfl ?_
    refine g_idivN (m := 1000) (n := 1199) rfl (by omega) (by omega) ?_
    refine g_top (v2 := aI 1) (congrArg aI (by rfl)) ?_
    refine g_callVI [aI a, aI 1] [] rfl rfl rfl rfl (Nat.le_of_ble_eq_true rfl) ms.1 (m_isNamed (by omega) ms V0 ok mt a 1 (by omega)) ?_
    rintro r2 _ ⟨rfl, e3⟩
    rw [e3]
    clear e3 r2
    refine g_b_eq rfl (fun cq41 => ?_) (fun cq41 => ?_)
    · skip
      refine g_iconst rfl ?_
      refine g_istore (l1 := [(7, aI 0), (6, aI 1199), (0, aO (some o)), (1, aI 4), (2, aI a), (3, aI b), (4, aI c), (5, aI f)]) rfl rfl ?_
      refine g_iload rfl rfl ?_
      refine g_if_ne_f rfl (by omega) ?_
      refine g_iconst rfl ?_
      refine g_iret rfl ?_
      refine ⟨V0, rfl, (G0.wide (T2 := fun q => o + 24 ≤ q ∧ q ≤ o + 31) (fun q hq => by have hq : q = o + 24 ∨ q = o + 25 ∨ q = o + 26 ∨ q = o + 27 := hq; show o + 24 ≤ q ∧ q ≤ o + 31; omega)).fs (fun q hq => hq) eV0, ?_⟩
      exact (if_neg (by unfold isS; omega)).symm
    · skip
      refine g_aload_n rfl rfl ?_
      refine g_iload_n rfl rfl ?_
      refine g_iload rfl rfl ?_
      refine g_bipush rfl ?_
      refine g_idivN (m := 100) (n := 1199) rfl (by omega) (by omega) ?_
      refine g_bipush rfl ?_
      refine g_iremN (m := 10) (n := (1199 / 100)) rfl (by omega) ?_
      refine g_top (v2 := aI 1) (congrArg aI (by rfl)) ?_
      refine g_callVI [aI b, aI 1] [] rfl rfl rfl rfl (Nat.le_of_ble_eq_true rfl) ms.1 (m_isNamed (by omega) ms V0 ok mt b 1 (by omega)) ?_
      rintro r4 _ ⟨rfl, e5⟩
      rw [e5]
      clear e5 r4
      refine g_b_eq rfl (fun cq57 => ?_) (fun cq57 => ?_)
      · skip
        refine g_iconst rfl ?_
        refine g_istore (l1 := [(7, aI 0), (6, aI 1199), (0, aO (some o)), (1, aI 4), (2, aI a), (3, aI b), (4, aI c), (5, aI f)]) rfl rfl ?_
        refine g_iload rfl rfl ?_
        refine g_if_ne_f rfl (by omega) ?_
        refine g_iconst rfl ?_
        refine g_iret rfl ?_
        refine ⟨V0, rfl, (G0.wide (T2 := fun q => o + 24 ≤ q ∧ q ≤ o + 31) (fun q hq => by have hq : q = o + 24 ∨ q = o + 25 ∨ q = o + 26 ∨ q = o + 27 := hq; show o + 24 ≤ q ∧ q ≤ o + 31; omega)).fs (fun q hq => hq) eV0, ?_⟩
        exact (if_neg (by unfold isS; omega)).symm
      · skip
        refine g_aload_n rfl rfl ?_
        refine g_iload rfl rfl ?_
        refine g_iload rfl rfl ?_
        refine g_bipush rfl ?_
        refine g_idivN (m := 10) (n := 1199) rfl (by omega) (by omega) ?_
        refine g_bipush rfl ?_
        refine g_iremN (m := 10) (n := (1199 / 10)) rfl (by omega) ?_
        refine g_top (v2 := aI 9) (congrArg aI (by rfl)) ?_
        refine g_callVI [aI c, aI 9] [] rfl rfl rfl rfl (Nat.le_of_ble_eq_true rfl) ms.1 (m_named9 (by omega) ms V0 c) ?_
        rintro r6 hx6 ⟨ehx6, rfl⟩
        rw [ehx6]
        clear ehx6 hx6
        refine g_if_eq_f rfl (by omega) ?_
        refine g_aload_n rfl rfl ?_
        refine g_iload rfl rfl ?_
        refine g_iload rfl rfl ?_
        refine g_bipush rfl ?_
        refine g_iremN (m := 10) (n := 1199) rfl (by omega) ?_
        refine g_top (v2 := aI 9) (congrArg aI (by rfl)) ?_
        refine g_callVI [aI f, aI 9] [] rfl rfl rfl rfl (Nat.le_of_ble_eq_true rfl) ms.1 (m_named9 (by omega) ms V0 f) ?_
        rintro r7 hx7 ⟨ehx7, rfl⟩
        rw [ehx7]
        clear ehx7 hx7
        refine g_if_eq_f rfl (by omega) ?_
        refine g_iconst rfl ?_
        refine g_goto rfl ?_
        refine g_istore (l1 := [(7, aI 1), (6, aI 1199), (0, aO (some o)), (1, aI 4), (2, aI a), (3, aI b), (4, aI c), (5, aI f)]) rfl rfl ?_
        refine g_iload rfl rfl ?_
        refine g_if_ne_t rfl (by omega) ?_
        refine g_aload_n rfl rfl ?_
        have ha : 0 ≤ a ∧ a < sT S := by omega
        have hb : 0 ≤ b ∧ b < sT S := by omega
        refine g_aload_n rfl rfl ?_
        refine g_getR rfl ms.1 (mr_one ms) ?_
        refine g_iload_n rfl rfl ?_
        refine g_callVN [aO (some (o + 24)), aI a] [] rfl rfl rfl rfl (Nat.le_of_ble_eq_true rfl) ms.1 (m_load (by omega) ms V0 ok mt (by have := G0.2.2.1; omega) ((o + 24)) (show SLa o ((o + 24)) by unfold SLa; omega) a ha) ?_
        rintro _ ⟨V8, rfl, g8, t8, u8, v8, y8, s8, xt8, xu8, xv8, xy8⟩
        have G_9 := G0.trans (g8.wide (fun q hq => by have hq : q = o + 24 := hq; show q = o + 24 ∨ q = o + 25 ∨ q = o + 26 ∨ q = o + 27; omega))
        refine g_aload_n rfl rfl ?_
        refine g_aload_n rfl rfl ?_
        refine g_getR rfl ms.1 (mr_two ms) ?_
        refine g_iload_n rfl rfl ?_
        refine g_callVN [aO (some (o + 25)), aI b] [] rfl rfl rfl rfl (Nat.le_of_ble_eq_true rfl) ms.1 (m_load (by omega) ms V8 ok (g8.mt (show ¬((o + 4) = o + 24) by omega) (show ¬((o + 5) = o + 24) by omega) mt) (by have := G_9.2.2.1; omega) ((o + 25)) (show SLa o ((o + 25)) by unfold SLa; omega) b hb) ?_
        rintro _ ⟨V10, rfl, g10, t10, u10, v10, y10, s10, xt10, xu10, xv10, xy10⟩
        have G_11 := G_9.trans (g10.wide (fun q hq => by have hq : q = o + 25 := hq; show q = o + 24 ∨ q = o + 25 ∨ q = o + 26 ∨ q = o + 27; omega))
        refine g_iload rfl rfl ?_
        refine g_bipush rfl ?_
        refine g_idivN (m := 10) (n := 1199) rfl (by omega) (by omega) ?_
        refine g_bipush rfl ?_
        refine g_iremN (m := 10) (n := (1199 / 10)) rfl (by omega) ?_
        refine g_top (v2 := aI 9) (congrArg aI (by rfl)) ?_
        refine g_bipush rfl ?_
        refine g_icmp_eq_t rfl (by omega) ?_
        refine g_iconst rfl ?_
        refine g_istore (l1 := [(8, aI 0), (7, aI 1), (6, aI 1199), (0, aO (some o)), (1, aI 4), (2, aI a), (3, aI b), (4, aI c), (5, aI f)]) rfl rfl ?_
        refine g_aload_n rfl rfl ?_
        refine g_aload_n rfl rfl ?_
        refine g_getR rfl ms.1 (mr_three ms) ?_
        refine g_iload rfl rfl ?_
        refine g_if_eq_t rfl (by omega) ?_
        refine g_iload_n rfl rfl ?_
        refine g_callVN [aO (some (o + 26)), aI a] [] rfl rfl rfl rfl (Nat.le_of_ble_eq_true rfl) ms.1 (m_load (by omega) ms V10 ok (g10.mt (show ¬((o + 4) = o + 25) by omega) (show ¬((o + 5) = o + 25) by omega) (g8.mt (show ¬((o + 4) = o + 24) by omega) (show ¬((o + 5) = o + 24) by omega) mt)) (by have := G_11.2.2.1; omega) ((o + 26)) (show SLa o ((o + 26)) by unfold SLa; omega) a ha) ?_
        rintro _ ⟨V12, rfl, g12, t12, u12, v12, y12, s12, xt12, xu12, xv12, xy12⟩
        have G_13 := G_11.trans (g12.wide (fun q hq => by have hq : q = o + 26 := hq; show q = o + 24 ∨ q = o + 25 ∨ q = o + 26 ∨ q = o + 27; omega))
        refine g_aload_n rfl rfl ?_
        refine g_aload_n rfl rfl ?_
        refine g_getR rfl ms.1 (mr_four ms) ?_
        refine g_iload rfl rfl ?_
        refine g_bipush rfl ?_
        refine g_iremN (m := 10) (n := 1199) rfl (by omega) ?_
        refine g_top (v2 := aI 9) (congrArg aI (by rfl)) ?_
        refine g_bipush rfl ?_
        refine g_icmp_eq_t rfl (by omega) ?_
        refine g_iload_n rfl rfl ?_
        refine g_callVN [aO (some (o + 27)), aI a] [] rfl rfl rfl rfl (Nat.le_of_ble_eq_true rfl) ms.1 (m_load (by omega) ms V12 ok (g12.mt (show ¬((o + 4) = o + 26) by omega) (show ¬((o + 5) = o + 26) by omega) (g10.mt (show ¬((o + 4) = o + 25) by omega) (show ¬((o + 5) = o + 25) by omega) (g8.mt (show ¬((o + 4) = o + 24) by omega) (show ¬((o + 5) = o + 24) by omega) mt))) (by have := G_13.2.2.1; omega) ((o + 27)) (show SLa o ((o + 27)) by unfold SLa; omega) a ha) ?_
        rintro _ ⟨V14, rfl, g14, t14, u14, v14, y14, s14, xt14, xu14, xv14, xy14⟩
        have G_15 := G_13.trans (g14.wide (fun q hq => by have hq : q = o + 27 := hq; show q = o + 24 ∨ q = o + 25 ∨ q = o + 26 ∨ q = o + 27; omega))
        refine g_aload_n rfl rfl ?_
        refine g_iload_n rfl rfl ?_
        refine g_iload_n rfl rfl ?_
        refine g_iload_n rfl rfl ?_
        refine g_iload rfl rfl ?_
        refine g_if_eq_t rfl (by omega) ?_
        refine g_iload_n rfl rfl ?_
        refine g_iload rfl rfl ?_
        refine g_bipush rfl ?_
        refine g_iremN (m := 10) (n := 1199) rfl (by omega) ?_
        refine g_top (v2 := aI 9) (congrArg aI (by rfl)) ?_
        refine g_bipush rfl ?_
        refine g_icmp_eq_t rfl (by omega) ?_
        refine g_iload_n rfl rfl ?_
        refine g_callVI [aI 4, aI a, aI b, aI a, aI a] [] rfl rfl rfl rfl (Nat.le_of_ble_eq_true rfl) ms.1 (m_so4 (by omega) ms V14 ok (g14.mt (show ¬((o + 4) = o + 27) by omega) (show ¬((o + 5) = o + 27) by omega) (g12.mt (show ¬((o + 4) = o + 26) by omega) (show ¬((o + 5) = o + 26) by omega) (g10.mt (show ¬((o + 4) = o + 25) by omega) (show ¬((o + 5) = o + 25) by omega) (g8.mt (show ¬((o + 4) = o + 24) by omega) (show ¬((o + 5) = o + 24) by omega) mt)))) (by have := G_15.2.2.1; omega) (show SB V14 o (o + 24) (tpR S a) (20) from ⟨_, _, _, _, (g14.sa (show SLa o ((o + 24)) by unfold SLa; omega) (show ¬(o + 24 = o + 27) by omega) (g12.sa (show SLa o ((o + 24)) by unfold SLa; omega) (show ¬(o + 24 = o + 26) by omega) (g10.sa (show SLa o ((o + 24)) by unfold SLa; omega) (show ¬(o + 24 = o + 25) by omega) s8))), ((g14.rb (g12.rb (g10.rb xt8))).up (by omega)), ((g14.rb (g12.rb (g10.rb xu8))).up (by omega)), ((g14.rb (g12.rb (g10.rb xv8))).up (by omega)), ((g14.rb (g12.rb (g10.rb xy8))).up (by omega))⟩) (show SB V14 o (o + 25) (tpR S b) (20) from ⟨_, _, _, _, (g14.sa (show SLa o ((o + 25)) by unfold SLa; omega) (show ¬(o + 25 = o + 27) by omega) (g12.sa (show SLa o ((o + 25)) by unfold SLa; omega) (show ¬(o + 25 = o + 26) by omega) s10)), ((g14.rb (g12.rb xt10)).up (by omega)), ((g14.rb (g12.rb xu10)).up (by omega)), ((g14.rb (g12.rb xv10)).up (by omega)), ((g14.rb (g12.rb xy10)).up (by omega))⟩) (show SB V14 o (o + 26) (tpR S a) (20) from ⟨_, _, _, _, (g14.sa (show SLa o ((o + 26)) by unfold SLa; omega) (show ¬(o + 26 = o + 27) by omega) s12), ((g14.rb xt12).up (by omega)), ((g14.rb xu12).up (by omega)), ((g14.rb xv12).up (by omega)), ((g14.rb xy12).up (by omega))⟩) (show SB V14 o (o + 27) (tpR S a) (20) from ⟨_, _, _, _, s14, (xt14.up (by omega)), (xu14.up (by omega)), (xv14.up (by omega)), (xy14.up (by omega))⟩) a ha b hb a ha a ha) ?_
        rintro _ _ ⟨rfl, V16, rfl, g16⟩
        have G_17 := G_15.trans (g16.gs _)
        refine g_b_eq rfl (fun cq220 => ?_) (fun cq220 => ?_)
        · skip
          refine g_iconst rfl ?_
          refine g_iret rfl ?_
          refine ⟨_, rfl, (G_17.wide (T2 := fun q => o + 24 ≤ q ∧ q ≤ o + 31) (fun q hq => by have hq : q = o + 24 ∨ q = o + 25 ∨ q = o + 26 ∨ q = o + 27 := hq; show o + 24 ≤ q ∧ q ≤ o + 31; omega)).fs (fun q hq => hq) eV0, ?_⟩
          rw [if_pos (by unfold isS; omega)]
          first
            | exact (if_pos cq220).symm
            | exact (if_neg cq220).symm
        · skip
          refine g_iconst rfl ?_
          refine g_goto rfl ?_
          refine g_iret rfl ?_
          refine ⟨_, rfl, (G_17.wide (T2 := fun q => o + 24 ≤ q ∧ q ≤ o + 31) (fun q hq => by have hq : q = o + 24 ∨ q = o + 25 ∨ q = o + 26 ∨ q = o + 27 := hq; show o + 24 ≤ q ∧ q ≤ o + 31; omega)).fs (fun q hq => hq) eV0, ?_⟩
          rw [if_pos (by unfold isS; omega)]
          first
            | exact (if_pos cq220).symm
            | exact (if_neg cq220).symm
  · skip
    refine g_iconst rfl ?_
    refine g_iret rfl ?_
    refine ⟨V0, rfl, (G0.wide (T2 := fun q => o + 24 ≤ q ∧ q ≤ o + 31) (fun q hq => by have hq : q = o + 24 ∨ q = o + 25 ∨ q = o + 26 ∨ q = o + 27 := hq; show o + 24 ≤ q ∧ q ≤ o + 31; omega)).fs (fun q hq => hq) eV0, ?_⟩
    exact (if_neg (by unfold isS; omega)).symm
set_option maxRecDepth 100000 in
set_option maxHeartbeats 4000000 in
theorem m_holds5 {w : aW} {d : Nat} (hd : 10 ≤ d) {h : aH} {o : Nat} (ms : MS h o) (V : Nat → Nat → Int) {S : aS} (ok : OkT S) (mt : MT V o S) (a b c f : Int) : WP w d 324 [aO (some o), aI 5, aI a, aI b, aI c, aI f] (hw h V) (RI (fun r h1 => ∃ V1, h1 = hw h V1 ∧ FS V V1 o ∧ r = if isS S a 1 ∧ isS S b 1 then (if ¬ (sTp S a.toNat 0 = 0 ∧ sTp S a.toNat 1 = 0) ∧ ¬ (sTp S b.toNat 0 = 0 ∧ sTp S b.toNat 1 = 0) ∧ ((tpR S a).1 * (tpR S b).1) + ((tpR S a).2.1 * (tpR S b).2.1) = 0 then 1 else 0) else -1)) := by
  obtain ⟨d, rfl⟩ : ∃ d1, d = d1 + 1 := ⟨d - 1, by omega⟩
  refine WP.enter (cd := cd_X12_holds) rfl ?_
  have hn := ok.1
  have hls : largs 0 [aO (some o), aI 5, aI a, aI b, aI c, aI f] = [(0, aO (some o)), (1, aI 5), (2, aI a), (3, aI b), (4, aI c), (5, aI f)] := rfl
  rw [hls]
  clear hls
  refine g_aload_n rfl rfl ?_
  refine g_iconst rfl ?_
  refine g_putI rfl ms.1 ?_
  refine g_hp (h2 := hw h (vset V o 31 0)) rfl ?_
  refine g_aload_n rfl rfl ?_
  refine g_iconst rfl ?_
  refine g_putI rfl ms.1 ?_
  obtain ⟨V0, eV0⟩ : ∃ W, W = vset (vset V o 31 0) o 1 0 := ⟨_, rfl⟩
  refine g_hp (h2 := hw h V0) (by rw [eV0]; rfl) ?_
  have mt : MT V0 o S := by rw [eV0]; exact mt.rs
  have f0 : V0 o 1 = 0 := by rw [eV0]; exact vset_eq _ _ _ _
  have G0 := Gs.refl V0 o (fun q => q = o + 24 ∨ q = o + 25 ∨ q = o + 26 ∨ q = o + 27)
  refine g_iload_n rfl rfl ?_
  refine g_i2l rfl ?_
  refine g_lconst0 rfl ?_
  refine g_ldc2 rfl ?_
  refine g_callSI [aJ 5, aJ 0, aJ 14] [] rfl rfl rfl rfl (Nat.le_of_ble_eq_true rfl) (c_in (by omega) _ _ _ _) ?_
  rintro r1 _ ⟨rfl, rfl⟩
  refine g_b_ne rfl (fun cq19 => ?_) (fun cq19 => ?_)
  · skip
    refine g_iload_n rfl rfl ?_
    refine g_callSI [aI 5] [] rfl rfl rfl rfl (Nat.le_of_ble_eq_true rfl) (m_names5 (by omega) _) ?_
    rintro _ _ ⟨rfl, rfl⟩
    refine g_istore (l1 := [(6, aI 1199), (0, aO (some o)), (1, aI 5), (2, aI a), (3, aI b), (4, aI c), (5, aI f)]) rfl rfl ?_
    refine g_aload_n rfl rfl ?_
    refine g_iload_n rfl rfl ?_
    refine g_iload rfl rfl ?_
    refine g_sipush rfl ?_
    refine g_idivN (m := 1000) (n := 1199) rfl (by omega) (by omega) ?_
    refine g_top (v2 := aI 1) (congrArg aI (by rfl)) ?_
    refine g_callVI [aI a, aI 1] [] rfl rfl rfl rfl (Nat.le_of_ble_eq_true rfl) ms.1 (m_isNamed (by omega) ms V0 ok mt a 1 (by omega)) ?_
    rintro r2 _ ⟨rfl, e3⟩
    rw [e3]
    clear e3 r2
    refine g_b_eq rfl (fun cq41 => ?_) (fun cq41 => ?_)
    · skip
      refine g_iconst rfl ?_
      refine g_istore (l1 := [(7, aI 0), (6, aI 1199), (0, aO (some o)), (1, aI 5), (2, aI a), (3, aI b), (4, aI c), (5, aI f)]) rfl rfl ?_
      refine g_iload rfl rfl ?_
      refine g_if_ne_f rfl (by omega) ?_
      refine g_iconst rfl ?_
      refine g_iret rfl ?_
      refine ⟨V0, rfl, (G0.wide (T2 := fun q => o + 24 ≤ q ∧ q ≤ o + 31) (fun q hq => by have hq : q = o + 24 ∨ q = o + 25 ∨ q = o + 26 ∨ q = o + 27 := hq; show o + 24 ≤ q ∧ q ≤ o + 31; omega)).fs (fun q hq => hq) eV0, ?_⟩
      exact (if_neg (by unfold isS; omega)).symm
    · skip
      refine g_aload_n rfl rfl ?_
      refine g_iload_n rfl rfl ?_
      refine g_iload rfl rfl ?_
      refine g_bipush rfl ?_
      refine g_idivN (m := 100) (n := 1199) rfl (by omega) (by omega) ?_
      refine g_bipush rfl ?_
      refine g_iremN (m := 10) (n := (1199 / 100)) rfl (by omega) ?_
      refine g_top (v2 := aI 1) (congrArg aI (by rfl)) ?_
      refine g_callVI [aI b, aI 1] [] rfl rfl rfl rfl (Nat.le_of_ble_eq_true rfl) ms.1 (m_isNamed (by omega) ms V0 ok mt b 1 (by omega)) ?_
      rintro r4 _ ⟨rfl, e5⟩
      rw [e5]
      clear e5 r4
      refine g_b_eq rfl (fun cq57 => ?_) (fun cq57 => ?_)
      · skip
        refine g_iconst rfl ?_
        refine g_istore (l1 := [(7, aI 0), (6, aI 1199), (0, aO (some o)), (1, aI 5), (2, aI a), (3, aI b), (4, aI c), (5, aI f)]) rfl rfl ?_
        refine g_iload rfl rfl ?_
        refine g_if_ne_f rfl (by omega) ?_
        refine g_iconst rfl ?_
        refine g_iret rfl ?_
        refine ⟨V0, rfl, (G0.wide (T2 := fun q => o + 24 ≤ q ∧ q ≤ o + 31) (fun q hq => by have hq : q = o + 24 ∨ q = o + 25 ∨ q = o + 26 ∨ q = o + 27 := hq; show o + 24 ≤ q ∧ q ≤ o + 31; omega)).fs (fun q hq => hq) eV0, ?_⟩
        exact (if_neg (by unfold isS; omega)).symm
      · skip
        refine g_aload_n rfl rfl ?_
        refine g_iload rfl rfl ?_
        refine g_iload rfl rfl ?_
        refine g_bipush rfl ?_
        refine g_idivN (m := 10) (n := 1199) rfl (by omega) (by omega) ?_
        refine g_bipush rfl ?_
        refine g_iremN (m := 10) (n := (1199 / 10)) rfl (by omega) ?_
        refine g_top (v2 := aI 9) (congrArg aI (by rfl)) ?_
        refine g_callVI [aI c, aI 9] [] rfl rfl rfl rfl (Nat.le_of_ble_eq_true rfl) ms.1 (m_named9 (by omega) ms V0 c) ?_
        rintro r6 hx6 ⟨ehx6, rfl⟩
        rw [ehx6]
        clear ehx6 hx6
        refine g_if_eq_f rfl (by omega) ?_
        refine g_aload_n rfl rfl ?_
        refine g_iload rfl rfl ?_
        refine g_iload rfl rfl ?_
        refine g_bipush rfl ?_
        refine g_iremN (m := 10) (n := 1199) rfl (by omega) ?_
        refine g_top (v2 := aI 9) (congrArg aI (by rfl)) ?_
        refine g_callVI [aI f, aI 9] [] rfl rfl rfl rfl (Nat.le_of_ble_eq_true rfl) ms.1 (m_named9 (by omega) ms V0 f) ?_
        rintro r7 hx7 ⟨ehx7, rfl⟩
        rw [ehx7]
        clear ehx7 hx7
        refine g_if_eq_f rfl (by omega) ?_
        refine g_iconst rfl ?_
        refine g_goto rfl ?_
        refine g_istore (l1 := [(7, aI 1), (6, aI 1199), (0, aO (some o)), (1, aI 5), (2, aI a), (3, aI b), (4, aI c), (5, aI f)]) rfl rfl ?_
        refine g_iload rfl rfl ?_
        refine g_if_ne_t rfl (by omega) ?_
        refine g_aload_n rfl rfl ?_
        have ha : 0 ≤ a ∧ a < sT S := by omega
        have hb : 0 ≤ b ∧ b < sT S := by omega
        refine g_aload_n rfl rfl ?_
        refine g_getR rfl ms.1 (mr_one ms) ?_
        refine g_iload_n rfl rfl ?_
        refine g_callVN [aO (some (o + 24)), aI a] [] rfl rfl rfl rfl (Nat.le_of_ble_eq_true rfl) ms.1 (m_load (by omega) ms V0 ok mt (by have := G0.2.2.1; omega) ((o + 24)) (show SLa o ((o + 24)) by unfold SLa; omega) a ha) ?_
        rintro _ ⟨V8, rfl, g8, t8, u8, v8, y8, s8, xt8, xu8, xv8, xy8⟩
        have G_9 := G0.trans (g8.wide (fun q hq => by have hq : q = o + 24 := hq; show q = o + 24 ∨ q = o + 25 ∨ q = o + 26 ∨ q = o + 27; omega))
        refine g_aload_n rfl rfl ?_
        refine g_aload_n rfl rfl ?_
        refine g_getR rfl ms.1 (mr_two ms) ?_
        refine g_iload_n rfl rfl ?_
        refine g_callVN [aO (some (o + 25)), aI b] [] rfl rfl rfl rfl (Nat.le_of_ble_eq_true rfl) ms.1 (m_load (by omega) ms V8 ok (g8.mt (show ¬((o + 4) = o + 24) by omega) (show ¬((o + 5) = o + 24) by omega) mt) (by have := G_9.2.2.1; omega) ((o + 25)) (show SLa o ((o + 25)) by unfold SLa; omega) b hb) ?_
        rintro _ ⟨V10, rfl, g10, t10, u10, v10, y10, s10, xt10, xu10, xv10, xy10⟩
        have G_11 := G_9.trans (g10.wide (fun q hq => by have hq : q = o + 25 := hq; show q = o + 24 ∨ q = o + 25 ∨ q = o + 26 ∨ q = o + 27; omega))
        refine g_iload rfl rfl ?_
        refine g_bipush rfl ?_
        refine g_idivN (m := 10) (n := 1199) rfl (by omega) (by omega) ?_
        refine g_bipush rfl ?_
        refine g_iremN (m := 10) (n := (1199 / 10)) rfl (by omega) ?_
        refine g_top (v2 := aI 9) (congrArg aI (by rfl)) ?_
        refine g_bipush rfl ?_
        refine g_icmp_eq_t rfl (by omega) ?_
        refine g_iconst rfl ?_
        refine g_istore (l1 := [(8, aI 0), (7, aI 1), (6, aI 1199), (0, aO (some o)), (1, aI 5), (2, aI a), (3, aI b), (4, aI c), (5, aI f)]) rfl rfl ?_
        refine g_aload_n rfl rfl ?_
        refine g_aload_n rfl rfl ?_
        refine g_getR rfl ms.1 (mr_three ms) ?_
        refine g_iload rfl rfl ?_
        refine g_if_eq_t rfl (by omega) ?_
        refine g_iload_n rfl rfl ?_
        refine g_callVN [aO (some (o + 26)), aI a] [] rfl rfl rfl rfl (Nat.le_of_ble_eq_true rfl) ms.1 (m_load (by omega) ms V10 ok (g10.mt (show ¬((o + 4) = o + 25) by omega) (show ¬((o + 5) = o + 25) by omega) (g8.mt (show ¬((o + 4) = o + 24) by omega) (show ¬((o + 5) = o + 24) by omega) mt)) (by have := G_11.2.2.1; omega) ((o + 26)) (show SLa o ((o + 26)) by unfold SLa; omega) a ha) ?_
        rintro _ ⟨V12, rfl, g12, t12, u12, v12, y12, s12, xt12, xu12, xv12, xy12⟩
        have G_13 := G_11.trans (g12.wide (fun q hq => by have hq : q = o + 26 := hq; show q = o + 24 ∨ q = o + 25 ∨ q = o + 26 ∨ q = o + 27; omega))
        refine g_aload_n rfl rfl ?_
        refine g_aload_n rfl rfl ?_
        refine g_getR rfl ms.1 (mr_four ms) ?_
        refine g_iload rfl rfl ?_
        refine g_bipush rfl ?_
        refine g_iremN (m := 10) (n := 1199) rfl (by omega) ?_
        refine g_top (v2 := aI 9) (congrArg aI (by rfl)) ?_
        refine g_bipush rfl ?_
        refine g_icmp_eq_t rfl (by omega) ?_
        refine g_iload_n rfl rfl ?_
        refine g_callVN [aO (some (o + 27)), aI a] [] rfl rfl rfl rfl (Nat.le_of_ble_eq_true rfl) ms.1 (m_load (by omega) ms V12 ok (g12.mt (show ¬((o + 4) = o + 26) by omega) (show ¬((o + 5) = o + 26) by omega) (g10.mt (show ¬((o + 4) = o + 25) by omega) (show ¬((o + 5) = o + 25) by omega) (g8.mt (show ¬((o + 4) = o + 24) by omega) (show ¬((o + 5) = o + 24) by omega) mt))) (by have := G_13.2.2.1; omega) ((o + 27)) (show SLa o ((o + 27)) by unfold SLa; omega) a ha) ?_
        rintro _ ⟨V14, rfl, g14, t14, u14, v14, y14, s14, xt14, xu14, xv14, xy14⟩
        have G_15 := G_13.trans (g14.wide (fun q hq => by have hq : q = o + 27 := hq; show q = o + 24 ∨ q = o + 25 ∨ q = o + 26 ∨ q = o + 27; omega))
        refine g_aload_n rfl rfl ?_
        refine g_iload_n rfl rfl ?_
        refine g_iload_n rfl rfl ?_
        refine g_iload_n rfl rfl ?_
        refine g_iload rfl rfl ?_
        refine g_if_eq_t rfl (by omega) ?_
        refine g_iload_n rfl rfl ?_
        refine g_iload rfl rfl ?_
        refine g_bipush rfl ?_
        refine g_iremN (m := 10) (n := 1199) rfl (by omega) ?_
        refine g_top (v2 := aI 9) (congrArg aI (by rfl)) ?_
        refine g_bipush rfl ?_
        refine g_icmp_eq_t rfl (by omega) ?_
        refine g_iload_n rfl rfl ?_
        refine g_callVI [aI 5, aI a, aI b, aI a, aI a] [] rfl rfl rfl rfl (Nat.le_of_ble_eq_true rfl) ms.1 (m_so5 (by omega) ms V14 ok (g14.mt (show ¬((o + 4) = o + 27) by omega) (show ¬((o + 5) = o + 27) by omega) (g12.mt (show ¬((o + 4) = o + 26) by omega) (show ¬((o + 5) = o + 26) by omega) (g10.mt (show ¬((o + 4) = o + 25) by omega) (show ¬((o + 5) = o + 25) by omega) (g8.mt (show ¬((o + 4) = o + 24) by omega) (show ¬((o + 5) = o + 24) by omega) mt)))) (by have := G_15.2.2.1; omega) (show SB V14 o (o + 24) (tpR S a) (20) from ⟨_, _, _, _, (g14.sa (show SLa o ((o + 24)) by unfold SLa; omega) (show ¬(o + 24 = o + 27) by omega) (g12.sa (show SLa o ((o + 24)) by unfold SLa; omega) (show ¬(o + 24 = o + 26) by omega) (g10.sa (show SLa o ((o + 24)) by unfold SLa; omega) (show ¬(o + 24 = o + 25) by omega) s8))), ((g14.rb (g12.rb (g10.rb xt8))).up (by omega)), ((g14.rb (g12.rb (g10.rb xu8))).up (by omega)), ((g14.rb (g12.rb (g10.rb xv8))).up (by omega)), ((g14.rb (g12.rb (g10.rb xy8))).up (by omega))⟩) (show SB V14 o (o + 25) (tpR S b) (20) from ⟨_, _, _, _, (g14.sa (show SLa o ((o + 25)) by unfold SLa; omega) (show ¬(o + 25 = o + 27) by omega) (g12.sa (show SLa o ((o + 25)) by unfold SLa; omega) (show ¬(o + 25 = o + 26) by omega) s10)), ((g14.rb (g12.rb xt10)).up (by omega)), ((g14.rb (g12.rb xu10)).up (by omega)), ((g14.rb (g12.rb xv10)).up (by omega)), ((g14.rb (g12.rb xy10)).up (by omega))⟩) (show SB V14 o (o + 26) (tpR S a) (20) from ⟨_, _, _, _, (g14.sa (show SLa o ((o + 26)) by unfold SLa; omega) (show ¬(o + 26 = o + 27) by omega) s12), ((g14.rb xt12).up (by omega)), ((g14.rb xu12).up (by omega)), ((g14.rb xv12).up (by omega)), ((g14.rb xy12).up (by omega))⟩) (show SB V14 o (o + 27) (tpR S a) (20) from ⟨_, _, _, _, s14, (xt14.up (by omega)), (xu14.up (by omega)), (xv14.up (by omega)), (xy14.up (by omega))⟩) a ha b hb a ha a ha) ?_
        rintro _ _ ⟨rfl, V16, rfl, g16⟩
        have G_17 := G_15.trans (g16.gs _)
        refine g_b_eq rfl (fun cq220 => ?_) (fun cq220 => ?_)
        · skip
          refine g_iconst rfl ?_
          refine g_iret rfl ?_
          refine ⟨_, rfl, (G_17.wide (T2 := fun q => o + 24 ≤ q ∧ q ≤ o + 31) (fun q hq => by have hq : q = o + 24 ∨ q = o + 25 ∨ q = o + 26 ∨ q = o + 27 := hq; show o + 24 ≤ q ∧ q ≤ o + 31; omega)).fs (fun q hq => hq) eV0, ?_⟩
          rw [if_pos (by unfold isS; omega)]
          first
            | exact (if_pos cq220).symm
            | exact (if_neg cq220).symm
        · skip
          refine g_iconst rfl ?_
          refine g_goto rfl ?_
          refine g_iret rfl ?_
          refine ⟨_, rfl, (G_17.wide (T2 := fun q => o + 24 ≤ q ∧ q ≤ o + 31) (fun q hq => by have hq : q = o + 24 ∨ q = o + 25 ∨ q = o + 26 ∨ q = o + 27 := hq; show o + 24 ≤ q ∧ q ≤ o + 31; omega)).fs (fun q hq => hq) eV0, ?_⟩
          rw [if_pos (by unfold isS; omega)]
          first
            | exact (if_pos cq220).symm
            | exact (if_neg cq220).symm
  · skip
    refine g_iconst rfl ?_
    refine g_iret rfl ?_
    refine ⟨V0, rfl, (G0.wide (T2 := fun q => o + 24 ≤ q ∧ q ≤ o + 31) (fun q hq => by have hq : q = o + 24 ∨ q = o + 25 ∨ q = o + 26 ∨ q = o + 27 := hq; show o + 24 ≤ q ∧ q ≤ o + 31; omega)).fs (fun q hq => hq) eV0, ?_⟩
    exact (if_neg (by unfold isS; omega)).symm
set_option maxRecDepth 100000 in
set_option maxHeartbeats 4000000 in
theorem m_holds6 {w : aW} {d : Nat} (hd : 10 ≤ d) {h : aH} {o : Nat} (ms : MS h o) (V : Nat → Nat → Int) {S : aS} (ok : OkT S) (mt : MT V o S) (a b c f : Int) : WP w d 324 [aO (some o), aI 6, aI a, aI b, aI c, aI f] (hw h V) (RI (fun r h1 => ∃ V1, h1 = hw h V1 ∧ FS V V1 o ∧ r = if isS S a 0 ∧ isS S b 0 ∧ isS S c 0 ∧ isS S f 0 then (if (¬ sTp S a.toNat 2 = 0 ∧ ¬ sTp S b.toNat 2 = 0 ∧ ¬ sTp S c.toNat 2 = 0 ∧ ¬ sTp S f.toNat 2 = 0) ∧ m_apart_S (tpR S a) (tpR S b) * (((tpR S c).2.2.1 * (tpR S f).2.2.1) * ((tpR S c).2.2.1 * (tpR S f).2.2.1)) = m_apart_S (tpR S c) (tpR S f) * (((tpR S a).2.2.1 * (tpR S b).2.2.1) * ((tpR S a).2.2.1 * (tpR S b).2.2.1)) then 1 else 0) else -1)) := by
  obtain ⟨d, rfl⟩ : ∃ d1, d = d1 + 1 := ⟨d - 1, by omega⟩
  refine WP.enter (cd := cd_X12_holds) rfl ?_
  have hn := ok.1
  have hls : largs 0 [aO (some o), aI 6, aI a, aI b, aI c, aI f] = [(0, aO (some o)), (1, aI 6), (2, aI a), (3, aI b), (4, aI c), (5, aI f)] := rfl
  rw [hls]
  clear hls
  refine g_aload_n rfl rfl ?_
  refine g_iconst rfl ?_
  refine g_putI rfl ms.1 ?_
  refine g_hp (h2 := hw h (vset V o 31 0)) rfl ?_
  refine g_aload_n rfl rfl ?_
  refine g_iconst rfl ?_
  refine g_putI rfl ms.1 ?_
  obtain ⟨V0, eV0⟩ : ∃ W, W = vset (vset V o 31 0) o 1 0 := ⟨_, rfl⟩
  refine g_hp (h2 := hw h V0) (by rw [eV0]; rfl) ?_
  have mt : MT V0 o S := by rw [eV0]; exact mt.rs
  have f0 : V0 o 1 = 0 := by rw [eV0]; exact vset_eq _ _ _ _
  have G0 := Gs.refl V0 o (fun q => q = o + 24 ∨ q = o + 25 ∨ q = o + 26 ∨ q = o + 27)
  refine g_iload_n rfl rfl ?_
  refine g_i2l rfl ?_
  refine g_lconst0 rfl ?_
  refine g_ldc2 rfl ?_
  refine g_callSI [aJ 6, aJ 0, aJ 14] [] rfl rfl rfl rfl (Nat.le_of_ble_eq_true rfl) (c_in (by omega) _ _ _ _) ?_
  rintro r1 _ ⟨rfl, rfl⟩
  refine g_b_ne rfl (fun cq19 => ?_) (fun cq19 => ?_)
  · skip
    refine g_iload_n rfl rfl ?_
    refine g_callSI [aI 6] [] rfl rfl rfl rfl (Nat.le_of_ble_eq_true rfl) (m_names6 (by omega) _) ?_
    rintro _ _ ⟨rfl, rfl⟩
    refine g_istore (l1 := [(6, aI 0), (0, aO (some o)), (1, aI 6), (2, aI a), (3, aI b), (4, aI c), (5, aI f)]) rfl rfl ?_
    refine g_aload_n rfl rfl ?_
    refine g_iload_n rfl rfl ?_
    refine g_iload rfl rfl ?_
    refine g_sipush rfl ?_
    refine g_idivN (m := 1000) (n := 0) rfl (by omega) (by omega) ?_
    refine g_top (v2 := aI 0) (congrArg aI (by rfl)) ?_
    refine g_callVI [aI a, aI 0] [] rfl rfl rfl rfl (Nat.le_of_ble_eq_true rfl) ms.1 (m_isNamed (by omega) ms V0 ok mt a 0 (by omega)) ?_
    rintro r2 _ ⟨rfl, e3⟩
    rw [e3]
    clear e3 r2
    refine g_b_eq rfl (fun cq41 => ?_) (fun cq41 => ?_)
    · skip
      refine g_iconst rfl ?_
      refine g_istore (l1 := [(7, aI 0), (6, aI 0), (0, aO (some o)), (1, aI 6), (2, aI a), (3, aI b), (4, aI c), (5, aI f)]) rfl rfl ?_
      refine g_iload rfl rfl ?_
      refine g_if_ne_f rfl (by omega) ?_
      refine g_iconst rfl ?_
      refine g_iret rfl ?_
      refine ⟨V0, rfl, (G0.wide (T2 := fun q => o + 24 ≤ q ∧ q ≤ o + 31) (fun q hq => by have hq : q = o + 24 ∨ q = o + 25 ∨ q = o + 26 ∨ q = o + 27 := hq; show o + 24 ≤ q ∧ q ≤ o + 31; omega)).fs (fun q hq => hq) eV0, ?_⟩
      exact (if_neg (by unfold isS; omega)).symm
    · skip
      refine g_aload_n rfl rfl ?_
      refine g_iload_n rfl rfl ?_
      refine g_iload rfl rfl ?_
      refine g_bipush rfl ?_
      refine g_idivN (m := 100) (n := 0) rfl (by omega) (by omega) ?_
      refine g_bipush rfl ?_
      refine g_iremN (m := 10) (n := (0 / 100)) rfl (by omega) ?_
      refine g_top (v2 := aI 0) (congrArg aI (by rfl)) ?_
      refine g_callVI [aI b, aI 0] [] rfl rfl rfl rfl (Nat.le_of_ble_eq_true rfl) ms.1 (m_isNamed (by omega) ms V0 ok mt b 0 (by omega)) ?_
      rintro r4 _ ⟨rfl, e5⟩
      rw [e5]
      clear e5 r4
      refine g_b_eq rfl (fun cq57 => ?_) (fun cq57 => ?_)
      · skip
        refine g_iconst rfl ?_
        refine g_istore (l1 := [(7, aI 0), (6, aI 0), (0, aO (some o)), (1, aI 6), (2, aI a), (3, aI b), (4, aI c), (5, aI f)]) rfl rfl ?_
        refine g_iload rfl rfl ?_
        refine g_if_ne_f rfl (by omega) ?_
        refine g_iconst rfl ?_
        refine g_iret rfl ?_
        refine ⟨V0, rfl, (G0.wide (T2 := fun q => o + 24 ≤ q ∧ q ≤ o + 31) (fun q hq => by have hq : q = o + 24 ∨ q = o + 25 ∨ q = o + 26 ∨ q = o + 27 := hq; show o + 24 ≤ q ∧ q ≤ o + 31; omega)).fs (fun q hq => hq) eV0, ?_⟩
        exact (if_neg (by unfold isS; omega)).symm
      · skip
        refine g_aload_n rfl rfl ?_
        refine g_iload rfl rfl ?_
        refine g_iload rfl rfl ?_
        refine g_bipush rfl ?_
        refine g_idivN (m := 10) (n := 0) rfl (by omega) (by omega) ?_
        refine g_bipush rfl ?_
        refine g_iremN (m := 10) (n := (0 / 10)) rfl (by omega) ?_
        refine g_top (v2 := aI 0) (congrArg aI (by rfl)) ?_
        refine g_callVI [aI c, aI 0] [] rfl rfl rfl rfl (Nat.le_of_ble_eq_true rfl) ms.1 (m_isNamed (by omega) ms V0 ok mt c 0 (by omega)) ?_
        rintro r6 _ ⟨rfl, e7⟩
        rw [e7]
        clear e7 r6
        refine g_b_eq rfl (fun cq74 => ?_) (fun cq74 => ?_)
        · skip
          refine g_iconst rfl ?_
          refine g_istore (l1 := [(7, aI 0), (6, aI 0), (0, aO (some o)), (1, aI 6), (2, aI a), (3, aI b), (4, aI c), (5, aI f)]) rfl rfl ?_
          refine g_iload rfl rfl ?_
          refine g_if_ne_f rfl (by omega) ?_
          refine g_iconst rfl ?_
          refine g_iret rfl ?_
          refine ⟨V0, rfl, (G0.wide (T2 := fun q => o + 24 ≤ q ∧ q ≤ o + 31) (fun q hq => by have hq : q = o + 24 ∨ q = o + 25 ∨ q = o + 26 ∨ q = o + 27 := hq; show o + 24 ≤ q ∧ q ≤ o + 31; omega)).fs (fun q hq => hq) eV0, ?_⟩
          exact (if_neg (by unfold isS; omega)).symm
        · skip
          refine g_aload_n rfl rfl ?_
          refine g_iload rfl rfl ?_
          refine g_iload rfl rfl ?_
          refine g_bipush rfl ?_
          refine g_iremN (m := 10) (n := 0) rfl (by omega) ?_
          refine g_top (v2 := aI 0) (congrArg aI (by rfl)) ?_
          refine g_callVI [aI f, aI 0] [] rfl rfl rfl rfl (Nat.le_of_ble_eq_true rfl) ms.1 (m_isNamed (by omega) ms V0 ok mt f 0 (by omega)) ?_
          rintro r8 _ ⟨rfl, e9⟩
          rw [e9]
          clear e9 r8
          refine g_b_eq rfl (fun cq88 => ?_) (fun cq88 => ?_)
          · skip
            refine g_iconst rfl ?_
            refine g_istore (l1 := [(7, aI 0), (6, aI 0), (0, aO (some o)), (1, aI 6), (2, aI a), (3, aI b), (4, aI c), (5, aI f)]) rfl rfl ?_
            refine g_iload rfl rfl ?_
            refine g_if_ne_f rfl (by omega) ?_
            refine g_iconst rfl ?_
            refine g_iret rfl ?_
            refine ⟨V0, rfl, (G0.wide (T2 := fun q => o + 24 ≤ q ∧ q ≤ o + 31) (fun q hq => by have hq : q = o + 24 ∨ q = o + 25 ∨ q = o + 26 ∨ q = o + 27 := hq; show o + 24 ≤ q ∧ q ≤ o + 31; omega)).fs (fun q hq => hq) eV0, ?_⟩
            exact (if_neg (by unfold isS; omega)).symm
          · skip
            refine g_iconst rfl ?_
            refine g_goto rfl ?_
            refine g_istore (l1 := [(7, aI 1), (6, aI 0), (0, aO (some o)), (1, aI 6), (2, aI a), (3, aI b), (4, aI c), (5, aI f)]) rfl rfl ?_
            refine g_iload rfl rfl ?_
            refine g_if_ne_t rfl (by omega) ?_
            refine g_aload_n rfl rfl ?_
            have ha : 0 ≤ a ∧ a < sT S := by omega
            have hb : 0 ≤ b ∧ b < sT S := by omega
            have hc : 0 ≤ c ∧ c < sT S := by omega
            have hf : 0 ≤ f ∧ f < sT S := by omega
            refine g_aload_n rfl rfl ?_
            refine g_getR rfl ms.1 (mr_one ms) ?_
            refine g_iload_n rfl rfl ?_
            refine g_callVN [aO (some (o + 24)), aI a] [] rfl rfl rfl rfl (Nat.le_of_ble_eq_true rfl) ms.1 (m_load (by omega) ms V0 ok mt (by have := G0.2.2.1; omega) ((o + 24)) (show SLa o ((o + 24)) by unfold SLa; omega) a ha) ?_
            rintro _ ⟨V10, rfl, g10, t10, u10, v10, y10, s10, xt10, xu10, xv10, xy10⟩
            have G_11 := G0.trans (g10.wide (fun q hq => by have hq : q = o + 24 := hq; show q = o + 24 ∨ q = o + 25 ∨ q = o + 26 ∨ q = o + 27; omega))
            refine g_aload_n rfl rfl ?_
            refine g_aload_n rfl rfl ?_
            refine g_getR rfl ms.1 (mr_two ms) ?_
            refine g_iload_n rfl rfl ?_
            refine g_callVN [aO (some (o + 25)), aI b] [] rfl rfl rfl rfl (Nat.le_of_ble_eq_true rfl) ms.1 (m_load (by omega) ms V10 ok (g10.mt (show ¬((o + 4) = o + 24) by omega) (show ¬((o + 5) = o + 24) by omega) mt) (by have := G_11.2.2.1; omega) ((o + 25)) (show SLa o ((o + 25)) by unfold SLa; omega) b hb) ?_
            rintro _ ⟨V12, rfl, g12, t12, u12, v12, y12, s12, xt12, xu12, xv12, xy12⟩
            have G_13 := G_11.trans (g12.wide (fun q hq => by have hq : q = o + 25 := hq; show q = o + 24 ∨ q = o + 25 ∨ q = o + 26 ∨ q = o + 27; omega))
            refine g_iload rfl rfl ?_
            refine g_bipush rfl ?_
            refine g_idivN (m := 10) (n := 0) rfl (by omega) (by omega) ?_
            refine g_bipush rfl ?_
            refine g_iremN (m := 10) (n := (0 / 10)) rfl (by omega) ?_
            refine g_top (v2 := aI 0) (congrArg aI (by rfl)) ?_
            refine g_bipush rfl ?_
            refine g_icmp_eq_f rfl (by omega) ?_
            refine g_iconst rfl ?_
            refine g_goto rfl ?_
            refine g_istore (l1 := [(8, aI 1), (7, aI 1), (6, aI 0), (0, aO (some o)), (1, aI 6), (2, aI a), (3, aI b), (4, aI c), (5, aI f)]) rfl rfl ?_
            refine g_aload_n rfl rfl ?_
            refine g_aload_n rfl rfl ?_
            refine g_getR rfl ms.1 (mr_three ms) ?_
            refine g_iload rfl rfl ?_
            refine g_if_eq_f rfl (by omega) ?_
            refine g_iload rfl rfl ?_
            refine g_goto rfl ?_
            refine g_callVN [aO (some (o + 26)), aI c] [] rfl rfl rfl rfl (Nat.le_of_ble_eq_true rfl) ms.1 (m_load (by omega) ms V12 ok (g12.mt (show ¬((o + 4) = o + 25) by omega) (show ¬((o + 5) = o + 25) by omega) (g10.mt (show ¬((o + 4) = o + 24) by omega) (show ¬((o + 5) = o + 24) by omega) mt)) (by have := G_13.2.2.1; omega) ((o + 26)) (show SLa o ((o + 26)) by unfold SLa; omega) c hc) ?_
            rintro _ ⟨V14, rfl, g14, t14, u14, v14, y14, s14, xt14, xu14, xv14, xy14⟩
            have G_15 := G_13.trans (g14.wide (fun q hq => by have hq : q = o + 26 := hq; show q = o + 24 ∨ q = o + 25 ∨ q = o + 26 ∨ q = o + 27; omega))
            refine g_aload_n rfl rfl ?_
            refine g_aload_n rfl rfl ?_
            refine g_getR rfl ms.1 (mr_four ms) ?_
            refine g_iload rfl rfl ?_
            refine g_bipush rfl ?_
            refine g_iremN (m := 10) (n := 0) rfl (by omega) ?_
            refine g_top (v2 := aI 0) (congrArg aI (by rfl)) ?_
            refine g_bipush rfl ?_
            refine g_icmp_eq_f rfl (by omega) ?_
            refine g_iload rfl rfl ?_
            refine g_goto rfl ?_
            refine g_callVN [aO (some (o + 27)), aI f] [] rfl rfl rfl rfl (Nat.le_of_ble_eq_true rfl) ms.1 (m_load (by omega) ms V14 ok (g14.mt (show ¬((o + 4) = o + 26) by omega) (show ¬((o + 5) = o + 26) by omega) (g12.mt (show ¬((o + 4) = o + 25) by omega) (show ¬((o + 5) = o + 25) by omega) (g10.mt (show ¬((o + 4) = o + 24) by omega) (show ¬((o + 5) = o + 24) by omega) mt))) (by have := G_15.2.2.1; omega) ((o + 27)) (show SLa o ((o + 27)) by unfold SLa; omega) f hf) ?_
            rintro _ ⟨V16, rfl, g16, t16, u16, v16, y16, s16, xt16, xu16, xv16, xy16⟩
            have G_17 := G_15.trans (g16.wide (fun q hq => by have hq : q = o + 27 := hq; show q = o + 24 ∨ q = o + 25 ∨ q = o + 26 ∨ q = o + 27; omega))
            refine g_aload_n rfl rfl ?_
            refine g_iload_n rfl rfl ?_
            refine g_iload_n rfl rfl ?_
            refine g_iload_n rfl rfl ?_
            refine g_iload rfl rfl ?_
            refine g_if_eq_f rfl (by omega) ?_
            refine g_iload rfl rfl ?_
            refine g_goto rfl ?_
            refine g_iload rfl rfl ?_
            refine g_bipush rfl ?_
            refine g_iremN (m := 10) (n := 0) rfl (by omega) ?_
            refine g_top (v2 := aI 0) (congrArg aI (by rfl)) ?_
            refine g_bipush rfl ?_
            refine g_icmp_eq_f rfl (by omega) ?_
            refine g_iload rfl rfl ?_
            refine g_goto rfl ?_
            refine g_callVI [aI 6, aI a, aI b, aI c, aI f] [] rfl rfl rfl rfl (Nat.le_of_ble_eq_true rfl) ms.1 (m_so6 (by omega) ms V16 ok (g16.mt (show ¬((o + 4) = o + 27) by omega) (show ¬((o + 5) = o + 27) by omega) (g14.mt (show ¬((o + 4) = o + 26) by omega) (show ¬((o + 5) = o + 26) by omega) (g12.mt (show ¬((o + 4) = o + 25) by omega) (show ¬((o + 5) = o + 25) by omega) (g10.mt (show ¬((o + 4) = o + 24) by omega) (show ¬((o + 5) = o + 24) by omega) mt)))) (by have := G_17.2.2.1; omega) (show SB V16 o (o + 24) (tpR S a) (20) from ⟨_, _, _, _, (g16.sa (show SLa o ((o + 24)) by unfold SLa; omega) (show ¬(o + 24 = o + 27) by omega) (g14.sa (show SLa o ((o + 24)) by unfold SLa; omega) (show ¬(o + 24 = o + 26) by omega) (g12.sa (show SLa o ((o + 24)) by unfold SLa; omega) (show ¬(o + 24 = o + 25) by omega) s10))), ((g16.rb (g14.rb (g12.rb xt10))).up (by omega)), ((g16.rb (g14.rb (g12.rb xu10))).up (by omega)), ((g16.rb (g14.rb (g12.rb xv10))).up (by omega)), ((g16.rb (g14.rb (g12.rb xy10))).up (by omega))⟩) (show SB V16 o (o + 25) (tpR S b) (20) from ⟨_, _, _, _, (g16.sa (show SLa o ((o + 25)) by unfold SLa; omega) (show ¬(o + 25 = o + 27) by omega) (g14.sa (show SLa o ((o + 25)) by unfold SLa; omega) (show ¬(o + 25 = o + 26) by omega) s12)), ((g16.rb (g14.rb xt12)).up (by omega)), ((g16.rb (g14.rb xu12)).up (by omega)), ((g16.rb (g14.rb xv12)).up (by omega)), ((g16.rb (g14.rb xy12)).up (by omega))⟩) (show SB V16 o (o + 26) (tpR S c) (20) from ⟨_, _, _, _, (g16.sa (show SLa o ((o + 26)) by unfold SLa; omega) (show ¬(o + 26 = o + 27) by omega) s14), ((g16.rb xt14).up (by omega)), ((g16.rb xu14).up (by omega)), ((g16.rb xv14).up (by omega)), ((g16.rb xy14).up (by omega))⟩) (show SB V16 o (o + 27) (tpR S f) (20) from ⟨_, _, _, _, s16, (xt16.up (by omega)), (xu16.up (by omega)), (xv16.up (by omega)), (xy16.up (by omega))⟩) a ha b hb c hc f hf) ?_
            rintro _ _ ⟨rfl, V18, rfl, g18⟩
            have G_19 := G_17.trans (g18.gs _)
            refine g_b_eq rfl (fun cq220 => ?_) (fun cq220 => ?_)
            · skip
              refine g_iconst rfl ?_
              refine g_iret rfl ?_
              refine ⟨_, rfl, (G_19.wide (T2 := fun q => o + 24 ≤ q ∧ q ≤ o + 31) (fun q hq => by have hq : q = o + 24 ∨ q = o + 25 ∨ q = o + 26 ∨ q = o + 27 := hq; show o + 24 ≤ q ∧ q ≤ o + 31; omega)).fs (fun q hq => hq) eV0, ?_⟩
              rw [if_pos (by unfold isS; omega)]
              first
                | exact (if_pos cq220).symm
                | exact (if_neg cq220).symm
            · skip
              refine g_iconst rfl ?_
              refine g_goto rfl ?_
              refine g_iret rfl ?_
              refine ⟨_, rfl, (G_19.wide (T2 := fun q => o + 24 ≤ q ∧ q ≤ o + 31) (fun q hq => by have hq : q = o + 24 ∨ q = o + 25 ∨ q = o + 26 ∨ q = o + 27 := hq; show o + 24 ≤ q ∧ q ≤ o + 31; omega)).fs (fun q hq => hq) eV0, ?_⟩
              rw [if_pos (by unfold isS; omega)]
              first
                | exact (if_pos cq220).symm
                | exact (if_neg cq220).symm
  · skip
    refine g_iconst rfl ?_
    refine g_iret rfl ?_
    refine ⟨V0, rfl, (G0.wide (T2 := fun q => o + 24 ≤ q ∧ q ≤ o + 31) (fun q hq => by have hq : q = o + 24 ∨ q = o + 25 ∨ q = o + 26 ∨ q = o + 27 := hq; show o + 24 ≤ q ∧ q ≤ o + 31; omega)).fs (fun q hq => hq) eV0, ?_⟩
    exact (if_neg (by unfold isS; omega)).symm
set_option maxRecDepth 100000 in
set_option maxHeartbeats 4000000 in
theorem m_holds7 {w : aW} {d : Nat} (hd : 10 ≤ d) {h : aH} {o : Nat} (ms : MS h o) (V : Nat → Nat → Int) {S : aS} (ok : OkT S) (mt : MT V o S) (a b c f : Int) : WP w d 324 [aO (some o), aI 7, aI a, aI b, aI c, aI f] (hw h V) (RI (fun r h1 => ∃ V1, h1 = hw h V1 ∧ FS V V1 o ∧ r = if isS S a 0 ∧ isS S b 0 ∧ isS S c 0 ∧ isS S f 0 then (if (¬ sTp S a.toNat 2 = 0 ∧ ¬ sTp S b.toNat 2 = 0 ∧ ¬ sTp S c.toNat 2 = 0 ∧ ¬ sTp S f.toNat 2 = 0) ∧ (¬ (sTp S a.toNat 0 = sTp S b.toNat 0 ∧ sTp S a.toNat 1 = sTp S b.toNat 1 ∧ sTp S a.toNat 2 = sTp S b.toNat 2 ∧ sTp S a.toNat 3 = sTp S b.toNat 3) ∧ ¬ (sTp S a.toNat 0 = sTp S c.toNat 0 ∧ sTp S a.toNat 1 = sTp S c.toNat 1 ∧ sTp S a.toNat 2 = sTp S c.toNat 2 ∧ sTp S a.toNat 3 = sTp S c.toNat 3) ∧ ¬ (sTp S a.toNat 0 = sTp S f.toNat 0 ∧ sTp S a.toNat 1 = sTp S f.toNat 1 ∧ sTp S a.toNat 2 = sTp S f.toNat 2 ∧ sTp S a.toNat 3 = sTp S f.toNat 3) ∧ ¬ (sTp S b.toNat 0 = sTp S c.toNat 0 ∧ sTp S b.toNat 1 = sTp S c.toNat 1 ∧ sTp S b.toNat 2 = sTp S c.toNat 2 ∧ sTp S b.toNat 3 = sTp S c.toNat 3) ∧ ¬ (sTp S b.toNat 0 = sTp S f.toNat 0 ∧ sTp S b.toNat 1 = sTp S f.toNat 1 ∧ sTp S b.toNat 2 = sTp S f.toNat 2 ∧ sTp S b.toNat 3 = sTp S f.toNat 3) ∧ ¬ (sTp S c.toNat 0 = sTp S f.toNat 0 ∧ sTp S c.toNat 1 = sTp S f.toNat 1 ∧ sTp S c.toNat 2 = sTp S f.toNat 2 ∧ sTp S c.toNat 3 = sTp S f.toNat 3)) ∧ m_onB (tpR S f) (m_thru_O (tpR S a) (tpR S b) (tpR S c)) = true then 1 else 0) else -1)) := by
  obtain ⟨d, rfl⟩ : ∃ d1, d = d1 + 1 := ⟨d - 1, by omega⟩
  refine WP.enter (cd := cd_X12_holds) rfl ?_
  have hn := ok.1
  have hls : largs 0 [aO (some o), aI 7, aI a, aI b, aI c, aI f] = [(0, aO (some o)), (1, aI 7), (2, aI a), (3, aI b), (4, aI c), (5, aI f)] := rfl
  rw [hls]
  clear hls
  refine g_aload_n rfl rfl ?_
  refine g_iconst rfl ?_
  refine g_putI rfl ms.1 ?_
  refine g_hp (h2 := hw h (vset V o 31 0)) rfl ?_
  refine g_aload_n rfl rfl ?_
  refine g_iconst rfl ?_
  refine g_putI rfl ms.1 ?_
  obtain ⟨V0, eV0⟩ : ∃ W, W = vset (vset V o 31 0) o 1 0 := ⟨_, rfl⟩
  refine g_hp (h2 := hw h V0) (by rw [eV0]; rfl) ?_
  have mt : MT V0 o S := by rw [eV0]; exact mt.rs
  have f0 : V0 o 1 = 0 := by rw [eV0]; exact vset_eq _ _ _ _
  have G0 := Gs.refl V0 o (fun q => q = o + 24 ∨ q = o + 25 ∨ q = o + 26 ∨ q = o + 27 ∨ q = o + 29)
  refine g_iload_n rfl rfl ?_
  refine g_i2l rfl ?_
  refine g_lconst0 rfl ?_
  refine g_ldc2 rfl ?_
  refine g_callSI [aJ 7, aJ 0, aJ 14] [] rfl rfl rfl rfl (Nat.le_of_ble_eq_true rfl) (c_in (by omega) _ _ _ _) ?_
  rintro r1 _ ⟨rfl, rfl⟩
  refine g_b_ne rfl (fun cq19 => ?_) (fun cq19 => ?_)
  · skip
    refine g_iload_n rfl rfl ?_
    refine g_callSI [aI 7] [] rfl rfl rfl rfl (Nat.le_of_ble_eq_true rfl) (m_names7 (by omega) _) ?_
    rintro _ _ ⟨rfl, rfl⟩
    refine g_istore (l1 := [(6, aI 0), (0, aO (some o)), (1, aI 7), (2, aI a), (3, aI b), (4, aI c), (5, aI f)]) rfl rfl ?_
    refine g_aload_n rfl rfl ?_
    refine g_iload_n rfl rfl ?_
    refine g_iload rfl rfl ?_
    refine g_sipush rfl ?_
    refine g_idivN (m := 1000) (n := 0) rfl (by omega) (by omega) ?_
    refine g_top (v2 := aI 0) (congrArg aI (by rfl)) ?_
    refine g_callVI [aI a, aI 0] [] rfl rfl rfl rfl (Nat.le_of_ble_eq_true rfl) ms.1 (m_isNamed (by omega) ms V0 ok mt a 0 (by omega)) ?_
    rintro r2 _ ⟨rfl, e3⟩
    rw [e3]
    clear e3 r2
    refine g_b_eq rfl (fun cq41 => ?_) (fun cq41 => ?_)
    · skip
      refine g_iconst rfl ?_
      refine g_istore (l1 := [(7, aI 0), (6, aI 0), (0, aO (some o)), (1, aI 7), (2, aI a), (3, aI b), (4, aI c), (5, aI f)]) rfl rfl ?_
      refine g_iload rfl rfl ?_
      refine g_if_ne_f rfl (by omega) ?_
      refine g_iconst rfl ?_
      refine g_iret rfl ?_
      refine ⟨V0, rfl, (G0.wide (T2 := fun q => o + 24 ≤ q ∧ q ≤ o + 31) (fun q hq => by have hq : q = o + 24 ∨ q = o + 25 ∨ q = o + 26 ∨ q = o + 27 ∨ q = o + 29 := hq; show o + 24 ≤ q ∧ q ≤ o + 31; omega)).fs (fun q hq => hq) eV0, ?_⟩
      exact (if_neg (by unfold isS; omega)).symm
    · skip
      refine g_aload_n rfl rfl ?_
      refine g_iload_n rfl rfl ?_
      refine g_iload rfl rfl ?_
      refine g_bipush rfl ?_
      refine g_idivN (m := 100) (n := 0) rfl (by omega) (by omega) ?_
      refine g_bipush rfl ?_
      refine g_iremN (m := 10) (n := (0 / 100)) rfl (by omega) ?_
      refine g_top (v2 := aI 0) (congrArg aI (by rfl)) ?_
      refine g_callVI [aI b, aI 0] [] rfl rfl rfl rfl (Nat.le_of_ble_eq_true rfl) ms.1 (m_isNamed (by omega) ms V0 ok mt b 0 (by omega)) ?_
      rintro r4 _ ⟨rfl, e5⟩
      rw [e5]
      clear e5 r4
      refine g_b_eq rfl (fun cq57 => ?_) (fun cq57 => ?_)
      · skip
        refine g_iconst rfl ?_
        refine g_istore (l1 := [(7, aI 0), (6, aI 0), (0, aO (some o)), (1, aI 7), (2, aI a), (3, aI b), (4, aI c), (5, aI f)]) rfl rfl ?_
        refine g_iload rfl rfl ?_
        refine g_if_ne_f rfl (by omega) ?_
        refine g_iconst rfl ?_
        refine g_iret rfl ?_
        refine ⟨V0, rfl, (G0.wide (T2 := fun q => o + 24 ≤ q ∧ q ≤ o + 31) (fun q hq => by have hq : q = o + 24 ∨ q = o + 25 ∨ q = o + 26 ∨ q = o + 27 ∨ q = o + 29 := hq; show o + 24 ≤ q ∧ q ≤ o + 31; omega)).fs (fun q hq => hq) eV0, ?_⟩
        exact (if_neg (by unfold isS; omega)).symm
      · skip
        refine g_aload_n rfl rfl ?_
        refine g_iload rfl rfl ?_
        refine g_iload rfl rfl ?_
        refine g_bipush rfl ?_
        refine g_idivN (m := 10) (n := 0) rfl (by omega) (by omega) ?_
        refine g_bipush rfl ?_
        refine g_iremN (m := 10) (n := (0 / 10)) rfl (by omega) ?_
        refine g_top (v2 := aI 0) (congrArg aI (by rfl)) ?_
        refine g_callVI [aI c, aI 0] [] rfl rfl rfl rfl (Nat.le_of_ble_eq_true rfl) ms.1 (m_isNamed (by omega) ms V0 ok mt c 0 (by omega)) ?_
        rintro r6 _ ⟨rfl, e7⟩
        rw [e7]
        clear e7 r6
        refine g_b_eq rfl (fun cq74 => ?_) (fun cq74 => ?_)
        · skip
          refine g_iconst rfl ?_
          refine g_istore (l1 := [(7, aI 0), (6, aI 0), (0, aO (some o)), (1, aI 7), (2, aI a), (3, aI b), (4, aI c), (5, aI f)]) rfl rfl ?_
          refine g_iload rfl rfl ?_
          refine g_if_ne_f rfl (by omega) ?_
          refine g_iconst rfl ?_
          refine g_iret rfl ?_
          refine ⟨V0, rfl, (G0.wide (T2 := fun q => o + 24 ≤ q ∧ q ≤ o + 31) (fun q hq => by have hq : q = o + 24 ∨ q = o + 25 ∨ q = o + 26 ∨ q = o + 27 ∨ q = o + 29 := hq; show o + 24 ≤ q ∧ q ≤ o + 31; omega)).fs (fun q hq => hq) eV0, ?_⟩
          exact (if_neg (by unfold isS; omega)).symm
        · skip
          refine g_aload_n rfl rfl ?_
          refine g_iload rfl rfl ?_
          refine g_iload rfl rfl ?_
          refine g_bipush rfl ?_
          refine g_iremN (m := 10) (n := 0) rfl (by omega) ?_
          refine g_top (v2 := aI 0) (congrArg aI (by rfl)) ?_
          refine g_callVI [aI f, aI 0] [] rfl rfl rfl rfl (Nat.le_of_ble_eq_true rfl) ms.1 (m_isNamed (by omega) ms V0 ok mt f 0 (by omega)) ?_
          rintro r8 _ ⟨rfl, e9⟩
          rw [e9]
          clear e9 r8
          refine g_b_eq rfl (fun cq88 => ?_) (fun cq88 => ?_)
          · skip
            refine g_iconst rfl ?_
            refine g_istore (l1 := [(7, aI 0), (6, aI 0), (0, aO (some o)), (1, aI 7), (2, aI a), (3, aI b), (4, aI c), (5, aI f)]) rfl rfl ?_
            refine g_iload rfl rfl ?_
            refine g_if_ne_f rfl (by omega) ?_
            refine g_iconst rfl ?_
            refine g_iret rfl ?_
            refine ⟨V0, rfl, (G0.wide (T2 := fun q => o + 24 ≤ q ∧ q ≤ o + 31) (fun q hq => by have hq : q = o + 24 ∨ q = o + 25 ∨ q = o + 26 ∨ q = o + 27 ∨ q = o + 29 := hq; show o + 24 ≤ q ∧ q ≤ o + 31; omega)).fs (fun q hq => hq) eV0, ?_⟩
            exact (if_neg (by unfold isS; omega)).symm
          · skip
            refine g_iconst rfl ?_
            refine g_goto rfl ?_
            refine g_istore (l1 := [(7, aI 1), (6, aI 0), (0, aO (some o)), (1, aI 7), (2, aI a), (3, aI b), (4, aI c), (5, aI f)]) rfl rfl ?_
            refine g_iload rfl rfl ?_
            refine g_if_ne_t rfl (by omega) ?_
            refine g_aload_n rfl rfl ?_
            have ha : 0 ≤ a ∧ a < sT S := by omega
            have hb : 0 ≤ b ∧ b < sT S := by omega
            have hc : 0 ≤ c ∧ c < sT S := by omega
            have hf : 0 ≤ f ∧ f < sT S := by omega
            refine g_aload_n rfl rfl ?_
            refine g_getR rfl ms.1 (mr_one ms) ?_
            refine g_iload_n rfl rfl ?_
            refine g_callVN [aO (some (o + 24)), aI a] [] rfl rfl rfl rfl (Nat.le_of_ble_eq_true rfl) ms.1 (m_load (by omega) ms V0 ok mt (by have := G0.2.2.1; omega) ((o + 24)) (show SLa o ((o + 24)) by unfold SLa; omega) a ha) ?_
            rintro _ ⟨V10, rfl, g10, t10, u10, v10, y10, s10, xt10, xu10, xv10, xy10⟩
            have G_11 := G0.trans (g10.wide (fun q hq => by have hq : q = o + 24 := hq; show q = o + 24 ∨ q = o + 25 ∨ q = o + 26 ∨ q = o + 27 ∨ q = o + 29; omega))
            refine g_aload_n rfl rfl ?_
            refine g_aload_n rfl rfl ?_
            refine g_getR rfl ms.1 (mr_two ms) ?_
            refine g_iload_n rfl rfl ?_
            refine g_callVN [aO (some (o + 25)), aI b] [] rfl rfl rfl rfl (Nat.le_of_ble_eq_true rfl) ms.1 (m_load (by omega) ms V10 ok (g10.mt (show ¬((o + 4) = o + 24) by omega) (show ¬((o + 5) = o + 24) by omega) mt) (by have := G_11.2.2.1; omega) ((o + 25)) (show SLa o ((o + 25)) by unfold SLa; omega) b hb) ?_
            rintro _ ⟨V12, rfl, g12, t12, u12, v12, y12, s12, xt12, xu12, xv12, xy12⟩
            have G_13 := G_11.trans (g12.wide (fun q hq => by have hq : q = o + 25 := hq; show q = o + 24 ∨ q = o + 25 ∨ q = o + 26 ∨ q = o + 27 ∨ q = o + 29; omega))
            refine g_iload rfl rfl ?_
            refine g_bipush rfl ?_
            refine g_idivN (m := 10) (n := 0) rfl (by omega) (by omega) ?_
            refine g_bipush rfl ?_
            refine g_iremN (m := 10) (n := (0 / 10)) rfl (by omega) ?_
            refine g_top (v2 := aI 0) (congrArg aI (by rfl)) ?_
            refine g_bipush rfl ?_
            refine g_icmp_eq_f rfl (by omega) ?_
            refine g_iconst rfl ?_
            refine g_goto rfl ?_
            refine g_istore (l1 := [(8, aI 1), (7, aI 1), (6, aI 0), (0, aO (some o)), (1, aI 7), (2, aI a), (3, aI b), (4, aI c), (5, aI f)]) rfl rfl ?_
            refine g_aload_n rfl rfl ?_
            refine g_aload_n rfl rfl ?_
            refine g_getR rfl ms.1 (mr_three ms) ?_
            refine g_iload rfl rfl ?_
            refine g_if_eq_f rfl (by omega) ?_
            refine g_iload rfl rfl ?_
            refine g_goto rfl ?_
            refine g_callVN [aO (some (o + 26)), aI c] [] rfl rfl rfl rfl (Nat.le_of_ble_eq_true rfl) ms.1 (m_load (by omega) ms V12 ok (g12.mt (show ¬((o + 4) = o + 25) by omega) (show ¬((o + 5) = o + 25) by omega) (g10.mt (show ¬((o + 4) = o + 24) by omega) (show ¬((o + 5) = o + 24) by omega) mt)) (by have := G_13.2.2.1; omega) ((o + 26)) (show SLa o ((o + 26)) by unfold SLa; omega) c hc) ?_
            rintro _ ⟨V14, rfl, g14, t14, u14, v14, y14, s14, xt14, xu14, xv14, xy14⟩
            have G_15 := G_13.trans (g14.wide (fun q hq => by have hq : q = o + 26 := hq; show q = o + 24 ∨ q = o + 25 ∨ q = o + 26 ∨ q = o + 27 ∨ q = o + 29; omega))
            refine g_aload_n rfl rfl ?_
            refine g_aload_n rfl rfl ?_
            refine g_getR rfl ms.1 (mr_four ms) ?_
            refine g_iload rfl rfl ?_
            refine g_bipush rfl ?_
            refine g_iremN (m := 10) (n := 0) rfl (by omega) ?_
            refine g_top (v2 := aI 0) (congrArg aI (by rfl)) ?_
            refine g_bipush rfl ?_
            refine g_icmp_eq_f rfl (by omega) ?_
            refine g_iload rfl rfl ?_
            refine g_goto rfl ?_
            refine g_callVN [aO (some (o + 27)), aI f] [] rfl rfl rfl rfl (Nat.le_of_ble_eq_true rfl) ms.1 (m_load (by omega) ms V14 ok (g14.mt (show ¬((o + 4) = o + 26) by omega) (show ¬((o + 5) = o + 26) by omega) (g12.mt (show ¬((o + 4) = o + 25) by omega) (show ¬((o + 5) = o + 25) by omega) (g10.mt (show ¬((o + 4) = o + 24) by omega) (show ¬((o + 5) = o + 24) by omega) mt))) (by have := G_15.2.2.1; omega) ((o + 27)) (show SLa o ((o + 27)) by unfold SLa; omega) f hf) ?_
            rintro _ ⟨V16, rfl, g16, t16, u16, v16, y16, s16, xt16, xu16, xv16, xy16⟩
            have G_17 := G_15.trans (g16.wide (fun q hq => by have hq : q = o + 27 := hq; show q = o + 24 ∨ q = o + 25 ∨ q = o + 26 ∨ q = o + 27 ∨ q = o + 29; omega))
            refine g_aload_n rfl rfl ?_
            refine g_iload_n rfl rfl ?_
            refine g_iload_n rfl rfl ?_
            refine g_iload_n rfl rfl ?_
            refine g_iload rfl rfl ?_
            refine g_if_eq_f rfl (by omega) ?_
            refine g_iload rfl rfl ?_
            refine g_goto rfl ?_
            refine g_iload rfl rfl ?_
            refine g_bipush rfl ?_
            refine g_iremN (m := 10) (n := 0) rfl (by omega) ?_
            refine g_top (v2 := aI 0) (congrArg aI (by rfl)) ?_
            refine g_bipush rfl ?_
            refine g_icmp_eq_f rfl (by omega) ?_
            refine g_iload rfl rfl ?_
            refine g_goto rfl ?_
            refine g_callVI [aI 7, aI a, aI b, aI c, aI f] [] rfl rfl rfl rfl (Nat.le_of_ble_eq_true rfl) ms.1 (m_so7 (by omega) ms V16 ok (g16.mt (show ¬((o + 4) = o + 27) by omega) (show ¬((o + 5) = o + 27) by omega) (g14.mt (show ¬((o + 4) = o + 26) by omega) (show ¬((o + 5) = o + 26) by omega) (g12.mt (show ¬((o + 4) = o + 25) by omega) (show ¬((o + 5) = o + 25) by omega) (g10.mt (show ¬((o + 4) = o + 24) by omega) (show ¬((o + 5) = o + 24) by omega) mt)))) (by have := G_17.2.2.1; omega) (show SB V16 o (o + 24) (tpR S a) (20) from ⟨_, _, _, _, (g16.sa (show SLa o ((o + 24)) by unfold SLa; omega) (show ¬(o + 24 = o + 27) by omega) (g14.sa (show SLa o ((o + 24)) by unfold SLa; omega) (show ¬(o + 24 = o + 26) by omega) (g12.sa (show SLa o ((o + 24)) by unfold SLa; omega) (show ¬(o + 24 = o + 25) by omega) s10))), ((g16.rb (g14.rb (g12.rb xt10))).up (by omega)), ((g16.rb (g14.rb (g12.rb xu10))).up (by omega)), ((g16.rb (g14.rb (g12.rb xv10))).up (by omega)), ((g16.rb (g14.rb (g12.rb xy10))).up (by omega))⟩) (show SB V16 o (o + 25) (tpR S b) (20) from ⟨_, _, _, _, (g16.sa (show SLa o ((o + 25)) by unfold SLa; omega) (show ¬(o + 25 = o + 27) by omega) (g14.sa (show SLa o ((o + 25)) by unfold SLa; omega) (show ¬(o + 25 = o + 26) by omega) s12)), ((g16.rb (g14.rb xt12)).up (by omega)), ((g16.rb (g14.rb xu12)).up (by omega)), ((g16.rb (g14.rb xv12)).up (by omega)), ((g16.rb (g14.rb xy12)).up (by omega))⟩) (show SB V16 o (o + 26) (tpR S c) (20) from ⟨_, _, _, _, (g16.sa (show SLa o ((o + 26)) by unfold SLa; omega) (show ¬(o + 26 = o + 27) by omega) s14), ((g16.rb xt14).up (by omega)), ((g16.rb xu14).up (by omega)), ((g16.rb xv14).up (by omega)), ((g16.rb xy14).up (by omega))⟩) (show SB V16 o (o + 27) (tpR S f) (20) from ⟨_, _, _, _, s16, (xt16.up (by omega)), (xu16.up (by omega)), (xv16.up (by omega)), (xy16.up (by omega))⟩) a ha b hb c hc f hf) ?_
            rintro _ _ ⟨rfl, V18, rfl, g18⟩
            have G_19 := G_17.trans (g18.wide (fun q hq => by have hq : q = o + 29 := hq; show q = o + 24 ∨ q = o + 25 ∨ q = o + 26 ∨ q = o + 27 ∨ q = o + 29; omega))
            refine g_b_eq rfl (fun cq220 => ?_) (fun cq220 => ?_)
            · skip
              refine g_iconst rfl ?_
              refine g_iret rfl ?_
              refine ⟨_, rfl, (G_19.wide (T2 := fun q => o + 24 ≤ q ∧ q ≤ o + 31) (fun q hq => by have hq : q = o + 24 ∨ q = o + 25 ∨ q = o + 26 ∨ q = o + 27 ∨ q = o + 29 := hq; show o + 24 ≤ q ∧ q ≤ o + 31; omega)).fs (fun q hq => hq) eV0, ?_⟩
              rw [if_pos (by unfold isS; omega)]
              first
                | exact (if_pos cq220).symm
                | exact (if_neg cq220).symm
            · skip
              refine g_iconst rfl ?_
              refine g_goto rfl ?_
              refine g_iret rfl ?_
              refine ⟨_, rfl, (G_19.wide (T2 := fun q => o + 24 ≤ q ∧ q ≤ o + 31) (fun q hq => by have hq : q = o + 24 ∨ q = o + 25 ∨ q = o + 26 ∨ q = o + 27 ∨ q = o + 29 := hq; show o + 24 ≤ q ∧ q ≤ o + 31; omega)).fs (fun q hq => hq) eV0, ?_⟩
              rw [if_pos (by unfold isS; omega)]
              first
                | exact (if_pos cq220).symm
                | exact (if_neg cq220).symm
  · skip
    refine g_iconst rfl ?_
    refine g_iret rfl ?_
    refine ⟨V0, rfl, (G0.wide (T2 := fun q => o + 24 ≤ q ∧ q ≤ o + 31) (fun q hq => by have hq : q = o + 24 ∨ q = o + 25 ∨ q = o + 26 ∨ q = o + 27 ∨ q = o + 29 := hq; show o + 24 ≤ q ∧ q ≤ o + 31; omega)).fs (fun q hq => hq) eV0, ?_⟩
    exact (if_neg (by unfold isS; omega)).symm
set_option maxRecDepth 100000 in
set_option maxHeartbeats 4000000 in
theorem m_holds8 {w : aW} {d : Nat} (hd : 10 ≤ d) {h : aH} {o : Nat} (ms : MS h o) (V : Nat → Nat → Int) {S : aS} (ok : OkT S) (mt : MT V o S) (a b c f : Int) : WP w d 324 [aO (some o), aI 8, aI a, aI b, aI c, aI f] (hw h V) (RI (fun r h1 => ∃ V1, h1 = hw h V1 ∧ FS V V1 o ∧ r = if isS S a 1 ∧ isS S b 2 then (if ¬ (sTp S a.toNat 0 = 0 ∧ sTp S a.toNat 1 = 0) ∧ (m_bulge_S (tpR S b)) * (m_norm_S ((tpR S a))) = (m_reach_S ((tpR S a)) (tpR S b)) * (m_reach_S ((tpR S a)) (tpR S b)) then 1 else 0) else -1)) := by
  obtain ⟨d, rfl⟩ : ∃ d1, d = d1 + 1 := ⟨d - 1, by omega⟩
  refine WP.enter (cd := cd_X12_holds) rfl ?_
  have hn := ok.1
  have hls : largs 0 [aO (some o), aI 8, aI a, aI b, aI c, aI f] = [(0, aO (some o)), (1, aI 8), (2, aI a), (3, aI b), (4, aI c), (5, aI f)] := rfl
  rw [hls]
  clear hls
  refine g_aload_n rfl rfl ?_
  refine g_iconst rfl ?_
  refine g_putI rfl ms.1 ?_
  refine g_hp (h2 := hw h (vset V o 31 0)) rfl ?_
  refine g_aload_n rfl rfl ?_
  refine g_iconst rfl ?_
  refine g_putI rfl ms.1 ?_
  obtain ⟨V0, eV0⟩ : ∃ W, W = vset (vset V o 31 0) o 1 0 := ⟨_, rfl⟩
  refine g_hp (h2 := hw h V0) (by rw [eV0]; rfl) ?_
  have mt : MT V0 o S := by rw [eV0]; exact mt.rs
  have f0 : V0 o 1 = 0 := by rw [eV0]; exact vset_eq _ _ _ _
  have G0 := Gs.refl V0 o (fun q => q = o + 24 ∨ q = o + 25 ∨ q = o + 26 ∨ q = o + 27)
  refine g_iload_n rfl rfl ?_
  refine g_i2l rfl ?_
  refine g_lconst0 rfl ?_
  refine g_ldc2 rfl ?_
  refine g_callSI [aJ 8, aJ 0, aJ 14] [] rfl rfl rfl rfl (Nat.le_of_ble_eq_true rfl) (c_in (by omega) _ _ _ _) ?_
  rintro r1 _ ⟨rfl, rfl⟩
  refine g_b_ne rfl (fun cq19 => ?_) (fun cq19 => ?_)
  · skip
    refine g_iload_n rfl rfl ?_
    refine g_callSI [aI 8] [] rfl rfl rfl rfl (Nat.le_of_ble_eq_true rfl) (m_names8 (by omega) _) ?_
    rintro _ _ ⟨rfl, rfl⟩
    refine g_istore (l1 := [(6, aI 1299), (0, aO (some o)), (1, aI 8), (2, aI a), (3, aI b), (4, aI c), (5, aI f)]) rfl rfl ?_
    refine g_aload_n rfl rfl ?_
    refine g_iload_n rfl rfl ?_
    refine g_iload rfl rfl ?_
    refine g_sipush rfl ?_
    refine g_idivN (m := 1000) (n := 1299) rfl (by omega) (by omega) ?_
    refine g_top (v2 := aI 1) (congrArg aI (by rfl)) ?_
    refine g_callVI [aI a, aI 1] [] rfl rfl rfl rfl (Nat.le_of_ble_eq_true rfl) ms.1 (m_isNamed (by omega) ms V0 ok mt a 1 (by omega)) ?_
    rintro r2 _ ⟨rfl, e3⟩
    rw [e3]
    clear e3 r2
    refine g_b_eq rfl (fun cq41 => ?_) (fun cq41 => ?_)
    · skip
      refine g_iconst rfl ?_
      refine g_istore (l1 := [(7, aI 0), (6, aI 1299), (0, aO (some o)), (1, aI 8), (2, aI a), (3, aI b), (4, aI c), (5, aI f)]) rfl rfl ?_
      refine g_iload rfl rfl ?_
      refine g_if_ne_f rfl (by omega) ?_
      refine g_iconst rfl ?_
      refine g_iret rfl ?_
      refine ⟨V0, rfl, (G0.wide (T2 := fun q => o + 24 ≤ q ∧ q ≤ o + 31) (fun q hq => by have hq : q = o + 24 ∨ q = o + 25 ∨ q = o + 26 ∨ q = o + 27 := hq; show o + 24 ≤ q ∧ q ≤ o + 31; omega)).fs (fun q hq => hq) eV0, ?_⟩
      exact (if_neg (by unfold isS; omega)).symm
    · skip
      refine g_aload_n rfl rfl ?_
      refine g_iload_n rfl rfl ?_
      refine g_iload rfl rfl ?_
      refine g_bipush rfl ?_
      refine g_idivN (m := 100) (n := 1299) rfl (by omega) (by omega) ?_
      refine g_bipush rfl ?_
      refine g_iremN (m := 10) (n := (1299 / 100)) rfl (by omega) ?_
      refine g_top (v2 := aI 2) (congrArg aI (by rfl)) ?_
      refine g_callVI [aI b, aI 2] [] rfl rfl rfl rfl (Nat.le_of_ble_eq_true rfl) ms.1 (m_isNamed (by omega) ms V0 ok mt b 2 (by omega)) ?_
      rintro r4 _ ⟨rfl, e5⟩
      rw [e5]
      clear e5 r4
      refine g_b_eq rfl (fun cq57 => ?_) (fun cq57 => ?_)
      · skip
        refine g_iconst rfl ?_
        refine g_istore (l1 := [(7, aI 0), (6, aI 1299), (0, aO (some o)), (1, aI 8), (2, aI a), (3, aI b), (4, aI c), (5, aI f)]) rfl rfl ?_
        refine g_iload rfl rfl ?_
        refine g_if_ne_f rfl (by omega) ?_
        refine g_iconst rfl ?_
        refine g_iret rfl ?_
        refine ⟨V0, rfl, (G0.wide (T2 := fun q => o + 24 ≤ q ∧ q ≤ o + 31) (fun q hq => by have hq : q = o + 24 ∨ q = o + 25 ∨ q = o + 26 ∨ q = o + 27 := hq; show o + 24 ≤ q ∧ q ≤ o + 31; omega)).fs (fun q hq => hq) eV0, ?_⟩
        exact (if_neg (by unfold isS; omega)).symm
      · skip
        refine g_aload_n rfl rfl ?_
        refine g_iload rfl rfl ?_
        refine g_iload rfl rfl ?_
        refine g_bipush rfl ?_
        refine g_idivN (m := 10) (n := 1299) rfl (by omega) (by omega) ?_
        refine g_bipush rfl ?_
        refine g_iremN (m := 10) (n := (1299 / 10)) rfl (by omega) ?_
        refine g_top (v2 := aI 9) (congrArg aI (by rfl)) ?_
        refine g_callVI [aI c, aI 9] [] rfl rfl rfl rfl (Nat.le_of_ble_eq_true rfl) ms.1 (m_named9 (by omega) ms V0 c) ?_
        rintro r6 hx6 ⟨ehx6, rfl⟩
        rw [ehx6]
        clear ehx6 hx6
        refine g_if_eq_f rfl (by omega) ?_
        refine g_aload_n rfl rfl ?_
        refine g_iload rfl rfl ?_
        refine g_iload rfl rfl ?_
        refine g_bipush rfl ?_
        refine g_iremN (m := 10) (n := 1299) rfl (by omega) ?_
        refine g_top (v2 := aI 9) (congrArg aI (by rfl)) ?_
        refine g_callVI [aI f, aI 9] [] rfl rfl rfl rfl (Nat.le_of_ble_eq_true rfl) ms.1 (m_named9 (by omega) ms V0 f) ?_
        rintro r7 hx7 ⟨ehx7, rfl⟩
        rw [ehx7]
        clear ehx7 hx7
        refine g_if_eq_f rfl (by omega) ?_
        refine g_iconst rfl ?_
        refine g_goto rfl ?_
        refine g_istore (l1 := [(7, aI 1), (6, aI 1299), (0, aO (some o)), (1, aI 8), (2, aI a), (3, aI b), (4, aI c), (5, aI f)]) rfl rfl ?_
        refine g_iload rfl rfl ?_
        refine g_if_ne_t rfl (by omega) ?_
        refine g_aload_n rfl rfl ?_
        have ha : 0 ≤ a ∧ a < sT S := by omega
        have hb : 0 ≤ b ∧ b < sT S := by omega
        refine g_aload_n rfl rfl ?_
        refine g_getR rfl ms.1 (mr_one ms) ?_
        refine g_iload_n rfl rfl ?_
        refine g_callVN [aO (some (o + 24)), aI a] [] rfl rfl rfl rfl (Nat.le_of_ble_eq_true rfl) ms.1 (m_load (by omega) ms V0 ok mt (by have := G0.2.2.1; omega) ((o + 24)) (show SLa o ((o + 24)) by unfold SLa; omega) a ha) ?_
        rintro _ ⟨V8, rfl, g8, t8, u8, v8, y8, s8, xt8, xu8, xv8, xy8⟩
        have G_9 := G0.trans (g8.wide (fun q hq => by have hq : q = o + 24 := hq; show q = o + 24 ∨ q = o + 25 ∨ q = o + 26 ∨ q = o + 27; omega))
        refine g_aload_n rfl rfl ?_
        refine g_aload_n rfl rfl ?_
        refine g_getR rfl ms.1 (mr_two ms) ?_
        refine g_iload_n rfl rfl ?_
        refine g_callVN [aO (some (o + 25)), aI b] [] rfl rfl rfl rfl (Nat.le_of_ble_eq_true rfl) ms.1 (m_load (by omega) ms V8 ok (g8.mt (show ¬((o + 4) = o + 24) by omega) (show ¬((o + 5) = o + 24) by omega) mt) (by have := G_9.2.2.1; omega) ((o + 25)) (show SLa o ((o + 25)) by unfold SLa; omega) b hb) ?_
        rintro _ ⟨V10, rfl, g10, t10, u10, v10, y10, s10, xt10, xu10, xv10, xy10⟩
        have G_11 := G_9.trans (g10.wide (fun q hq => by have hq : q = o + 25 := hq; show q = o + 24 ∨ q = o + 25 ∨ q = o + 26 ∨ q = o + 27; omega))
        refine g_iload rfl rfl ?_
        refine g_bipush rfl ?_
        refine g_idivN (m := 10) (n := 1299) rfl (by omega) (by omega) ?_
        refine g_bipush rfl ?_
        refine g_iremN (m := 10) (n := (1299 / 10)) rfl (by omega) ?_
        refine g_top (v2 := aI 9) (congrArg aI (by rfl)) ?_
        refine g_bipush rfl ?_
        refine g_icmp_eq_t rfl (by omega) ?_
        refine g_iconst rfl ?_
        refine g_istore (l1 := [(8, aI 0), (7, aI 1), (6, aI 1299), (0, aO (some o)), (1, aI 8), (2, aI a), (3, aI b), (4, aI c), (5, aI f)]) rfl rfl ?_
        refine g_aload_n rfl rfl ?_
        refine g_aload_n rfl rfl ?_
        refine g_getR rfl ms.1 (mr_three ms) ?_
        refine g_iload rfl rfl ?_
        refine g_if_eq_t rfl (by omega) ?_
        refine g_iload_n rfl rfl ?_
        refine g_callVN [aO (some (o + 26)), aI a] [] rfl rfl rfl rfl (Nat.le_of_ble_eq_true rfl) ms.1 (m_load (by omega) ms V10 ok (g10.mt (show ¬((o + 4) = o + 25) by omega) (show ¬((o + 5) = o + 25) by omega) (g8.mt (show ¬((o + 4) = o + 24) by omega) (show ¬((o + 5) = o + 24) by omega) mt)) (by have := G_11.2.2.1; omega) ((o + 26)) (show SLa o ((o + 26)) by unfold SLa; omega) a ha) ?_
        rintro _ ⟨V12, rfl, g12, t12, u12, v12, y12, s12, xt12, xu12, xv12, xy12⟩
        have G_13 := G_11.trans (g12.wide (fun q hq => by have hq : q = o + 26 := hq; show q = o + 24 ∨ q = o + 25 ∨ q = o + 26 ∨ q = o + 27; omega))
        refine g_aload_n rfl rfl ?_
        refine g_aload_n rfl rfl ?_
        refine g_getR rfl ms.1 (mr_four ms) ?_
        refine g_iload rfl rfl ?_
        refine g_bipush rfl ?_
        refine g_iremN (m := 10) (n := 1299) rfl (by omega) ?_
        refine g_top (v2 := aI 9) (congrArg aI (by rfl)) ?_
        refine g_bipush rfl ?_
        refine g_icmp_eq_t rfl (by omega) ?_
        refine g_iload_n rfl rfl ?_
        refine g_callVN [aO (some (o + 27)), aI a] [] rfl rfl rfl rfl (Nat.le_of_ble_eq_true rfl) ms.1 (m_load (by omega) ms V12 ok (g12.mt (show ¬((o + 4) = o + 26) by omega) (show ¬((o + 5) = o + 26) by omega) (g10.mt (show ¬((o + 4) = o + 25) by omega) (show ¬((o + 5) = o + 25) by omega) (g8.mt (show ¬((o + 4) = o + 24) by omega) (show ¬((o + 5) = o + 24) by omega) mt))) (by have := G_13.2.2.1; omega) ((o + 27)) (show SLa o ((o + 27)) by unfold SLa; omega) a ha) ?_
        rintro _ ⟨V14, rfl, g14, t14, u14, v14, y14, s14, xt14, xu14, xv14, xy14⟩
        have G_15 := G_13.trans (g14.wide (fun q hq => by have hq : q = o + 27 := hq; show q = o + 24 ∨ q = o + 25 ∨ q = o + 26 ∨ q = o + 27; omega))
        refine g_aload_n rfl rfl ?_
        refine g_iload_n rfl rfl ?_
        refine g_iload_n rfl rfl ?_
        refine g_iload_n rfl rfl ?_
        refine g_iload rfl rfl ?_
        refine g_if_eq_t rfl (by omega) ?_
        refine g_iload_n rfl rfl ?_
        refine g_iload rfl rfl ?_
        refine g_bipush rfl ?_
        refine g_iremN (m := 10) (n := 1299) rfl (by omega) ?_
        refine g_top (v2 := aI 9) (congrArg aI (by rfl)) ?_
        refine g_bipush rfl ?_
        refine g_icmp_eq_t rfl (by omega) ?_
        refine g_iload_n rfl rfl ?_
        refine g_callVI [aI 8, aI a, aI b, aI a, aI a] [] rfl rfl rfl rfl (Nat.le_of_ble_eq_true rfl) ms.1 (m_so8 (by omega) ms V14 ok (g14.mt (show ¬((o + 4) = o + 27) by omega) (show ¬((o + 5) = o + 27) by omega) (g12.mt (show ¬((o + 4) = o + 26) by omega) (show ¬((o + 5) = o + 26) by omega) (g10.mt (show ¬((o + 4) = o + 25) by omega) (show ¬((o + 5) = o + 25) by omega) (g8.mt (show ¬((o + 4) = o + 24) by omega) (show ¬((o + 5) = o + 24) by omega) mt)))) (by have := G_15.2.2.1; omega) (show SB V14 o (o + 24) (tpR S a) (20) from ⟨_, _, _, _, (g14.sa (show SLa o ((o + 24)) by unfold SLa; omega) (show ¬(o + 24 = o + 27) by omega) (g12.sa (show SLa o ((o + 24)) by unfold SLa; omega) (show ¬(o + 24 = o + 26) by omega) (g10.sa (show SLa o ((o + 24)) by unfold SLa; omega) (show ¬(o + 24 = o + 25) by omega) s8))), ((g14.rb (g12.rb (g10.rb xt8))).up (by omega)), ((g14.rb (g12.rb (g10.rb xu8))).up (by omega)), ((g14.rb (g12.rb (g10.rb xv8))).up (by omega)), ((g14.rb (g12.rb (g10.rb xy8))).up (by omega))⟩) (show SB V14 o (o + 25) (tpR S b) (20) from ⟨_, _, _, _, (g14.sa (show SLa o ((o + 25)) by unfold SLa; omega) (show ¬(o + 25 = o + 27) by omega) (g12.sa (show SLa o ((o + 25)) by unfold SLa; omega) (show ¬(o + 25 = o + 26) by omega) s10)), ((g14.rb (g12.rb xt10)).up (by omega)), ((g14.rb (g12.rb xu10)).up (by omega)), ((g14.rb (g12.rb xv10)).up (by omega)), ((g14.rb (g12.rb xy10)).up (by omega))⟩) (show SB V14 o (o + 26) (tpR S a) (20) from ⟨_, _, _, _, (g14.sa (show SLa o ((o + 26)) by unfold SLa; omega) (show ¬(o + 26 = o + 27) by omega) s12), ((g14.rb xt12).up (by omega)), ((g14.rb xu12).up (by omega)), ((g14.rb xv12).up (by omega)), ((g14.rb xy12).up (by omega))⟩) (show SB V14 o (o + 27) (tpR S a) (20) from ⟨_, _, _, _, s14, (xt14.up (by omega)), (xu14.up (by omega)), (xv14.up (by omega)), (xy14.up (by omega))⟩) a ha b hb a ha a ha) ?_
        rintro _ _ ⟨rfl, V16, rfl, g16⟩
        have G_17 := G_15.trans (g16.gs _)
        refine g_b_eq rfl (fun cq220 => ?_) (fun cq220 => ?_)
        · skip
          refine g_iconst rfl ?_
          refine g_iret rfl ?_
          refine ⟨_, rfl, (G_17.wide (T2 := fun q => o + 24 ≤ q ∧ q ≤ o + 31) (fun q hq => by have hq : q = o + 24 ∨ q = o + 25 ∨ q = o + 26 ∨ q = o + 27 := hq; show o + 24 ≤ q ∧ q ≤ o + 31; omega)).fs (fun q hq => hq) eV0, ?_⟩
          rw [if_pos (by unfold isS; omega)]
          first
            | exact (if_pos cq220).symm
            | exact (if_neg cq220).symm
        · skip
          refine g_iconst rfl ?_
          refine g_goto rfl ?_
          refine g_iret rfl ?_
          refine ⟨_, rfl, (G_17.wide (T2 := fun q => o + 24 ≤ q ∧ q ≤ o + 31) (fun q hq => by have hq : q = o + 24 ∨ q = o + 25 ∨ q = o + 26 ∨ q = o + 27 := hq; show o + 24 ≤ q ∧ q ≤ o + 31; omega)).fs (fun q hq => hq) eV0, ?_⟩
          rw [if_pos (by unfold isS; omega)]
          first
            | exact (if_pos cq220).symm
            | exact (if_neg cq220).symm
  · skip
    refine g_iconst rfl ?_
    refine g_iret rfl ?_
    refine ⟨V0, rfl, (G0.wide (T2 := fun q => o + 24 ≤ q ∧ q ≤ o + 31) (fun q hq => by have hq : q = o + 24 ∨ q = o + 25 ∨ q = o + 26 ∨ q = o + 27 := hq; show o + 24 ≤ q ∧ q ≤ o + 31; omega)).fs (fun q hq => hq) eV0, ?_⟩
    exact (if_neg (by unfold isS; omega)).symm
set_option maxRecDepth 100000 in
set_option maxHeartbeats 4000000 in
theorem m_holds9 {w : aW} {d : Nat} (hd : 10 ≤ d) {h : aH} {o : Nat} (ms : MS h o) (V : Nat → Nat → Int) {S : aS} (ok : OkT S) (mt : MT V o S) (a b c f : Int) : WP w d 324 [aO (some o), aI 9, aI a, aI b, aI c, aI f] (hw h V) (RI (fun r h1 => ∃ V1, h1 = hw h V1 ∧ FS V V1 o ∧ r = if isS S a 2 ∧ isS S b 2 then (if (¬ (m_powers_S (tpR S a) (tpR S b)).1 = 0 ∨ ¬ (m_powers_S (tpR S a) (tpR S b)).2.1 = 0) ∧ (m_bulge_S (tpR S a)) * (m_norm_S (m_powers_S (tpR S a) (tpR S b))) = (m_reach_S (m_powers_S (tpR S a) (tpR S b)) (tpR S a)) * (m_reach_S (m_powers_S (tpR S a) (tpR S b)) (tpR S a)) then 1 else 0) else -1)) := by
  obtain ⟨d, rfl⟩ : ∃ d1, d = d1 + 1 := ⟨d - 1, by omega⟩
  refine WP.enter (cd := cd_X12_holds) rfl ?_
  have hn := ok.1
  have hls : largs 0 [aO (some o), aI 9, aI a, aI b, aI c, aI f] = [(0, aO (some o)), (1, aI 9), (2, aI a), (3, aI b), (4, aI c), (5, aI f)] := rfl
  rw [hls]
  clear hls
  refine g_aload_n rfl rfl ?_
  refine g_iconst rfl ?_
  refine g_putI rfl ms.1 ?_
  refine g_hp (h2 := hw h (vset V o 31 0)) rfl ?_
  refine g_aload_n rfl rfl ?_
  refine g_iconst rfl ?_
  refine g_putI rfl ms.1 ?_
  obtain ⟨V0, eV0⟩ : ∃ W, W = vset (vset V o 31 0) o 1 0 := ⟨_, rfl⟩
  refine g_hp (h2 := hw h V0) (by rw [eV0]; rfl) ?_
  have mt : MT V0 o S := by rw [eV0]; exact mt.rs
  have f0 : V0 o 1 = 0 := by rw [eV0]; exact vset_eq _ _ _ _
  have G0 := Gs.refl V0 o (fun q => q = o + 24 ∨ q = o + 25 ∨ q = o + 26 ∨ q = o + 27)
  refine g_iload_n rfl rfl ?_
  refine g_i2l rfl ?_
  refine g_lconst0 rfl ?_
  refine g_ldc2 rfl ?_
  refine g_callSI [aJ 9, aJ 0, aJ 14] [] rfl rfl rfl rfl (Nat.le_of_ble_eq_true rfl) (c_in (by omega) _ _ _ _) ?_
  rintro r1 _ ⟨rfl, rfl⟩
  refine g_b_ne rfl (fun cq19 => ?_) (fun cq19 => ?_)
  · skip
    refine g_iload_n rfl rfl ?_
    refine g_callSI [aI 9] [] rfl rfl rfl rfl (Nat.le_of_ble_eq_true rfl) (m_names9 (by omega) _) ?_
    rintro _ _ ⟨rfl, rfl⟩
    refine g_istore (l1 := [(6, aI 2299), (0, aO (some o)), (1, aI 9), (2, aI a), (3, aI b), (4, aI c), (5, aI f)]) rfl rfl ?_
    refine g_aload_n rfl rfl ?_
    refine g_iload_n rfl rfl ?_
    refine g_iload rfl rfl ?_
    refine g_sipush rfl ?_
    refine g_idivN (m := 1000) (n := 2299) rfl (by omega) (by omega) ?_
    refine g_top (v2 := aI 2) (congrArg aI (by rfl)) ?_
    refine g_callVI [aI a, aI 2] [] rfl rfl rfl rfl (Nat.le_of_ble_eq_true rfl) ms.1 (m_isNamed (by omega) ms V0 ok mt a 2 (by omega)) ?_
    rintro r2 _ ⟨rfl, e3⟩
    rw [e3]
    clear e3 r2
    refine g_b_eq rfl (fun cq41 => ?_) (fun cq41 => ?_)
    · skip
      refine g_iconst rfl ?_
      refine g_istore (l1 := [(7, aI 0), (6, aI 2299), (0, aO (some o)), (1, aI 9), (2, aI a), (3, aI b), (4, aI c), (5, aI f)]) rfl rfl ?_
      refine g_iload rfl rfl ?_
      refine g_if_ne_f rfl (by omega) ?_
      refine g_iconst rfl ?_
      refine g_iret rfl ?_
      refine ⟨V0, rfl, (G0.wide (T2 := fun q => o + 24 ≤ q ∧ q ≤ o + 31) (fun q hq => by have hq : q = o + 24 ∨ q = o + 25 ∨ q = o + 26 ∨ q = o + 27 := hq; show o + 24 ≤ q ∧ q ≤ o + 31; omega)).fs (fun q hq => hq) eV0, ?_⟩
      exact (if_neg (by unfold isS; omega)).symm
    · skip
      refine g_aload_n rfl rfl ?_
      refine g_iload_n rfl rfl ?_
      refine g_iload rfl rfl ?_
      refine g_bipush rfl ?_
      refine g_idivN (m := 100) (n := 2299) rfl (by omega) (by omega) ?_
      refine g_bipush rfl ?_
      refine g_iremN (m := 10) (n := (2299 / 100)) rfl (by omega) ?_
      refine g_top (v2 := aI 2) (congrArg aI (by rfl)) ?_
      refine g_callVI [aI b, aI 2] [] rfl rfl rfl rfl (Nat.le_of_ble_eq_true rfl) ms.1 (m_isNamed (by omega) ms V0 ok mt b 2 (by omega)) ?_
      rintro r4 _ ⟨rfl, e5⟩
      rw [e5]
      clear e5 r4
      refine g_b_eq rfl (fun cq57 => ?_) (fun cq57 => ?_)
      · skip
        refine g_iconst rfl ?_
        refine g_istore (l1 := [(7, aI 0), (6, aI 2299), (0, aO (some o)), (1, aI 9), (2, aI a), (3, aI b), (4, aI c), (5, aI f)]) rfl rfl ?_
        refine g_iload rfl rfl ?_
        refine g_if_ne_f rfl (by omega) ?_
        refine g_iconst rfl ?_
        refine g_iret rfl ?_
        refine ⟨V0, rfl, (G0.wide (T2 := fun q => o + 24 ≤ q ∧ q ≤ o + 31) (fun q hq => by have hq : q = o + 24 ∨ q = o + 25 ∨ q = o + 26 ∨ q = o + 27 := hq; show o + 24 ≤ q ∧ q ≤ o + 31; omega)).fs (fun q hq => hq) eV0, ?_⟩
        exact (if_neg (by unfold isS; omega)).symm
      · skip
        refine g_aload_n rfl rfl ?_
        refine g_iload rfl rfl ?_
        refine g_iload rfl rfl ?_
        refine g_bipush rfl ?_
        refine g_idivN (m := 10) (n := 2299) rfl (by omega) (by omega) ?_
        refine g_bipush rfl ?_
        refine g_iremN (m := 10) (n := (2299 / 10)) rfl (by omega) ?_
        refine g_top (v2 := aI 9) (congrArg aI (by rfl)) ?_
        refine g_callVI [aI c, aI 9] [] rfl rfl rfl rfl (Nat.le_of_ble_eq_true rfl) ms.1 (m_named9 (by omega) ms V0 c) ?_
        rintro r6 hx6 ⟨ehx6, rfl⟩
        rw [ehx6]
        clear ehx6 hx6
        refine g_if_eq_f rfl (by omega) ?_
        refine g_aload_n rfl rfl ?_
        refine g_iload rfl rfl ?_
        refine g_iload rfl rfl ?_
        refine g_bipush rfl ?_
        refine g_iremN (m := 10) (n := 2299) rfl (by omega) ?_
        refine g_top (v2 := aI 9) (congrArg aI (by rfl)) ?_
        refine g_callVI [aI f, aI 9] [] rfl rfl rfl rfl (Nat.le_of_ble_eq_true rfl) ms.1 (m_named9 (by omega) ms V0 f) ?_
        rintro r7 hx7 ⟨ehx7, rfl⟩
        rw [ehx7]
        clear ehx7 hx7
        refine g_if_eq_f rfl (by omega) ?_
        refine g_iconst rfl ?_
        refine g_goto rfl ?_
        refine g_istore (l1 := [(7, aI 1), (6, aI 2299), (0, aO (some o)), (1, aI 9), (2, aI a), (3, aI b), (4, aI c), (5, aI f)]) rfl rfl ?_
        refine g_iload rfl rfl ?_
        refine g_if_ne_t rfl (by omega) ?_
        refine g_aload_n rfl rfl ?_
        have ha : 0 ≤ a ∧ a < sT S := by omega
        have hb : 0 ≤ b ∧ b < sT S := by omega
        refine g_aload_n rfl rfl ?_
        refine g_getR rfl ms.1 (mr_one ms) ?_
        refine g_iload_n rfl rfl ?_
        refine g_callVN [aO (some (o + 24)), aI a] [] rfl rfl rfl rfl (Nat.le_of_ble_eq_true rfl) ms.1 (m_load (by omega) ms V0 ok mt (by have := G0.2.2.1; omega) ((o + 24)) (show SLa o ((o + 24)) by unfold SLa; omega) a ha) ?_
        rintro _ ⟨V8, rfl, g8, t8, u8, v8, y8, s8, xt8, xu8, xv8, xy8⟩
        have G_9 := G0.trans (g8.wide (fun q hq => by have hq : q = o + 24 := hq; show q = o + 24 ∨ q = o + 25 ∨ q = o + 26 ∨ q = o + 27; omega))
        refine g_aload_n rfl rfl ?_
        refine g_aload_n rfl rfl ?_
        refine g_getR rfl ms.1 (mr_two ms) ?_
        refine g_iload_n rfl rfl ?_
        refine g_callVN [aO (some (o + 25)), aI b] [] rfl rfl rfl rfl (Nat.le_of_ble_eq_true rfl) ms.1 (m_load (by omega) ms V8 ok (g8.mt (show ¬((o + 4) = o + 24) by omega) (show ¬((o + 5) = o + 24) by omega) mt) (by have := G_9.2.2.1; omega) ((o + 25)) (show SLa o ((o + 25)) by unfold SLa; omega) b hb) ?_
        rintro _ ⟨V10, rfl, g10, t10, u10, v10, y10, s10, xt10, xu10, xv10, xy10⟩
        have G_11 := G_9.trans (g10.wide (fun q hq => by have hq : q = o + 25 := hq; show q = o + 24 ∨ q = o + 25 ∨ q = o + 26 ∨ q = o + 27; omega))
        refine g_iload rfl rfl ?_
        refine g_bipush rfl ?_
        refine g_idivN (m := 10) (n := 2299) rfl (by omega) (by omega) ?_
        refine g_bipush rfl ?_
        refine g_iremN (m := 10) (n := (2299 / 10)) rfl (by omega) ?_
        refine g_top (v2 := aI 9) (congrArg aI (by rfl)) ?_
        refine g_bipush rfl ?_
        refine g_icmp_eq_t rfl (by omega) ?_
        refine g_iconst rfl ?_
        refine g_istore (l1 := [(8, aI 0), (7, aI 1), (6, aI 2299), (0, aO (some o)), (1, aI 9), (2, aI a), (3, aI b), (4, aI c), (5, aI f)]) rfl rfl ?_
        refine g_aload_n rfl rfl ?_
        refine g_aload_n rfl rfl ?_
        refine g_getR rfl ms.1 (mr_three ms) ?_
        refine g_iload rfl rfl ?_
        refine g_if_eq_t rfl (by omega) ?_
        refine g_iload_n rfl rfl ?_
        refine g_callVN [aO (some (o + 26)), aI a] [] rfl rfl rfl rfl (Nat.le_of_ble_eq_true rfl) ms.1 (m_load (by omega) ms V10 ok (g10.mt (show ¬((o + 4) = o + 25) by omega) (show ¬((o + 5) = o + 25) by omega) (g8.mt (show ¬((o + 4) = o + 24) by omega) (show ¬((o + 5) = o + 24) by omega) mt)) (by have := G_11.2.2.1; omega) ((o + 26)) (show SLa o ((o + 26)) by unfold SLa; omega) a ha) ?_
        rintro _ ⟨V12, rfl, g12, t12, u12, v12, y12, s12, xt12, xu12, xv12, xy12⟩
        have G_13 := G_11.trans (g12.wide (fun q hq => by have hq : q = o + 26 := hq; show q = o + 24 ∨ q = o + 25 ∨ q = o + 26 ∨ q = o + 27; omega))
        refine g_aload_n rfl rfl ?_
        refine g_aload_n rfl rfl ?_
        refine g_getR rfl ms.1 (mr_four ms) ?_
        refine g_iload rfl rfl ?_
        refine g_bipush rfl ?_
        refine g_iremN (m := 10) (n := 2299) rfl (by omega) ?_
        refine g_top (v2 := aI 9) (congrArg aI (by rfl)) ?_
        refine g_bipush rfl ?_
        refine g_icmp_eq_t rfl (by omega) ?_
        refine g_iload_n rfl rfl ?_
        refine g_callVN [aO (some (o + 27)), aI a] [] rfl rfl rfl rfl (Nat.le_of_ble_eq_true rfl) ms.1 (m_load (by omega) ms V12 ok (g12.mt (show ¬((o + 4) = o + 26) by omega) (show ¬((o + 5) = o + 26) by omega) (g10.mt (show ¬((o + 4) = o + 25) by omega) (show ¬((o + 5) = o + 25) by omega) (g8.mt (show ¬((o + 4) = o + 24) by omega) (show ¬((o + 5) = o + 24) by omega) mt))) (by have := G_13.2.2.1; omega) ((o + 27)) (show SLa o ((o + 27)) by unfold SLa; omega) a ha) ?_
        rintro _ ⟨V14, rfl, g14, t14, u14, v14, y14, s14, xt14, xu14, xv14, xy14⟩
        have G_15 := G_13.trans (g14.wide (fun q hq => by have hq : q = o + 27 := hq; show q = o + 24 ∨ q = o + 25 ∨ q = o + 26 ∨ q = o + 27; omega))
        refine g_aload_n rfl rfl ?_
        refine g_iload_n rfl rfl ?_
        refine g_iload_n rfl rfl ?_
        refine g_iload_n rfl rfl ?_
        refine g_iload rfl rfl ?_
        refine g_if_eq_t rfl (by omega) ?_
        refine g_iload_n rfl rfl ?_
        refine g_iload rfl rfl ?_
        refine g_bipush rfl ?_
        refine g_iremN (m := 10) (n := 2299) rfl (by omega) ?_
        refine g_top (v2 := aI 9) (congrArg aI (by rfl)) ?_
        refine g_bipush rfl ?_
        refine g_icmp_eq_t rfl (by omega) ?_
        refine g_iload_n rfl rfl ?_
        refine g_callVI [aI 9, aI a, aI b, aI a, aI a] [] rfl rfl rfl rfl (Nat.le_of_ble_eq_true rfl) ms.1 (m_so9 (by omega) ms V14 ok (g14.mt (show ¬((o + 4) = o + 27) by omega) (show ¬((o + 5) = o + 27) by omega) (g12.mt (show ¬((o + 4) = o + 26) by omega) (show ¬((o + 5) = o + 26) by omega) (g10.mt (show ¬((o + 4) = o + 25) by omega) (show ¬((o + 5) = o + 25) by omega) (g8.mt (show ¬((o + 4) = o + 24) by omega) (show ¬((o + 5) = o + 24) by omega) mt)))) (by have := G_15.2.2.1; omega) (show SB V14 o (o + 24) (tpR S a) (20) from ⟨_, _, _, _, (g14.sa (show SLa o ((o + 24)) by unfold SLa; omega) (show ¬(o + 24 = o + 27) by omega) (g12.sa (show SLa o ((o + 24)) by unfold SLa; omega) (show ¬(o + 24 = o + 26) by omega) (g10.sa (show SLa o ((o + 24)) by unfold SLa; omega) (show ¬(o + 24 = o + 25) by omega) s8))), ((g14.rb (g12.rb (g10.rb xt8))).up (by omega)), ((g14.rb (g12.rb (g10.rb xu8))).up (by omega)), ((g14.rb (g12.rb (g10.rb xv8))).up (by omega)), ((g14.rb (g12.rb (g10.rb xy8))).up (by omega))⟩) (show SB V14 o (o + 25) (tpR S b) (20) from ⟨_, _, _, _, (g14.sa (show SLa o ((o + 25)) by unfold SLa; omega) (show ¬(o + 25 = o + 27) by omega) (g12.sa (show SLa o ((o + 25)) by unfold SLa; omega) (show ¬(o + 25 = o + 26) by omega) s10)), ((g14.rb (g12.rb xt10)).up (by omega)), ((g14.rb (g12.rb xu10)).up (by omega)), ((g14.rb (g12.rb xv10)).up (by omega)), ((g14.rb (g12.rb xy10)).up (by omega))⟩) (show SB V14 o (o + 26) (tpR S a) (20) from ⟨_, _, _, _, (g14.sa (show SLa o ((o + 26)) by unfold SLa; omega) (show ¬(o + 26 = o + 27) by omega) s12), ((g14.rb xt12).up (by omega)), ((g14.rb xu12).up (by omega)), ((g14.rb xv12).up (by omega)), ((g14.rb xy12).up (by omega))⟩) (show SB V14 o (o + 27) (tpR S a) (20) from ⟨_, _, _, _, s14, (xt14.up (by omega)), (xu14.up (by omega)), (xv14.up (by omega)), (xy14.up (by omega))⟩) a ha b hb a ha a ha) ?_
        rintro _ _ ⟨rfl, V16, rfl, g16⟩
        have G_17 := G_15.trans (g16.wide (fun q hq => by have hq : q = o + 26 := hq; show q = o + 24 ∨ q = o + 25 ∨ q = o + 26 ∨ q = o + 27; omega))
        refine g_b_eq rfl (fun cq220 => ?_) (fun cq220 => ?_)
        · skip
          refine g_iconst rfl ?_
          refine g_iret rfl ?_
          refine ⟨_, rfl, (G_17.wide (T2 := fun q => o + 24 ≤ q ∧ q ≤ o + 31) (fun q hq => by have hq : q = o + 24 ∨ q = o + 25 ∨ q = o + 26 ∨ q = o + 27 := hq; show o + 24 ≤ q ∧ q ≤ o + 31; omega)).fs (fun q hq => hq) eV0, ?_⟩
          rw [if_pos (by unfold isS; omega)]
          first
            | exact (if_pos cq220).symm
            | exact (if_neg cq220).symm
        · skip
          refine g_iconst rfl ?_
          refine g_goto rfl ?_
          refine g_iret rfl ?_
          refine ⟨_, rfl, (G_17.wide (T2 := fun q => o + 24 ≤ q ∧ q ≤ o + 31) (fun q hq => by have hq : q = o + 24 ∨ q = o + 25 ∨ q = o + 26 ∨ q = o + 27 := hq; show o + 24 ≤ q ∧ q ≤ o + 31; omega)).fs (fun q hq => hq) eV0, ?_⟩
          rw [if_pos (by unfold isS; omega)]
          first
            | exact (if_pos cq220).symm
            | exact (if_neg cq220).symm
  · skip
    refine g_iconst rfl ?_
    refine g_iret rfl ?_
    refine ⟨V0, rfl, (G0.wide (T2 := fun q => o + 24 ≤ q ∧ q ≤ o + 31) (fun q hq => by have hq : q = o + 24 ∨ q = o + 25 ∨ q = o + 26 ∨ q = o + 27 := hq; show o + 24 ≤ q ∧ q ≤ o + 31; omega)).fs (fun q hq => hq) eV0, ?_⟩
    exact (if_neg (by unfold isS; omega)).symm
set_option maxRecDepth 100000 in
set_option maxHeartbeats 4000000 in
theorem m_holds10 {w : aW} {d : Nat} (hd : 10 ≤ d) {h : aH} {o : Nat} (ms : MS h o) (V : Nat → Nat → Int) {S : aS} (ok : OkT S) (mt : MT V o S) (a b c f : Int) : WP w d 324 [aO (some o), aI 10, aI a, aI b, aI c, aI f] (hw h V) (RI (fun r h1 => ∃ V1, h1 = hw h V1 ∧ FS V V1 o ∧ r = if isS S a 2 ∧ isS S b 2 then (if ((tpR S a).2.1 * (tpR S b).2.1) + ((tpR S a).2.2.1 * (tpR S b).2.2.1) = 2 * (((tpR S a).2.2.2 * (tpR S b).1) + ((tpR S b).2.2.2 * (tpR S a).1)) then 1 else 0) else -1)) := by
  obtain ⟨d, rfl⟩ : ∃ d1, d = d1 + 1 := ⟨d - 1, by omega⟩
  refine WP.enter (cd := cd_X12_holds) rfl ?_
  have hn := ok.1
  have hls : largs 0 [aO (some o), aI 10, aI a, aI b, aI c, aI f] = [(0, aO (some o)), (1, aI 10), (2, aI a), (3, aI b), (4, aI c), (5, aI f)] := rfl
  rw [hls]
  clear hls
  refine g_aload_n rfl rfl ?_
  refine g_iconst rfl ?_
  refine g_putI rfl ms.1 ?_
  refine g_hp (h2 := hw h (vset V o 31 0)) rfl ?_
  refine g_aload_n rfl rfl ?_
  refine g_iconst rfl ?_
  refine g_putI rfl ms.1 ?_
  obtain ⟨V0, eV0⟩ : ∃ W, W = vset (vset V o 31 0) o 1 0 := ⟨_, rfl⟩
  refine g_hp (h2 := hw h V0) (by rw [eV0]; rfl) ?_
  have mt : MT V0 o S := by rw [eV0]; exact mt.rs
  have f0 : V0 o 1 = 0 := by rw [eV0]; exact vset_eq _ _ _ _
  have G0 := Gs.refl V0 o (fun q => q = o + 24 ∨ q = o + 25 ∨ q = o + 26 ∨ q = o + 27)
  refine g_iload_n rfl rfl ?_
  refine g_i2l rfl ?_
  refine g_lconst0 rfl ?_
  refine g_ldc2 rfl ?_
  refine g_callSI [aJ 10, aJ 0, aJ 14] [] rfl rfl rfl rfl (Nat.le_of_ble_eq_true rfl) (c_in (by omega) _ _ _ _) ?_
  rintro r1 _ ⟨rfl, rfl⟩
  refine g_b_ne rfl (fun cq19 => ?_) (fun cq19 => ?_)
  · skip
    refine g_iload_n rfl rfl ?_
    refine g_callSI [aI 10] [] rfl rfl rfl rfl (Nat.le_of_ble_eq_true rfl) (m_names10 (by omega) _) ?_
    rintro _ _ ⟨rfl, rfl⟩
    refine g_istore (l1 := [(6, aI 2299), (0, aO (some o)), (1, aI 10), (2, aI a), (3, aI b), (4, aI c), (5, aI f)]) rfl rfl ?_
    refine g_aload_n rfl rfl ?_
    refine g_iload_n rfl rfl ?_
    refine g_iload rfl rfl ?_
    refine g_sipush rfl ?_
    refine g_idivN (m := 1000) (n := 2299) rfl (by omega) (by omega) ?_
    refine g_top (v2 := aI 2) (congrArg aI (by rfl)) ?_
    refine g_callVI [aI a, aI 2] [] rfl rfl rfl rfl (Nat.le_of_ble_eq_true rfl) ms.1 (m_isNamed (by omega) ms V0 ok mt a 2 (by omega)) ?_
    rintro r2 _ ⟨rfl, e3⟩
    rw [e3]
    clear e3 r2
    refine g_b_eq rfl (fun cq41 => ?_) (fun cq41 => ?_)
    · skip
      refine g_iconst rfl ?_
      refine g_istore (l1 := [(7, aI 0), (6, aI 2299), (0, aO (some o)), (1, aI 10), (2, aI a), (3, aI b), (4, aI c), (5, aI f)]) rfl rfl ?_
      refine g_iload rfl rfl ?_
      refine g_if_ne_f rfl (by omega) ?_
      refine g_iconst rfl ?_
      refine g_iret rfl ?_
      refine ⟨V0, rfl, (G0.wide (T2 := fun q => o + 24 ≤ q ∧ q ≤ o + 31) (fun q hq => by have hq : q = o + 24 ∨ q = o + 25 ∨ q = o + 26 ∨ q = o + 27 := hq; show o + 24 ≤ q ∧ q ≤ o + 31; omega)).fs (fun q hq => hq) eV0, ?_⟩
      exact (if_neg (by unfold isS; omega)).symm
    · skip
      refine g_aload_n rfl rfl ?_
      refine g_iload_n rfl rfl ?_
      refine g_iload rfl rfl ?_
      refine g_bipush rfl ?_
      refine g_idivN (m := 100) (n := 2299) rfl (by omega) (by omega) ?_
      refine g_bipush rfl ?_
      refine g_iremN (m := 10) (n := (2299 / 100)) rfl (by omega) ?_
      refine g_top (v2 := aI 2) (congrArg aI (by rfl)) ?_
      refine g_callVI [aI b, aI 2] [] rfl rfl rfl rfl (Nat.le_of_ble_eq_true rfl) ms.1 (m_isNamed (by omega) ms V0 ok mt b 2 (by omega)) ?_
      rintro r4 _ ⟨rfl, e5⟩
      rw [e5]
      clear e5 r4
      refine g_b_eq rfl (fun cq57 => ?_) (fun cq57 => ?_)
      · skip
        refine g_iconst rfl ?_
        refine g_istore (l1 := [(7, aI 0), (6, aI 2299), (0, aO (some o)), (1, aI 10), (2, aI a), (3, aI b), (4, aI c), (5, aI f)]) rfl rfl ?_
        refine g_iload rfl rfl ?_
        refine g_if_ne_f rfl (by omega) ?_
        refine g_iconst rfl ?_
        refine g_iret rfl ?_
        refine ⟨V0, rfl, (G0.wide (T2 := fun q => o + 24 ≤ q ∧ q ≤ o + 31) (fun q hq => by have hq : q = o + 24 ∨ q = o + 25 ∨ q = o + 26 ∨ q = o + 27 := hq; show o + 24 ≤ q ∧ q ≤ o + 31; omega)).fs (fun q hq => hq) eV0, ?_⟩
        exact (if_neg (by unfold isS; omega)).symm
      · skip
        refine g_aload_n rfl rfl ?_
        refine g_iload rfl rfl ?_
        refine g_iload rfl rfl ?_
        refine g_bipush rfl ?_
        refine g_idivN (m := 10) (n := 2299) rfl (by omega) (by omega) ?_
        refine g_bipush rfl ?_
        refine g_iremN (m := 10) (n := (2299 / 10)) rfl (by omega) ?_
        refine g_top (v2 := aI 9) (congrArg aI (by rfl)) ?_
        refine g_callVI [aI c, aI 9] [] rfl rfl rfl rfl (Nat.le_of_ble_eq_true rfl) ms.1 (m_named9 (by omega) ms V0 c) ?_
        rintro r6 hx6 ⟨ehx6, rfl⟩
        rw [ehx6]
        clear ehx6 hx6
        refine g_if_eq_f rfl (by omega) ?_
        refine g_aload_n rfl rfl ?_
        refine g_iload rfl rfl ?_
        refine g_iload rfl rfl ?_
        refine g_bipush rfl ?_
        refine g_iremN (m := 10) (n := 2299) rfl (by omega) ?_
        refine g_top (v2 := aI 9) (congrArg aI (by rfl)) ?_
        refine g_callVI [aI f, aI 9] [] rfl rfl rfl rfl (Nat.le_of_ble_eq_true rfl) ms.1 (m_named9 (by omega) ms V0 f) ?_
        rintro r7 hx7 ⟨ehx7, rfl⟩
        rw [ehx7]
        clear ehx7 hx7
        refine g_if_eq_f rfl (by omega) ?_
        refine g_iconst rfl ?_
        refine g_goto rfl ?_
        refine g_istore (l1 := [(7, aI 1), (6, aI 2299), (0, aO (some o)), (1, aI 10), (2, aI a), (3, aI b), (4, aI c), (5, aI f)]) rfl rfl ?_
        refine g_iload rfl rfl ?_
        refine g_if_ne_t rfl (by omega) ?_
        refine g_aload_n rfl rfl ?_
        have ha : 0 ≤ a ∧ a < sT S := by omega
        have hb : 0 ≤ b ∧ b < sT S := by omega
        refine g_aload_n rfl rfl ?_
        refine g_getR rfl ms.1 (mr_one ms) ?_
        refine g_iload_n rfl rfl ?_
        refine g_callVN [aO (some (o + 24)), aI a] [] rfl rfl rfl rfl (Nat.le_of_ble_eq_true rfl) ms.1 (m_load (by omega) ms V0 ok mt (by have := G0.2.2.1; omega) ((o + 24)) (show SLa o ((o + 24)) by unfold SLa; omega) a ha) ?_
        rintro _ ⟨V8, rfl, g8, t8, u8, v8, y8, s8, xt8, xu8, xv8, xy8⟩
        have G_9 := G0.trans (g8.wide (fun q hq => by have hq : q = o + 24 := hq; show q = o + 24 ∨ q = o + 25 ∨ q = o + 26 ∨ q = o + 27; omega))
        refine g_aload_n rfl rfl ?_
        refine g_aload_n rfl rfl ?_
        refine g_getR rfl ms.1 (mr_two ms) ?_
        refine g_iload_n rfl rfl ?_
        refine g_callVN [aO (some (o + 25)), aI b] [] rfl rfl rfl rfl (Nat.le_of_ble_eq_true rfl) ms.1 (m_load (by omega) ms V8 ok (g8.mt (show ¬((o + 4) = o + 24) by omega) (show ¬((o + 5) = o + 24) by omega) mt) (by have := G_9.2.2.1; omega) ((o + 25)) (show SLa o ((o + 25)) by unfold SLa; omega) b hb) ?_
        rintro _ ⟨V10, rfl, g10, t10, u10, v10, y10, s10, xt10, xu10, xv10, xy10⟩
        have G_11 := G_9.trans (g10.wide (fun q hq => by have hq : q = o + 25 := hq; show q = o + 24 ∨ q = o + 25 ∨ q = o + 26 ∨ q = o + 27; omega))
        refine g_iload rfl rfl ?_
        refine g_bipush rfl ?_
        refine g_idivN (m := 10) (n := 2299) rfl (by omega) (by omega) ?_
        refine g_bipush rfl ?_
        refine g_iremN (m := 10) (n := (2299 / 10)) rfl (by omega) ?_
        refine g_top (v2 := aI 9) (congrArg aI (by rfl)) ?_
        refine g_bipush rfl ?_
        refine g_icmp_eq_t rfl (by omega) ?_
        refine g_iconst rfl ?_
        refine g_istore (l1 := [(8, aI 0), (7, aI 1), (6, aI 2299), (0, aO (some o)), (1, aI 10), (2, aI a), (3, aI b), (4, aI c), (5, aI f)]) rfl rfl ?_
        refine g_aload_n rfl rfl ?_
        refine g_aload_n rfl rfl ?_
        refine g_getR rfl ms.1 (mr_three ms) ?_
        refine g_iload rfl rfl ?_
        refine g_if_eq_t rfl (by omega) ?_
        refine g_iload_n rfl rfl ?_
        refine g_callVN [aO (some (o + 26)), aI a] [] rfl rfl rfl rfl (Nat.le_of_ble_eq_true rfl) ms.1 (m_load (by omega) ms V10 ok (g10.mt (show ¬((o + 4) = o + 25) by omega) (show ¬((o + 5) = o + 25) by omega) (g8.mt (show ¬((o + 4) = o + 24) by omega) (show ¬((o + 5) = o + 24) by omega) mt)) (by have := G_11.2.2.1; omega) ((o + 26)) (show SLa o ((o + 26)) by unfold SLa; omega) a ha) ?_
        rintro _ ⟨V12, rfl, g12, t12, u12, v12, y12, s12, xt12, xu12, xv12, xy12⟩
        have G_13 := G_11.trans (g12.wide (fun q hq => by have hq : q = o + 26 := hq; show q = o + 24 ∨ q = o + 25 ∨ q = o + 26 ∨ q = o + 27; omega))
        refine g_aload_n rfl rfl ?_
        refine g_aload_n rfl rfl ?_
        refine g_getR rfl ms.1 (mr_four ms) ?_
        refine g_iload rfl rfl ?_
        refine g_bipush rfl ?_
        refine g_iremN (m := 10) (n := 2299) rfl (by omega) ?_
        refine g_top (v2 := aI 9) (congrArg aI (by rfl)) ?_
        refine g_bipush rfl ?_
        refine g_icmp_eq_t rfl (by omega) ?_
        refine g_iload_n rfl rfl ?_
        refine g_callVN [aO (some (o + 27)), aI a] [] rfl rfl rfl rfl (Nat.le_of_ble_eq_true rfl) ms.1 (m_load (by omega) ms V12 ok (g12.mt (show ¬((o + 4) = o + 26) by omega) (show ¬((o + 5) = o + 26) by omega) (g10.mt (show ¬((o + 4) = o + 25) by omega) (show ¬((o + 5) = o + 25) by omega) (g8.mt (show ¬((o + 4) = o + 24) by omega) (show ¬((o + 5) = o + 24) by omega) mt))) (by have := G_13.2.2.1; omega) ((o + 27)) (show SLa o ((o + 27)) by unfold SLa; omega) a ha) ?_
        rintro _ ⟨V14, rfl, g14, t14, u14, v14, y14, s14, xt14, xu14, xv14, xy14⟩
        have G_15 := G_13.trans (g14.wide (fun q hq => by have hq : q = o + 27 := hq; show q = o + 24 ∨ q = o + 25 ∨ q = o + 26 ∨ q = o + 27; omega))
        refine g_aload_n rfl rfl ?_
        refine g_iload_n rfl rfl ?_
        refine g_iload_n rfl rfl ?_
        refine g_iload_n rfl rfl ?_
        refine g_iload rfl rfl ?_
        refine g_if_eq_t rfl (by omega) ?_
        refine g_iload_n rfl rfl ?_
        refine g_iload rfl rfl ?_
        refine g_bipush rfl ?_
        refine g_iremN (m := 10) (n := 2299) rfl (by omega) ?_
        refine g_top (v2 := aI 9) (congrArg aI (by rfl)) ?_
        refine g_bipush rfl ?_
        refine g_icmp_eq_t rfl (by omega) ?_
        refine g_iload_n rfl rfl ?_
        refine g_callVI [aI 10, aI a, aI b, aI a, aI a] [] rfl rfl rfl rfl (Nat.le_of_ble_eq_true rfl) ms.1 (m_so10 (by omega) ms V14 ok (g14.mt (show ¬((o + 4) = o + 27) by omega) (show ¬((o + 5) = o + 27) by omega) (g12.mt (show ¬((o + 4) = o + 26) by omega) (show ¬((o + 5) = o + 26) by omega) (g10.mt (show ¬((o + 4) = o + 25) by omega) (show ¬((o + 5) = o + 25) by omega) (g8.mt (show ¬((o + 4) = o + 24) by omega) (show ¬((o + 5) = o + 24) by omega) mt)))) (by have := G_15.2.2.1; omega) (show SB V14 o (o + 24) (tpR S a) (20) from ⟨_, _, _, _, (g14.sa (show SLa o ((o + 24)) by unfold SLa; omega) (show ¬(o + 24 = o + 27) by omega) (g12.sa (show SLa o ((o + 24)) by unfold SLa; omega) (show ¬(o + 24 = o + 26) by omega) (g10.sa (show SLa o ((o + 24)) by unfold SLa; omega) (show ¬(o + 24 = o + 25) by omega) s8))), ((g14.rb (g12.rb (g10.rb xt8))).up (by omega)), ((g14.rb (g12.rb (g10.rb xu8))).up (by omega)), ((g14.rb (g12.rb (g10.rb xv8))).up (by omega)), ((g14.rb (g12.rb (g10.rb xy8))).up (by omega))⟩) (show SB V14 o (o + 25) (tpR S b) (20) from ⟨_, _, _, _, (g14.sa (show SLa o ((o + 25)) by unfold SLa; omega) (show ¬(o + 25 = o + 27) by omega) (g12.sa (show SLa o ((o + 25)) by unfold SLa; omega) (show ¬(o + 25 = o + 26) by omega) s10)), ((g14.rb (g12.rb xt10)).up (by omega)), ((g14.rb (g12.rb xu10)).up (by omega)), ((g14.rb (g12.rb xv10)).up (by omega)), ((g14.rb (g12.rb xy10)).up (by omega))⟩) (show SB V14 o (o + 26) (tpR S a) (20) from ⟨_, _, _, _, (g14.sa (show SLa o ((o + 26)) by unfold SLa; omega) (show ¬(o + 26 = o + 27) by omega) s12), ((g14.rb xt12).up (by omega)), ((g14.rb xu12).up (by omega)), ((g14.rb xv12).up (by omega)), ((g14.rb xy12).up (by omega))⟩) (show SB V14 o (o + 27) (tpR S a) (20) from ⟨_, _, _, _, s14, (xt14.up (by omega)), (xu14.up (by omega)), (xv14.up (by omega)), (xy14.up (by omega))⟩) a ha b hb a ha a ha) ?_
        rintro _ _ ⟨rfl, V16, rfl, g16⟩
        have G_17 := G_15.trans (g16.gs _)
        refine g_b_eq rfl (fun cq220 => ?_) (fun cq220 => ?_)
        · skip
          refine g_iconst rfl ?_
          refine g_iret rfl ?_
          refine ⟨_, rfl, (G_17.wide (T2 := fun q => o + 24 ≤ q ∧ q ≤ o + 31) (fun q hq => by have hq : q = o + 24 ∨ q = o + 25 ∨ q = o + 26 ∨ q = o + 27 := hq; show o + 24 ≤ q ∧ q ≤ o + 31; omega)).fs (fun q hq => hq) eV0, ?_⟩
          rw [if_pos (by unfold isS; omega)]
          first
            | exact (if_pos cq220).symm
            | exact (if_neg cq220).symm
        · skip
          refine g_iconst rfl ?_
          refine g_goto rfl ?_
          refine g_iret rfl ?_
          refine ⟨_, rfl, (G_17.wide (T2 := fun q => o + 24 ≤ q ∧ q ≤ o + 31) (fun q hq => by have hq : q = o + 24 ∨ q = o + 25 ∨ q = o + 26 ∨ q = o + 27 := hq; show o + 24 ≤ q ∧ q ≤ o + 31; omega)).fs (fun q hq => hq) eV0, ?_⟩
          rw [if_pos (by unfold isS; omega)]
          first
            | exact (if_pos cq220).symm
            | exact (if_neg cq220).symm
  · skip
    refine g_iconst rfl ?_
    refine g_iret rfl ?_
    refine ⟨V0, rfl, (G0.wide (T2 := fun q => o + 24 ≤ q ∧ q ≤ o + 31) (fun q hq => by have hq : q = o + 24 ∨ q = o + 25 ∨ q = o + 26 ∨ q = o + 27 := hq; show o + 24 ≤ q ∧ q ≤ o + 31; omega)).fs (fun q hq => hq) eV0, ?_⟩
    exact (if_neg (by unfold isS; omega)).symm
set_option maxRecDepth 100000 in
set_option maxHeartbeats 4000000 in
theorem m_holds11 {w : aW} {d : Nat} (hd : 10 ≤ d) {h : aH} {o : Nat} (ms : MS h o) (V : Nat → Nat → Int) {S : aS} (ok : OkT S) (mt : MT V o S) (a b c f : Int) : WP w d 324 [aO (some o), aI 11, aI a, aI b, aI c, aI f] (hw h V) (RI (fun r h1 => ∃ V1, h1 = hw h V1 ∧ FS V V1 o ∧ r = if isS S a 0 ∧ isS S b 0 ∧ isS S c 0 then (if ¬ sTp S a.toNat 2 = 0 ∧ ¬ sTp S b.toNat 2 = 0 ∧ ¬ sTp S c.toNat 2 = 0 ∧ 0 < m_det_S (tpR S a) (tpR S b) (tpR S c) then 1 else 0) else -1)) := by
  obtain ⟨d, rfl⟩ : ∃ d1, d = d1 + 1 := ⟨d - 1, by omega⟩
  refine WP.enter (cd := cd_X12_holds) rfl ?_
  have hn := ok.1
  have hls : largs 0 [aO (some o), aI 11, aI a, aI b, aI c, aI f] = [(0, aO (some o)), (1, aI 11), (2, aI a), (3, aI b), (4, aI c), (5, aI f)] := rfl
  rw [hls]
  clear hls
  refine g_aload_n rfl rfl ?_
  refine g_iconst rfl ?_
  refine g_putI rfl ms.1 ?_
  refine g_hp (h2 := hw h (vset V o 31 0)) rfl ?_
  refine g_aload_n rfl rfl ?_
  refine g_iconst rfl ?_
  refine g_putI rfl ms.1 ?_
  obtain ⟨V0, eV0⟩ : ∃ W, W = vset (vset V o 31 0) o 1 0 := ⟨_, rfl⟩
  refine g_hp (h2 := hw h V0) (by rw [eV0]; rfl) ?_
  have mt : MT V0 o S := by rw [eV0]; exact mt.rs
  have f0 : V0 o 1 = 0 := by rw [eV0]; exact vset_eq _ _ _ _
  have G0 := Gs.refl V0 o (fun q => q = o + 24 ∨ q = o + 25 ∨ q = o + 26 ∨ q = o + 27)
  refine g_iload_n rfl rfl ?_
  refine g_i2l rfl ?_
  refine g_lconst0 rfl ?_
  refine g_ldc2 rfl ?_
  refine g_callSI [aJ 11, aJ 0, aJ 14] [] rfl rfl rfl rfl (Nat.le_of_ble_eq_true rfl) (c_in (by omega) _ _ _ _) ?_
  rintro r1 _ ⟨rfl, rfl⟩
  refine g_b_ne rfl (fun cq19 => ?_) (fun cq19 => ?_)
  · skip
    refine g_iload_n rfl rfl ?_
    refine g_callSI [aI 11] [] rfl rfl rfl rfl (Nat.le_of_ble_eq_true rfl) (m_names11 (by omega) _) ?_
    rintro _ _ ⟨rfl, rfl⟩
    refine g_istore (l1 := [(6, aI 9), (0, aO (some o)), (1, aI 11), (2, aI a), (3, aI b), (4, aI c), (5, aI f)]) rfl rfl ?_
    refine g_aload_n rfl rfl ?_
    refine g_iload_n rfl rfl ?_
    refine g_iload rfl rfl ?_
    refine g_sipush rfl ?_
    refine g_idivN (m := 1000) (n := 9) rfl (by omega) (by omega) ?_
    refine g_top (v2 := aI 0) (congrArg aI (by rfl)) ?_
    refine g_callVI [aI a, aI 0] [] rfl rfl rfl rfl (Nat.le_of_ble_eq_true rfl) ms.1 (m_isNamed (by omega) ms V0 ok mt a 0 (by omega)) ?_
    rintro r2 _ ⟨rfl, e3⟩
    rw [e3]
    clear e3 r2
    refine g_b_eq rfl (fun cq41 => ?_) (fun cq41 => ?_)
    · skip
      refine g_iconst rfl ?_
      refine g_istore (l1 := [(7, aI 0), (6, aI 9), (0, aO (some o)), (1, aI 11), (2, aI a), (3, aI b), (4, aI c), (5, aI f)]) rfl rfl ?_
      refine g_iload rfl rfl ?_
      refine g_if_ne_f rfl (by omega) ?_
      refine g_iconst rfl ?_
      refine g_iret rfl ?_
      refine ⟨V0, rfl, (G0.wide (T2 := fun q => o + 24 ≤ q ∧ q ≤ o + 31) (fun q hq => by have hq : q = o + 24 ∨ q = o + 25 ∨ q = o + 26 ∨ q = o + 27 := hq; show o + 24 ≤ q ∧ q ≤ o + 31; omega)).fs (fun q hq => hq) eV0, ?_⟩
      exact (if_neg (by unfold isS; omega)).symm
    · skip
      refine g_aload_n rfl rfl ?_
      refine g_iload_n rfl rfl ?_
      refine g_iload rfl rfl ?_
      refine g_bipush rfl ?_
      refine g_idivN (m := 100) (n := 9) rfl (by omega) (by omega) ?_
      refine g_bipush rfl ?_
      refine g_iremN (m := 10) (n := (9 / 100)) rfl (by omega) ?_
      refine g_top (v2 := aI 0) (congrArg aI (by rfl)) ?_
      refine g_callVI [aI b, aI 0] [] rfl rfl rfl rfl (Nat.le_of_ble_eq_true rfl) ms.1 (m_isNamed (by omega) ms V0 ok mt b 0 (by omega)) ?_
      rintro r4 _ ⟨rfl, e5⟩
      rw [e5]
      clear e5 r4
      refine g_b_eq rfl (fun cq57 => ?_) (fun cq57 => ?_)
      · skip
        refine g_iconst rfl ?_
        refine g_istore (l1 := [(7, aI 0), (6, aI 9), (0, aO (some o)), (1, aI 11), (2, aI a), (3, aI b), (4, aI c), (5, aI f)]) rfl rfl ?_
        refine g_iload rfl rfl ?_
        refine g_if_ne_f rfl (by omega) ?_
        refine g_iconst rfl ?_
        refine g_iret rfl ?_
        refine ⟨V0, rfl, (G0.wide (T2 := fun q => o + 24 ≤ q ∧ q ≤ o + 31) (fun q hq => by have hq : q = o + 24 ∨ q = o + 25 ∨ q = o + 26 ∨ q = o + 27 := hq; show o + 24 ≤ q ∧ q ≤ o + 31; omega)).fs (fun q hq => hq) eV0, ?_⟩
        exact (if_neg (by unfold isS; omega)).symm
      · skip
        refine g_aload_n rfl rfl ?_
        refine g_iload rfl rfl ?_
        refine g_iload rfl rfl ?_
        refine g_bipush rfl ?_
        refine g_idivN (m := 10) (n := 9) rfl (by omega) (by omega) ?_
        refine g_bipush rfl ?_
        refine g_iremN (m := 10) (n := (9 / 10)) rfl (by omega) ?_
        refine g_top (v2 := aI 0) (congrArg aI (by rfl)) ?_
        refine g_callVI [aI c, aI 0] [] rfl rfl rfl rfl (Nat.le_of_ble_eq_true rfl) ms.1 (m_isNamed (by omega) ms V0 ok mt c 0 (by omega)) ?_
        rintro r6 _ ⟨rfl, e7⟩
        rw [e7]
        clear e7 r6
        refine g_b_eq rfl (fun cq74 => ?_) (fun cq74 => ?_)
        · skip
          refine g_iconst rfl ?_
          refine g_istore (l1 := [(7, aI 0), (6, aI 9), (0, aO (some o)), (1, aI 11), (2, aI a), (3, aI b), (4, aI c), (5, aI f)]) rfl rfl ?_
          refine g_iload rfl rfl ?_
          refine g_if_ne_f rfl (by omega) ?_
          refine g_iconst rfl ?_
          refine g_iret rfl ?_
          refine ⟨V0, rfl, (G0.wide (T2 := fun q => o + 24 ≤ q ∧ q ≤ o + 31) (fun q hq => by have hq : q = o + 24 ∨ q = o + 25 ∨ q = o + 26 ∨ q = o + 27 := hq; show o + 24 ≤ q ∧ q ≤ o + 31; omega)).fs (fun q hq => hq) eV0, ?_⟩
          exact (if_neg (by unfold isS; omega)).symm
        · skip
          refine g_aload_n rfl rfl ?_
          refine g_iload rfl rfl ?_
          refine g_iload rfl rfl ?_
          refine g_bipush rfl ?_
          refine g_iremN (m := 10) (n := 9) rfl (by omega) ?_
          refine g_top (v2 := aI 9) (congrArg aI (by rfl)) ?_
          refine g_callVI [aI f, aI 9] [] rfl rfl rfl rfl (Nat.le_of_ble_eq_true rfl) ms.1 (m_named9 (by omega) ms V0 f) ?_
          rintro r8 hx8 ⟨ehx8, rfl⟩
          rw [ehx8]
          clear ehx8 hx8
          refine g_if_eq_f rfl (by omega) ?_
          refine g_iconst rfl ?_
          refine g_goto rfl ?_
          refine g_istore (l1 := [(7, aI 1), (6, aI 9), (0, aO (some o)), (1, aI 11), (2, aI a), (3, aI b), (4, aI c), (5, aI f)]) rfl rfl ?_
          refine g_iload rfl rfl ?_
          refine g_if_ne_t rfl (by omega) ?_
          refine g_aload_n rfl rfl ?_
          have ha : 0 ≤ a ∧ a < sT S := by omega
          have hb : 0 ≤ b ∧ b < sT S := by omega
          have hc : 0 ≤ c ∧ c < sT S := by omega
          refine g_aload_n rfl rfl ?_
          refine g_getR rfl ms.1 (mr_one ms) ?_
          refine g_iload_n rfl rfl ?_
          refine g_callVN [aO (some (o + 24)), aI a] [] rfl rfl rfl rfl (Nat.le_of_ble_eq_true rfl) ms.1 (m_load (by omega) ms V0 ok mt (by have := G0.2.2.1; omega) ((o + 24)) (show SLa o ((o + 24)) by unfold SLa; omega) a ha) ?_
          rintro _ ⟨V9, rfl, g9, t9, u9, v9, y9, s9, xt9, xu9, xv9, xy9⟩
          have G_10 := G0.trans (g9.wide (fun q hq => by have hq : q = o + 24 := hq; show q = o + 24 ∨ q = o + 25 ∨ q = o + 26 ∨ q = o + 27; omega))
          refine g_aload_n rfl rfl ?_
          refine g_aload_n rfl rfl ?_
          refine g_getR rfl ms.1 (mr_two ms) ?_
          refine g_iload_n rfl rfl ?_
          refine g_callVN [aO (some (o + 25)), aI b] [] rfl rfl rfl rfl (Nat.le_of_ble_eq_true rfl) ms.1 (m_load (by omega) ms V9 ok (g9.mt (show ¬((o + 4) = o + 24) by omega) (show ¬((o + 5) = o + 24) by omega) mt) (by have := G_10.2.2.1; omega) ((o + 25)) (show SLa o ((o + 25)) by unfold SLa; omega) b hb) ?_
          rintro _ ⟨V11, rfl, g11, t11, u11, v11, y11, s11, xt11, xu11, xv11, xy11⟩
          have G_12 := G_10.trans (g11.wide (fun q hq => by have hq : q = o + 25 := hq; show q = o + 24 ∨ q = o + 25 ∨ q = o + 26 ∨ q = o + 27; omega))
          refine g_iload rfl rfl ?_
          refine g_bipush rfl ?_
          refine g_idivN (m := 10) (n := 9) rfl (by omega) (by omega) ?_
          refine g_bipush rfl ?_
          refine g_iremN (m := 10) (n := (9 / 10)) rfl (by omega) ?_
          refine g_top (v2 := aI 0) (congrArg aI (by rfl)) ?_
          refine g_bipush rfl ?_
          refine g_icmp_eq_f rfl (by omega) ?_
          refine g_iconst rfl ?_
          refine g_goto rfl ?_
          refine g_istore (l1 := [(8, aI 1), (7, aI 1), (6, aI 9), (0, aO (some o)), (1, aI 11), (2, aI a), (3, aI b), (4, aI c), (5, aI f)]) rfl rfl ?_
          refine g_aload_n rfl rfl ?_
          refine g_aload_n rfl rfl ?_
          refine g_getR rfl ms.1 (mr_three ms) ?_
          refine g_iload rfl rfl ?_
          refine g_if_eq_f rfl (by omega) ?_
          refine g_iload rfl rfl ?_
          refine g_goto rfl ?_
          refine g_callVN [aO (some (o + 26)), aI c] [] rfl rfl rfl rfl (Nat.le_of_ble_eq_true rfl) ms.1 (m_load (by omega) ms V11 ok (g11.mt (show ¬((o + 4) = o + 25) by omega) (show ¬((o + 5) = o + 25) by omega) (g9.mt (show ¬((o + 4) = o + 24) by omega) (show ¬((o + 5) = o + 24) by omega) mt)) (by have := G_12.2.2.1; omega) ((o + 26)) (show SLa o ((o + 26)) by unfold SLa; omega) c hc) ?_
          rintro _ ⟨V13, rfl, g13, t13, u13, v13, y13, s13, xt13, xu13, xv13, xy13⟩
          have G_14 := G_12.trans (g13.wide (fun q hq => by have hq : q = o + 26 := hq; show q = o + 24 ∨ q = o + 25 ∨ q = o + 26 ∨ q = o + 27; omega))
          refine g_aload_n rfl rfl ?_
          refine g_aload_n rfl rfl ?_
          refine g_getR rfl ms.1 (mr_four ms) ?_
          refine g_iload rfl rfl ?_
          refine g_bipush rfl ?_
          refine g_iremN (m := 10) (n := 9) rfl (by omega) ?_
          refine g_top (v2 := aI 9) (congrArg aI (by rfl)) ?_
          refine g_bipush rfl ?_
          refine g_icmp_eq_t rfl (by omega) ?_
          refine g_iload_n rfl rfl ?_
          refine g_callVN [aO (some (o + 27)), aI a] [] rfl rfl rfl rfl (Nat.le_of_ble_eq_true rfl) ms.1 (m_load (by omega) ms V13 ok (g13.mt (show ¬((o + 4) = o + 26) by omega) (show ¬((o + 5) = o + 26) by omega) (g11.mt (show ¬((o + 4) = o + 25) by omega) (show ¬((o + 5) = o + 25) by omega) (g9.mt (show ¬((o + 4) = o + 24) by omega) (show ¬((o + 5) = o + 24) by omega) mt))) (by have := G_14.2.2.1; omega) ((o + 27)) (show SLa o ((o + 27)) by unfold SLa; omega) a ha) ?_
          rintro _ ⟨V15, rfl, g15, t15, u15, v15, y15, s15, xt15, xu15, xv15, xy15⟩
          have G_16 := G_14.trans (g15.wide (fun q hq => by have hq : q = o + 27 := hq; show q = o + 24 ∨ q = o + 25 ∨ q = o + 26 ∨ q = o + 27; omega))
          refine g_aload_n rfl rfl ?_
          refine g_iload_n rfl rfl ?_
          refine g_iload_n rfl rfl ?_
          refine g_iload_n rfl rfl ?_
          refine g_iload rfl rfl ?_
          refine g_if_eq_f rfl (by omega) ?_
          refine g_iload rfl rfl ?_
          refine g_goto rfl ?_
          refine g_iload rfl rfl ?_
          refine g_bipush rfl ?_
          refine g_iremN (m := 10) (n := 9) rfl (by omega) ?_
          refine g_top (v2 := aI 9) (congrArg aI (by rfl)) ?_
          refine g_bipush rfl ?_
          refine g_icmp_eq_t rfl (by omega) ?_
          refine g_iload_n rfl rfl ?_
          refine g_callVI [aI 11, aI a, aI b, aI c, aI a] [] rfl rfl rfl rfl (Nat.le_of_ble_eq_true rfl) ms.1 (m_so11 (by omega) ms V15 ok (g15.mt (show ¬((o + 4) = o + 27) by omega) (show ¬((o + 5) = o + 27) by omega) (g13.mt (show ¬((o + 4) = o + 26) by omega) (show ¬((o + 5) = o + 26) by omega) (g11.mt (show ¬((o + 4) = o + 25) by omega) (show ¬((o + 5) = o + 25) by omega) (g9.mt (show ¬((o + 4) = o + 24) by omega) (show ¬((o + 5) = o + 24) by omega) mt)))) (by have := G_16.2.2.1; omega) (show SB V15 o (o + 24) (tpR S a) (20) from ⟨_, _, _, _, (g15.sa (show SLa o ((o + 24)) by unfold SLa; omega) (show ¬(o + 24 = o + 27) by omega) (g13.sa (show SLa o ((o + 24)) by unfold SLa; omega) (show ¬(o + 24 = o + 26) by omega) (g11.sa (show SLa o ((o + 24)) by unfold SLa; omega) (show ¬(o + 24 = o + 25) by omega) s9))), ((g15.rb (g13.rb (g11.rb xt9))).up (by omega)), ((g15.rb (g13.rb (g11.rb xu9))).up (by omega)), ((g15.rb (g13.rb (g11.rb xv9))).up (by omega)), ((g15.rb (g13.rb (g11.rb xy9))).up (by omega))⟩) (show SB V15 o (o + 25) (tpR S b) (20) from ⟨_, _, _, _, (g15.sa (show SLa o ((o + 25)) by unfold SLa; omega) (show ¬(o + 25 = o + 27) by omega) (g13.sa (show SLa o ((o + 25)) by unfold SLa; omega) (show ¬(o + 25 = o + 26) by omega) s11)), ((g15.rb (g13.rb xt11)).up (by omega)), ((g15.rb (g13.rb xu11)).up (by omega)), ((g15.rb (g13.rb xv11)).up (by omega)), ((g15.rb (g13.rb xy11)).up (by omega))⟩) (show SB V15 o (o + 26) (tpR S c) (20) from ⟨_, _, _, _, (g15.sa (show SLa o ((o + 26)) by unfold SLa; omega) (show ¬(o + 26 = o + 27) by omega) s13), ((g15.rb xt13).up (by omega)), ((g15.rb xu13).up (by omega)), ((g15.rb xv13).up (by omega)), ((g15.rb xy13).up (by omega))⟩) (show SB V15 o (o + 27) (tpR S a) (20) from ⟨_, _, _, _, s15, (xt15.up (by omega)), (xu15.up (by omega)), (xv15.up (by omega)), (xy15.up (by omega))⟩) a ha b hb c hc a ha) ?_
          rintro _ _ ⟨rfl, V17, rfl, g17⟩
          have G_18 := G_16.trans (g17.gs _)
          refine g_b_eq rfl (fun cq220 => ?_) (fun cq220 => ?_)
          · skip
            refine g_iconst rfl ?_
            refine g_iret rfl ?_
            refine ⟨_, rfl, (G_18.wide (T2 := fun q => o + 24 ≤ q ∧ q ≤ o + 31) (fun q hq => by have hq : q = o + 24 ∨ q = o + 25 ∨ q = o + 26 ∨ q = o + 27 := hq; show o + 24 ≤ q ∧ q ≤ o + 31; omega)).fs (fun q hq => hq) eV0, ?_⟩
            rw [if_pos (by unfold isS; omega)]
            first
              | exact (if_pos cq220).symm
              | exact (if_neg cq220).symm
          · skip
            refine g_iconst rfl ?_
            refine g_goto rfl ?_
            refine g_iret rfl ?_
            refine ⟨_, rfl, (G_18.wide (T2 := fun q => o + 24 ≤ q ∧ q ≤ o + 31) (fun q hq => by have hq : q = o + 24 ∨ q = o + 25 ∨ q = o + 26 ∨ q = o + 27 := hq; show o + 24 ≤ q ∧ q ≤ o + 31; omega)).fs (fun q hq => hq) eV0, ?_⟩
            rw [if_pos (by unfold isS; omega)]
            first
              | exact (if_pos cq220).symm
              | exact (if_neg cq220).symm
  · skip
    refine g_iconst rfl ?_
    refine g_iret rfl ?_
    refine ⟨V0, rfl, (G0.wide (T2 := fun q => o + 24 ≤ q ∧ q ≤ o + 31) (fun q hq => by have hq : q = o + 24 ∨ q = o + 25 ∨ q = o + 26 ∨ q = o + 27 := hq; show o + 24 ≤ q ∧ q ≤ o + 31; omega)).fs (fun q hq => hq) eV0, ?_⟩
    exact (if_neg (by unfold isS; omega)).symm
set_option maxRecDepth 100000 in
set_option maxHeartbeats 4000000 in
theorem m_holds12 {w : aW} {d : Nat} (hd : 10 ≤ d) {h : aH} {o : Nat} (ms : MS h o) (V : Nat → Nat → Int) {S : aS} (ok : OkT S) (mt : MT V o S) (a b c f : Int) : WP w d 324 [aO (some o), aI 12, aI a, aI b, aI c, aI f] (hw h V) (RI (fun r h1 => ∃ V1, h1 = hw h V1 ∧ FS V V1 o ∧ r = if isS S a 0 ∧ isS S b 2 then (if ¬ sTp S a.toNat 2 = 0 ∧ m_within_S (tpR S a) (tpR S b) < 0 then 1 else 0) else -1)) := by
  obtain ⟨d, rfl⟩ : ∃ d1, d = d1 + 1 := ⟨d - 1, by omega⟩
  refine WP.enter (cd := cd_X12_holds) rfl ?_
  have hn := ok.1
  have hls : largs 0 [aO (some o), aI 12, aI a, aI b, aI c, aI f] = [(0, aO (some o)), (1, aI 12), (2, aI a), (3, aI b), (4, aI c), (5, aI f)] := rfl
  rw [hls]
  clear hls
  refine g_aload_n rfl rfl ?_
  refine g_iconst rfl ?_
  refine g_putI rfl ms.1 ?_
  refine g_hp (h2 := hw h (vset V o 31 0)) rfl ?_
  refine g_aload_n rfl rfl ?_
  refine g_iconst rfl ?_
  refine g_putI rfl ms.1 ?_
  obtain ⟨V0, eV0⟩ : ∃ W, W = vset (vset V o 31 0) o 1 0 := ⟨_, rfl⟩
  refine g_hp (h2 := hw h V0) (by rw [eV0]; rfl) ?_
  have mt : MT V0 o S := by rw [eV0]; exact mt.rs
  have f0 : V0 o 1 = 0 := by rw [eV0]; exact vset_eq _ _ _ _
  have G0 := Gs.refl V0 o (fun q => q = o + 24 ∨ q = o + 25 ∨ q = o + 26 ∨ q = o + 27)
  refine g_iload_n rfl rfl ?_
  refine g_i2l rfl ?_
  refine g_lconst0 rfl ?_
  refine g_ldc2 rfl ?_
  refine g_callSI [aJ 12, aJ 0, aJ 14] [] rfl rfl rfl rfl (Nat.le_of_ble_eq_true rfl) (c_in (by omega) _ _ _ _) ?_
  rintro r1 _ ⟨rfl, rfl⟩
  refine g_b_ne rfl (fun cq19 => ?_) (fun cq19 => ?_)
  · skip
    refine g_iload_n rfl rfl ?_
    refine g_callSI [aI 12] [] rfl rfl rfl rfl (Nat.le_of_ble_eq_true rfl) (m_names12 (by omega) _) ?_
    rintro _ _ ⟨rfl, rfl⟩
    refine g_istore (l1 := [(6, aI 299), (0, aO (some o)), (1, aI 12), (2, aI a), (3, aI b), (4, aI c), (5, aI f)]) rfl rfl ?_
    refine g_aload_n rfl rfl ?_
    refine g_iload_n rfl rfl ?_
    refine g_iload rfl rfl ?_
    refine g_sipush rfl ?_
    refine g_idivN (m := 1000) (n := 299) rfl (by omega) (by omega) ?_
    refine g_top (v2 := aI 0) (congrArg aI (by rfl)) ?_
    refine g_callVI [aI a, aI 0] [] rfl rfl rfl rfl (Nat.le_of_ble_eq_true rfl) ms.1 (m_isNamed (by omega) ms V0 ok mt a 0 (by omega)) ?_
    rintro r2 _ ⟨rfl, e3⟩
    rw [e3]
    clear e3 r2
    refine g_b_eq rfl (fun cq41 => ?_) (fun cq41 => ?_)
    · skip
      refine g_iconst rfl ?_
      refine g_istore (l1 := [(7, aI 0), (6, aI 299), (0, aO (some o)), (1, aI 12), (2, aI a), (3, aI b), (4, aI c), (5, aI f)]) rfl rfl ?_
      refine g_iload rfl rfl ?_
      refine g_if_ne_f rfl (by omega) ?_
      refine g_iconst rfl ?_
      refine g_iret rfl ?_
      refine ⟨V0, rfl, (G0.wide (T2 := fun q => o + 24 ≤ q ∧ q ≤ o + 31) (fun q hq => by have hq : q = o + 24 ∨ q = o + 25 ∨ q = o + 26 ∨ q = o + 27 := hq; show o + 24 ≤ q ∧ q ≤ o + 31; omega)).fs (fun q hq => hq) eV0, ?_⟩
      exact (if_neg (by unfold isS; omega)).symm
    · skip
      refine g_aload_n rfl rfl ?_
      refine g_iload_n rfl rfl ?_
      refine g_iload rfl rfl ?_
      refine g_bipush rfl ?_
      refine g_idivN (m := 100) (n := 299) rfl (by omega) (by omega) ?_
      refine g_bipush rfl ?_
      refine g_iremN (m := 10) (n := (299 / 100)) rfl (by omega) ?_
      refine g_top (v2 := aI 2) (congrArg aI (by rfl)) ?_
      refine g_callVI [aI b, aI 2] [] rfl rfl rfl rfl (Nat.le_of_ble_eq_true rfl) ms.1 (m_isNamed (by omega) ms V0 ok mt b 2 (by omega)) ?_
      rintro r4 _ ⟨rfl, e5⟩
      rw [e5]
      clear e5 r4
      refine g_b_eq rfl (fun cq57 => ?_) (fun cq57 => ?_)
      · skip
        refine g_iconst rfl ?_
        refine g_istore (l1 := [(7, aI 0), (6, aI 299), (0, aO (some o)), (1, aI 12), (2, aI a), (3, aI b), (4, aI c), (5, aI f)]) rfl rfl ?_
        refine g_iload rfl rfl ?_
        refine g_if_ne_f rfl (by omega) ?_
        refine g_iconst rfl ?_
        refine g_iret rfl ?_
        refine ⟨V0, rfl, (G0.wide (T2 := fun q => o + 24 ≤ q ∧ q ≤ o + 31) (fun q hq => by have hq : q = o + 24 ∨ q = o + 25 ∨ q = o + 26 ∨ q = o + 27 := hq; show o + 24 ≤ q ∧ q ≤ o + 31; omega)).fs (fun q hq => hq) eV0, ?_⟩
        exact (if_neg (by unfold isS; omega)).symm
      · skip
        refine g_aload_n rfl rfl ?_
        refine g_iload rfl rfl ?_
        refine g_iload rfl rfl ?_
        refine g_bipush rfl ?_
        refine g_idivN (m := 10) (n := 299) rfl (by omega) (by omega) ?_
        refine g_bipush rfl ?_
        refine g_iremN (m := 10) (n := (299 / 10)) rfl (by omega) ?_
        refine g_top (v2 := aI 9) (congrArg aI (by rfl)) ?_
        refine g_callVI [aI c, aI 9] [] rfl rfl rfl rfl (Nat.le_of_ble_eq_true rfl) ms.1 (m_named9 (by omega) ms V0 c) ?_
        rintro r6 hx6 ⟨ehx6, rfl⟩
        rw [ehx6]
        clear ehx6 hx6
        refine g_if_eq_f rfl (by omega) ?_
        refine g_aload_n rfl rfl ?_
        refine g_iload rfl rfl ?_
        refine g_iload rfl rfl ?_
        refine g_bipush rfl ?_
        refine g_iremN (m := 10) (n := 299) rfl (by omega) ?_
        refine g_top (v2 := aI 9) (congrArg aI (by rfl)) ?_
        refine g_callVI [aI f, aI 9] [] rfl rfl rfl rfl (Nat.le_of_ble_eq_true rfl) ms.1 (m_named9 (by omega) ms V0 f) ?_
        rintro r7 hx7 ⟨ehx7, rfl⟩
        rw [ehx7]
        clear ehx7 hx7
        refine g_if_eq_f rfl (by omega) ?_
        refine g_iconst rfl ?_
        refine g_goto rfl ?_
        refine g_istore (l1 := [(7, aI 1), (6, aI 299), (0, aO (some o)), (1, aI 12), (2, aI a), (3, aI b), (4, aI c), (5, aI f)]) rfl rfl ?_
        refine g_iload rfl rfl ?_
        refine g_if_ne_t rfl (by omega) ?_
        refine g_aload_n rfl rfl ?_
        have ha : 0 ≤ a ∧ a < sT S := by omega
        have hb : 0 ≤ b ∧ b < sT S := by omega
        refine g_aload_n rfl rfl ?_
        refine g_getR rfl ms.1 (mr_one ms) ?_
        refine g_iload_n rfl rfl ?_
        refine g_callVN [aO (some (o + 24)), aI a] [] rfl rfl rfl rfl (Nat.le_of_ble_eq_true rfl) ms.1 (m_load (by omega) ms V0 ok mt (by have := G0.2.2.1; omega) ((o + 24)) (show SLa o ((o + 24)) by unfold SLa; omega) a ha) ?_
        rintro _ ⟨V8, rfl, g8, t8, u8, v8, y8, s8, xt8, xu8, xv8, xy8⟩
        have G_9 := G0.trans (g8.wide (fun q hq => by have hq : q = o + 24 := hq; show q = o + 24 ∨ q = o + 25 ∨ q = o + 26 ∨ q = o + 27; omega))
        refine g_aload_n rfl rfl ?_
        refine g_aload_n rfl rfl ?_
        refine g_getR rfl ms.1 (mr_two ms) ?_
        refine g_iload_n rfl rfl ?_
        refine g_callVN [aO (some (o + 25)), aI b] [] rfl rfl rfl rfl (Nat.le_of_ble_eq_true rfl) ms.1 (m_load (by omega) ms V8 ok (g8.mt (show ¬((o + 4) = o + 24) by omega) (show ¬((o + 5) = o + 24) by omega) mt) (by have := G_9.2.2.1; omega) ((o + 25)) (show SLa o ((o + 25)) by unfold SLa; omega) b hb) ?_
        rintro _ ⟨V10, rfl, g10, t10, u10, v10, y10, s10, xt10, xu10, xv10, xy10⟩
        have G_11 := G_9.trans (g10.wide (fun q hq => by have hq : q = o + 25 := hq; show q = o + 24 ∨ q = o + 25 ∨ q = o + 26 ∨ q = o + 27; omega))
        refine g_iload rfl rfl ?_
        refine g_bipush rfl ?_
        refine g_idivN (m := 10) (n := 299) rfl (by omega) (by omega) ?_
        refine g_bipush rfl ?_
        refine g_iremN (m := 10) (n := (299 / 10)) rfl (by omega) ?_
        refine g_top (v2 := aI 9) (congrArg aI (by rfl)) ?_
        refine g_bipush rfl ?_
        refine g_icmp_eq_t rfl (by omega) ?_
        refine g_iconst rfl ?_
        refine g_istore (l1 := [(8, aI 0), (7, aI 1), (6, aI 299), (0, aO (some o)), (1, aI 12), (2, aI a), (3, aI b), (4, aI c), (5, aI f)]) rfl rfl ?_
        refine g_aload_n rfl rfl ?_
        refine g_aload_n rfl rfl ?_
        refine g_getR rfl ms.1 (mr_three ms) ?_
        refine g_iload rfl rfl ?_
        refine g_if_eq_t rfl (by omega) ?_
        refine g_iload_n rfl rfl ?_
        refine g_callVN [aO (some (o + 26)), aI a] [] rfl rfl rfl rfl (Nat.le_of_ble_eq_true rfl) ms.1 (m_load (by omega) ms V10 ok (g10.mt (show ¬((o + 4) = o + 25) by omega) (show ¬((o + 5) = o + 25) by omega) (g8.mt (show ¬((o + 4) = o + 24) by omega) (show ¬((o + 5) = o + 24) by omega) mt)) (by have := G_11.2.2.1; omega) ((o + 26)) (show SLa o ((o + 26)) by unfold SLa; omega) a ha) ?_
        rintro _ ⟨V12, rfl, g12, t12, u12, v12, y12, s12, xt12, xu12, xv12, xy12⟩
        have G_13 := G_11.trans (g12.wide (fun q hq => by have hq : q = o + 26 := hq; show q = o + 24 ∨ q = o + 25 ∨ q = o + 26 ∨ q = o + 27; omega))
        refine g_aload_n rfl rfl ?_
        refine g_aload_n rfl rfl ?_
        refine g_getR rfl ms.1 (mr_four ms) ?_
        refine g_iload rfl rfl ?_
        refine g_bipush rfl ?_
        refine g_iremN (m := 10) (n := 299) rfl (by omega) ?_
        refine g_top (v2 := aI 9) (congrArg aI (by rfl)) ?_
        refine g_bipush rfl ?_
        refine g_icmp_eq_t rfl (by omega) ?_
        refine g_iload_n rfl rfl ?_
        refine g_callVN [aO (some (o + 27)), aI a] [] rfl rfl rfl rfl (Nat.le_of_ble_eq_true rfl) ms.1 (m_load (by omega) ms V12 ok (g12.mt (show ¬((o + 4) = o + 26) by omega) (show ¬((o + 5) = o + 26) by omega) (g10.mt (show ¬((o + 4) = o + 25) by omega) (show ¬((o + 5) = o + 25) by omega) (g8.mt (show ¬((o + 4) = o + 24) by omega) (show ¬((o + 5) = o + 24) by omega) mt))) (by have := G_13.2.2.1; omega) ((o + 27)) (show SLa o ((o + 27)) by unfold SLa; omega) a ha) ?_
        rintro _ ⟨V14, rfl, g14, t14, u14, v14, y14, s14, xt14, xu14, xv14, xy14⟩
        have G_15 := G_13.trans (g14.wide (fun q hq => by have hq : q = o + 27 := hq; show q = o + 24 ∨ q = o + 25 ∨ q = o + 26 ∨ q = o + 27; omega))
        refine g_aload_n rfl rfl ?_
        refine g_iload_n rfl rfl ?_
        refine g_iload_n rfl rfl ?_
        refine g_iload_n rfl rfl ?_
        refine g_iload rfl rfl ?_
        refine g_if_eq_t rfl (by omega) ?_
        refine g_iload_n rfl rfl ?_
        refine g_iload rfl rfl ?_
        refine g_bipush rfl ?_
        refine g_iremN (m := 10) (n := 299) rfl (by omega) ?_
        refine g_top (v2 := aI 9) (congrArg aI (by rfl)) ?_
        refine g_bipush rfl ?_
        refine g_icmp_eq_t rfl (by omega) ?_
        refine g_iload_n rfl rfl ?_
        refine g_callVI [aI 12, aI a, aI b, aI a, aI a] [] rfl rfl rfl rfl (Nat.le_of_ble_eq_true rfl) ms.1 (m_so12 (by omega) ms V14 ok (g14.mt (show ¬((o + 4) = o + 27) by omega) (show ¬((o + 5) = o + 27) by omega) (g12.mt (show ¬((o + 4) = o + 26) by omega) (show ¬((o + 5) = o + 26) by omega) (g10.mt (show ¬((o + 4) = o + 25) by omega) (show ¬((o + 5) = o + 25) by omega) (g8.mt (show ¬((o + 4) = o + 24) by omega) (show ¬((o + 5) = o + 24) by omega) mt)))) (by have := G_15.2.2.1; omega) (show SB V14 o (o + 24) (tpR S a) (20) from ⟨_, _, _, _, (g14.sa (show SLa o ((o + 24)) by unfold SLa; omega) (show ¬(o + 24 = o + 27) by omega) (g12.sa (show SLa o ((o + 24)) by unfold SLa; omega) (show ¬(o + 24 = o + 26) by omega) (g10.sa (show SLa o ((o + 24)) by unfold SLa; omega) (show ¬(o + 24 = o + 25) by omega) s8))), ((g14.rb (g12.rb (g10.rb xt8))).up (by omega)), ((g14.rb (g12.rb (g10.rb xu8))).up (by omega)), ((g14.rb (g12.rb (g10.rb xv8))).up (by omega)), ((g14.rb (g12.rb (g10.rb xy8))).up (by omega))⟩) (show SB V14 o (o + 25) (tpR S b) (20) from ⟨_, _, _, _, (g14.sa (show SLa o ((o + 25)) by unfold SLa; omega) (show ¬(o + 25 = o + 27) by omega) (g12.sa (show SLa o ((o + 25)) by unfold SLa; omega) (show ¬(o + 25 = o + 26) by omega) s10)), ((g14.rb (g12.rb xt10)).up (by omega)), ((g14.rb (g12.rb xu10)).up (by omega)), ((g14.rb (g12.rb xv10)).up (by omega)), ((g14.rb (g12.rb xy10)).up (by omega))⟩) (show SB V14 o (o + 26) (tpR S a) (20) from ⟨_, _, _, _, (g14.sa (show SLa o ((o + 26)) by unfold SLa; omega) (show ¬(o + 26 = o + 27) by omega) s12), ((g14.rb xt12).up (by omega)), ((g14.rb xu12).up (by omega)), ((g14.rb xv12).up (by omega)), ((g14.rb xy12).up (by omega))⟩) (show SB V14 o (o + 27) (tpR S a) (20) from ⟨_, _, _, _, s14, (xt14.up (by omega)), (xu14.up (by omega)), (xv14.up (by omega)), (xy14.up (by omega))⟩) a ha b hb a ha a ha) ?_
        rintro _ _ ⟨rfl, V16, rfl, g16⟩
        have G_17 := G_15.trans (g16.gs _)
        refine g_b_eq rfl (fun cq220 => ?_) (fun cq220 => ?_)
        · skip
          refine g_iconst rfl ?_
          refine g_iret rfl ?_
          refine ⟨_, rfl, (G_17.wide (T2 := fun q => o + 24 ≤ q ∧ q ≤ o + 31) (fun q hq => by have hq : q = o + 24 ∨ q = o + 25 ∨ q = o + 26 ∨ q = o + 27 := hq; show o + 24 ≤ q ∧ q ≤ o + 31; omega)).fs (fun q hq => hq) eV0, ?_⟩
          rw [if_pos (by unfold isS; omega)]
          first
            | exact (if_pos cq220).symm
            | exact (if_neg cq220).symm
        · skip
          refine g_iconst rfl ?_
          refine g_goto rfl ?_
          refine g_iret rfl ?_
          refine ⟨_, rfl, (G_17.wide (T2 := fun q => o + 24 ≤ q ∧ q ≤ o + 31) (fun q hq => by have hq : q = o + 24 ∨ q = o + 25 ∨ q = o + 26 ∨ q = o + 27 := hq; show o + 24 ≤ q ∧ q ≤ o + 31; omega)).fs (fun q hq => hq) eV0, ?_⟩
          rw [if_pos (by unfold isS; omega)]
          first
            | exact (if_pos cq220).symm
            | exact (if_neg cq220).symm
  · skip
    refine g_iconst rfl ?_
    refine g_iret rfl ?_
    refine ⟨V0, rfl, (G0.wide (T2 := fun q => o + 24 ≤ q ∧ q ≤ o + 31) (fun q hq => by have hq : q = o + 24 ∨ q = o + 25 ∨ q = o + 26 ∨ q = o + 27 := hq; show o + 24 ≤ q ∧ q ≤ o + 31; omega)).fs (fun q hq => hq) eV0, ?_⟩
    exact (if_neg (by unfold isS; omega)).symm
set_option maxRecDepth 100000 in
set_option maxHeartbeats 4000000 in
theorem m_holds13 {w : aW} {d : Nat} (hd : 10 ≤ d) {h : aH} {o : Nat} (ms : MS h o) (V : Nat → Nat → Int) {S : aS} (ok : OkT S) (mt : MT V o S) (a b c f : Int) : WP w d 324 [aO (some o), aI 13, aI a, aI b, aI c, aI f] (hw h V) (RI (fun r h1 => ∃ V1, h1 = hw h V1 ∧ FS V V1 o ∧ r = if isS S a 1 ∧ isS S b 1 ∧ isS S c 2 then (if m_dot_S (m_pole_S (tpR S a) (tpR S c)) (tpR S b) = 0 then 1 else 0) else -1)) := by
  obtain ⟨d, rfl⟩ : ∃ d1, d = d1 + 1 := ⟨d - 1, by omega⟩
  refine WP.enter (cd := cd_X12_holds) rfl ?_
  have hn := ok.1
  have hls : largs 0 [aO (some o), aI 13, aI a, aI b, aI c, aI f] = [(0, aO (some o)), (1, aI 13), (2, aI a), (3, aI b), (4, aI c), (5, aI f)] := rfl
  rw [hls]
  clear hls
  refine g_aload_n rfl rfl ?_
  refine g_iconst rfl ?_
  refine g_putI rfl ms.1 ?_
  refine g_hp (h2 := hw h (vset V o 31 0)) rfl ?_
  refine g_aload_n rfl rfl ?_
  refine g_iconst rfl ?_
  refine g_putI rfl ms.1 ?_
  obtain ⟨V0, eV0⟩ : ∃ W, W = vset (vset V o 31 0) o 1 0 := ⟨_, rfl⟩
  refine g_hp (h2 := hw h V0) (by rw [eV0]; rfl) ?_
  have mt : MT V0 o S := by rw [eV0]; exact mt.rs
  have f0 : V0 o 1 = 0 := by rw [eV0]; exact vset_eq _ _ _ _
  have G0 := Gs.refl V0 o (fun q => q = o + 24 ∨ q = o + 25 ∨ q = o + 26 ∨ q = o + 27 ∨ q = o + 29)
  refine g_iload_n rfl rfl ?_
  refine g_i2l rfl ?_
  refine g_lconst0 rfl ?_
  refine g_ldc2 rfl ?_
  refine g_callSI [aJ 13, aJ 0, aJ 14] [] rfl rfl rfl rfl (Nat.le_of_ble_eq_true rfl) (c_in (by omega) _ _ _ _) ?_
  rintro r1 _ ⟨rfl, rfl⟩
  refine g_b_ne rfl (fun cq19 => ?_) (fun cq19 => ?_)
  · skip
    refine g_iload_n rfl rfl ?_
    refine g_callSI [aI 13] [] rfl rfl rfl rfl (Nat.le_of_ble_eq_true rfl) (m_names13 (by omega) _) ?_
    rintro _ _ ⟨rfl, rfl⟩
    refine g_istore (l1 := [(6, aI 1129), (0, aO (some o)), (1, aI 13), (2, aI a), (3, aI b), (4, aI c), (5, aI f)]) rfl rfl ?_
    refine g_aload_n rfl rfl ?_
    refine g_iload_n rfl rfl ?_
    refine g_iload rfl rfl ?_
    refine g_sipush rfl ?_
    refine g_idivN (m := 1000) (n := 1129) rfl (by omega) (by omega) ?_
    refine g_top (v2 := aI 1) (congrArg aI (by rfl)) ?_
    refine g_callVI [aI a, aI 1] [] rfl rfl rfl rfl (Nat.le_of_ble_eq_true rfl) ms.1 (m_isNamed (by omega) ms V0 ok mt a 1 (by omega)) ?_
    rintro r2 _ ⟨rfl, e3⟩
    rw [e3]
    clear e3 r2
    refine g_b_eq rfl (fun cq41 => ?_) (fun cq41 => ?_)
    · skip
      refine g_iconst rfl ?_
      refine g_istore (l1 := [(7, aI 0), (6, aI 1129), (0, aO (some o)), (1, aI 13), (2, aI a), (3, aI b), (4, aI c), (5, aI f)]) rfl rfl ?_
      refine g_iload rfl rfl ?_
      refine g_if_ne_f rfl (by omega) ?_
      refine g_iconst rfl ?_
      refine g_iret rfl ?_
      refine ⟨V0, rfl, (G0.wide (T2 := fun q => o + 24 ≤ q ∧ q ≤ o + 31) (fun q hq => by have hq : q = o + 24 ∨ q = o + 25 ∨ q = o + 26 ∨ q = o + 27 ∨ q = o + 29 := hq; show o + 24 ≤ q ∧ q ≤ o + 31; omega)).fs (fun q hq => hq) eV0, ?_⟩
      exact (if_neg (by unfold isS; omega)).symm
    · skip
      refine g_aload_n rfl rfl ?_
      refine g_iload_n rfl rfl ?_
      refine g_iload rfl rfl ?_
      refine g_bipush rfl ?_
      refine g_idivN (m := 100) (n := 1129) rfl (by omega) (by omega) ?_
      refine g_bipush rfl ?_
      refine g_iremN (m := 10) (n := (1129 / 100)) rfl (by omega) ?_
      refine g_top (v2 := aI 1) (congrArg aI (by rfl)) ?_
      refine g_callVI [aI b, aI 1] [] rfl rfl rfl rfl (Nat.le_of_ble_eq_true rfl) ms.1 (m_isNamed (by omega) ms V0 ok mt b 1 (by omega)) ?_
      rintro r4 _ ⟨rfl, e5⟩
      rw [e5]
      clear e5 r4
      refine g_b_eq rfl (fun cq57 => ?_) (fun cq57 => ?_)
      · skip
        refine g_iconst rfl ?_
        refine g_istore (l1 := [(7, aI 0), (6, aI 1129), (0, aO (some o)), (1, aI 13), (2, aI a), (3, aI b), (4, aI c), (5, aI f)]) rfl rfl ?_
        refine g_iload rfl rfl ?_
        refine g_if_ne_f rfl (by omega) ?_
        refine g_iconst rfl ?_
        refine g_iret rfl ?_
        refine ⟨V0, rfl, (G0.wide (T2 := fun q => o + 24 ≤ q ∧ q ≤ o + 31) (fun q hq => by have hq : q = o + 24 ∨ q = o + 25 ∨ q = o + 26 ∨ q = o + 27 ∨ q = o + 29 := hq; show o + 24 ≤ q ∧ q ≤ o + 31; omega)).fs (fun q hq => hq) eV0, ?_⟩
        exact (if_neg (by unfold isS; omega)).symm
      · skip
        refine g_aload_n rfl rfl ?_
        refine g_iload rfl rfl ?_
        refine g_iload rfl rfl ?_
        refine g_bipush rfl ?_
        refine g_idivN (m := 10) (n := 1129) rfl (by omega) (by omega) ?_
        refine g_bipush rfl ?_
        refine g_iremN (m := 10) (n := (1129 / 10)) rfl (by omega) ?_
        refine g_top (v2 := aI 2) (congrArg aI (by rfl)) ?_
        refine g_callVI [aI c, aI 2] [] rfl rfl rfl rfl (Nat.le_of_ble_eq_true rfl) ms.1 (m_isNamed (by omega) ms V0 ok mt c 2 (by omega)) ?_
        rintro r6 _ ⟨rfl, e7⟩
        rw [e7]
        clear e7 r6
        refine g_b_eq rfl (fun cq74 => ?_) (fun cq74 => ?_)
        · skip
          refine g_iconst rfl ?_
          refine g_istore (l1 := [(7, aI 0), (6, aI 1129), (0, aO (some o)), (1, aI 13), (2, aI a), (3, aI b), (4, aI c), (5, aI f)]) rfl rfl ?_
          refine g_iload rfl rfl ?_
          refine g_if_ne_f rfl (by omega) ?_
          refine g_iconst rfl ?_
          refine g_iret rfl ?_
          refine ⟨V0, rfl, (G0.wide (T2 := fun q => o + 24 ≤ q ∧ q ≤ o + 31) (fun q hq => by have hq : q = o + 24 ∨ q = o + 25 ∨ q = o + 26 ∨ q = o + 27 ∨ q = o + 29 := hq; show o + 24 ≤ q ∧ q ≤ o + 31; omega)).fs (fun q hq => hq) eV0, ?_⟩
          exact (if_neg (by unfold isS; omega)).symm
        · skip
          refine g_aload_n rfl rfl ?_
          refine g_iload rfl rfl ?_
          refine g_iload rfl rfl ?_
          refine g_bipush rfl ?_
          refine g_iremN (m := 10) (n := 1129) rfl (by omega) ?_
          refine g_top (v2 := aI 9) (congrArg aI (by rfl)) ?_
          refine g_callVI [aI f, aI 9] [] rfl rfl rfl rfl (Nat.le_of_ble_eq_true rfl) ms.1 (m_named9 (by omega) ms V0 f) ?_
          rintro r8 hx8 ⟨ehx8, rfl⟩
          rw [ehx8]
          clear ehx8 hx8
          refine g_if_eq_f rfl (by omega) ?_
          refine g_iconst rfl ?_
          refine g_goto rfl ?_
          refine g_istore (l1 := [(7, aI 1), (6, aI 1129), (0, aO (some o)), (1, aI 13), (2, aI a), (3, aI b), (4, aI c), (5, aI f)]) rfl rfl ?_
          refine g_iload rfl rfl ?_
          refine g_if_ne_t rfl (by omega) ?_
          refine g_aload_n rfl rfl ?_
          have ha : 0 ≤ a ∧ a < sT S := by omega
          have hb : 0 ≤ b ∧ b < sT S := by omega
          have hc : 0 ≤ c ∧ c < sT S := by omega
          refine g_aload_n rfl rfl ?_
          refine g_getR rfl ms.1 (mr_one ms) ?_
          refine g_iload_n rfl rfl ?_
          refine g_callVN [aO (some (o + 24)), aI a] [] rfl rfl rfl rfl (Nat.le_of_ble_eq_true rfl) ms.1 (m_load (by omega) ms V0 ok mt (by have := G0.2.2.1; omega) ((o + 24)) (show SLa o ((o + 24)) by unfold SLa; omega) a ha) ?_
          rintro _ ⟨V9, rfl, g9, t9, u9, v9, y9, s9, xt9, xu9, xv9, xy9⟩
          have G_10 := G0.trans (g9.wide (fun q hq => by have hq : q = o + 24 := hq; show q = o + 24 ∨ q = o + 25 ∨ q = o + 26 ∨ q = o + 27 ∨ q = o + 29; omega))
          refine g_aload_n rfl rfl ?_
          refine g_aload_n rfl rfl ?_
          refine g_getR rfl ms.1 (mr_two ms) ?_
          refine g_iload_n rfl rfl ?_
          refine g_callVN [aO (some (o + 25)), aI b] [] rfl rfl rfl rfl (Nat.le_of_ble_eq_true rfl) ms.1 (m_load (by omega) ms V9 ok (g9.mt (show ¬((o + 4) = o + 24) by omega) (show ¬((o + 5) = o + 24) by omega) mt) (by have := G_10.2.2.1; omega) ((o + 25)) (show SLa o ((o + 25)) by unfold SLa; omega) b hb) ?_
          rintro _ ⟨V11, rfl, g11, t11, u11, v11, y11, s11, xt11, xu11, xv11, xy11⟩
          have G_12 := G_10.trans (g11.wide (fun q hq => by have hq : q = o + 25 := hq; show q = o + 24 ∨ q = o + 25 ∨ q = o + 26 ∨ q = o + 27 ∨ q = o + 29; omega))
          refine g_iload rfl rfl ?_
          refine g_bipush rfl ?_
          refine g_idivN (m := 10) (n := 1129) rfl (by omega) (by omega) ?_
          refine g_bipush rfl ?_
          refine g_iremN (m := 10) (n := (1129 / 10)) rfl (by omega) ?_
          refine g_top (v2 := aI 2) (congrArg aI (by rfl)) ?_
          refine g_bipush rfl ?_
          refine g_icmp_eq_f rfl (by omega) ?_
          refine g_iconst rfl ?_
          refine g_goto rfl ?_
          refine g_istore (l1 := [(8, aI 1), (7, aI 1), (6, aI 1129), (0, aO (some o)), (1, aI 13), (2, aI a), (3, aI b), (4, aI c), (5, aI f)]) rfl rfl ?_
          refine g_aload_n rfl rfl ?_
          refine g_aload_n rfl rfl ?_
          refine g_getR rfl ms.1 (mr_three ms) ?_
          refine g_iload rfl rfl ?_
          refine g_if_eq_f rfl (by omega) ?_
          refine g_iload rfl rfl ?_
          refine g_goto rfl ?_
          refine g_callVN [aO (some (o + 26)), aI c] [] rfl rfl rfl rfl (Nat.le_of_ble_eq_true rfl) ms.1 (m_load (by omega) ms V11 ok (g11.mt (show ¬((o + 4) = o + 25) by omega) (show ¬((o + 5) = o + 25) by omega) (g9.mt (show ¬((o + 4) = o + 24) by omega) (show ¬((o + 5) = o + 24) by omega) mt)) (by have := G_12.2.2.1; omega) ((o + 26)) (show SLa o ((o + 26)) by unfold SLa; omega) c hc) ?_
          rintro _ ⟨V13, rfl, g13, t13, u13, v13, y13, s13, xt13, xu13, xv13, xy13⟩
          have G_14 := G_12.trans (g13.wide (fun q hq => by have hq : q = o + 26 := hq; show q = o + 24 ∨ q = o + 25 ∨ q = o + 26 ∨ q = o + 27 ∨ q = o + 29; omega))
          refine g_aload_n rfl rfl ?_
          refine g_aload_n rfl rfl ?_
          refine g_getR rfl ms.1 (mr_four ms) ?_
          refine g_iload rfl rfl ?_
          refine g_bipush rfl ?_
          refine g_iremN (m := 10) (n := 1129) rfl (by omega) ?_
          refine g_top (v2 := aI 9) (congrArg aI (by rfl)) ?_
          refine g_bipush rfl ?_
          refine g_icmp_eq_t rfl (by omega) ?_
          refine g_iload_n rfl rfl ?_
          refine g_callVN [aO (some (o + 27)), aI a] [] rfl rfl rfl rfl (Nat.le_of_ble_eq_true rfl) ms.1 (m_load (by omega) ms V13 ok (g13.mt (show ¬((o + 4) = o + 26) by omega) (show ¬((o + 5) = o + 26) by omega) (g11.mt (show ¬((o + 4) = o + 25) by omega) (show ¬((o + 5) = o + 25) by omega) (g9.mt (show ¬((o + 4) = o + 24) by omega) (show ¬((o + 5) = o + 24) by omega) mt))) (by have := G_14.2.2.1; omega) ((o + 27)) (show SLa o ((o + 27)) by unfold SLa; omega) a ha) ?_
          rintro _ ⟨V15, rfl, g15, t15, u15, v15, y15, s15, xt15, xu15, xv15, xy15⟩
          have G_16 := G_14.trans (g15.wide (fun q hq => by have hq : q = o + 27 := hq; show q = o + 24 ∨ q = o + 25 ∨ q = o + 26 ∨ q = o + 27 ∨ q = o + 29; omega))
          refine g_aload_n rfl rfl ?_
          refine g_iload_n rfl rfl ?_
          refine g_iload_n rfl rfl ?_
          refine g_iload_n rfl rfl ?_
          refine g_iload rfl rfl ?_
          refine g_if_eq_f rfl (by omega) ?_
          refine g_iload rfl rfl ?_
          refine g_goto rfl ?_
          refine g_iload rfl rfl ?_
          refine g_bipush rfl ?_
          refine g_iremN (m := 10) (n := 1129) rfl (by omega) ?_
          refine g_top (v2 := aI 9) (congrArg aI (by rfl)) ?_
          refine g_bipush rfl ?_
          refine g_icmp_eq_t rfl (by omega) ?_
          refine g_iload_n rfl rfl ?_
          refine g_callVI [aI 13, aI a, aI b, aI c, aI a] [] rfl rfl rfl rfl (Nat.le_of_ble_eq_true rfl) ms.1 (m_so13 (by omega) ms V15 ok (g15.mt (show ¬((o + 4) = o + 27) by omega) (show ¬((o + 5) = o + 27) by omega) (g13.mt (show ¬((o + 4) = o + 26) by omega) (show ¬((o + 5) = o + 26) by omega) (g11.mt (show ¬((o + 4) = o + 25) by omega) (show ¬((o + 5) = o + 25) by omega) (g9.mt (show ¬((o + 4) = o + 24) by omega) (show ¬((o + 5) = o + 24) by omega) mt)))) (by have := G_16.2.2.1; omega) (show SB V15 o (o + 24) (tpR S a) (20) from ⟨_, _, _, _, (g15.sa (show SLa o ((o + 24)) by unfold SLa; omega) (show ¬(o + 24 = o + 27) by omega) (g13.sa (show SLa o ((o + 24)) by unfold SLa; omega) (show ¬(o + 24 = o + 26) by omega) (g11.sa (show SLa o ((o + 24)) by unfold SLa; omega) (show ¬(o + 24 = o + 25) by omega) s9))), ((g15.rb (g13.rb (g11.rb xt9))).up (by omega)), ((g15.rb (g13.rb (g11.rb xu9))).up (by omega)), ((g15.rb (g13.rb (g11.rb xv9))).up (by omega)), ((g15.rb (g13.rb (g11.rb xy9))).up (by omega))⟩) (show SB V15 o (o + 25) (tpR S b) (20) from ⟨_, _, _, _, (g15.sa (show SLa o ((o + 25)) by unfold SLa; omega) (show ¬(o + 25 = o + 27) by omega) (g13.sa (show SLa o ((o + 25)) by unfold SLa; omega) (show ¬(o + 25 = o + 26) by omega) s11)), ((g15.rb (g13.rb xt11)).up (by omega)), ((g15.rb (g13.rb xu11)).up (by omega)), ((g15.rb (g13.rb xv11)).up (by omega)), ((g15.rb (g13.rb xy11)).up (by omega))⟩) (show SB V15 o (o + 26) (tpR S c) (20) from ⟨_, _, _, _, (g15.sa (show SLa o ((o + 26)) by unfold SLa; omega) (show ¬(o + 26 = o + 27) by omega) s13), ((g15.rb xt13).up (by omega)), ((g15.rb xu13).up (by omega)), ((g15.rb xv13).up (by omega)), ((g15.rb xy13).up (by omega))⟩) (show SB V15 o (o + 27) (tpR S a) (20) from ⟨_, _, _, _, s15, (xt15.up (by omega)), (xu15.up (by omega)), (xv15.up (by omega)), (xy15.up (by omega))⟩) a ha b hb c hc a ha) ?_
          rintro _ _ ⟨rfl, V17, rfl, g17⟩
          have G_18 := G_16.trans (g17.wide (fun q hq => by have hq : q = o + 29 := hq; show q = o + 24 ∨ q = o + 25 ∨ q = o + 26 ∨ q = o + 27 ∨ q = o + 29; omega))
          refine g_b_eq rfl (fun cq220 => ?_) (fun cq220 => ?_)
          · skip
            refine g_iconst rfl ?_
            refine g_iret rfl ?_
            refine ⟨_, rfl, (G_18.wide (T2 := fun q => o + 24 ≤ q ∧ q ≤ o + 31) (fun q hq => by have hq : q = o + 24 ∨ q = o + 25 ∨ q = o + 26 ∨ q = o + 27 ∨ q = o + 29 := hq; show o + 24 ≤ q ∧ q ≤ o + 31; omega)).fs (fun q hq => hq) eV0, ?_⟩
            rw [if_pos (by unfold isS; omega)]
            first
              | exact (if_pos cq220).symm
              | exact (if_neg cq220).symm
          · skip
            refine g_iconst rfl ?_
            refine g_goto rfl ?_
            refine g_iret rfl ?_
            refine ⟨_, rfl, (G_18.wide (T2 := fun q => o + 24 ≤ q ∧ q ≤ o + 31) (fun q hq => by have hq : q = o + 24 ∨ q = o + 25 ∨ q = o + 26 ∨ q = o + 27 ∨ q = o + 29 := hq; show o + 24 ≤ q ∧ q ≤ o + 31; omega)).fs (fun q hq => hq) eV0, ?_⟩
            rw [if_pos (by unfold isS; omega)]
            first
              | exact (if_pos cq220).symm
              | exact (if_neg cq220).symm
  · skip
    refine g_iconst rfl ?_
    refine g_iret rfl ?_
    refine ⟨V0, rfl, (G0.wide (T2 := fun q => o + 24 ≤ q ∧ q ≤ o + 31) (fun q hq => by have hq : q = o + 24 ∨ q = o + 25 ∨ q = o + 26 ∨ q = o + 27 ∨ q = o + 29 := hq; show o + 24 ≤ q ∧ q ≤ o + 31; omega)).fs (fun q hq => hq) eV0, ?_⟩
    exact (if_neg (by unfold isS; omega)).symm
set_option maxRecDepth 100000 in
set_option maxHeartbeats 4000000 in
theorem m_holds14 {w : aW} {d : Nat} (hd : 10 ≤ d) {h : aH} {o : Nat} (ms : MS h o) (V : Nat → Nat → Int) {S : aS} (ok : OkT S) (mt : MT V o S) (a b c f : Int) : WP w d 324 [aO (some o), aI 14, aI a, aI b, aI c, aI f] (hw h V) (RI (fun r h1 => ∃ V1, h1 = hw h V1 ∧ FS V V1 o ∧ r = if isS S a 0 ∧ isS S b 0 ∧ isS S c 0 ∧ isS S f 0 then (if (¬ (sTp S a.toNat 0 = sTp S b.toNat 0 ∧ sTp S a.toNat 1 = sTp S b.toNat 1 ∧ sTp S a.toNat 2 = sTp S b.toNat 2 ∧ sTp S a.toNat 3 = sTp S b.toNat 3) ∧ ¬ (sTp S a.toNat 0 = sTp S c.toNat 0 ∧ sTp S a.toNat 1 = sTp S c.toNat 1 ∧ sTp S a.toNat 2 = sTp S c.toNat 2 ∧ sTp S a.toNat 3 = sTp S c.toNat 3) ∧ ¬ (sTp S a.toNat 0 = sTp S f.toNat 0 ∧ sTp S a.toNat 1 = sTp S f.toNat 1 ∧ sTp S a.toNat 2 = sTp S f.toNat 2 ∧ sTp S a.toNat 3 = sTp S f.toNat 3) ∧ ¬ (sTp S b.toNat 0 = sTp S c.toNat 0 ∧ sTp S b.toNat 1 = sTp S c.toNat 1 ∧ sTp S b.toNat 2 = sTp S c.toNat 2 ∧ sTp S b.toNat 3 = sTp S c.toNat 3) ∧ ¬ (sTp S b.toNat 0 = sTp S f.toNat 0 ∧ sTp S b.toNat 1 = sTp S f.toNat 1 ∧ sTp S b.toNat 2 = sTp S f.toNat 2 ∧ sTp S b.toNat 3 = sTp S f.toNat 3) ∧ ¬ (sTp S c.toNat 0 = sTp S f.toNat 0 ∧ sTp S c.toNat 1 = sTp S f.toNat 1 ∧ sTp S c.toNat 2 = sTp S f.toNat 2 ∧ sTp S c.toNat 3 = sTp S f.toNat 3)) ∧ m_det_S (tpR S a) (tpR S b) (tpR S c) = 0 ∧ m_det_S (tpR S a) (tpR S b) (tpR S f) = 0 ∧ m_crB (m_t3 (tpR S f)) (m_harm_O (tpR S a) (tpR S b) (m_t3 (tpR S c))) = true then 1 else 0) else -1)) := by
  obtain ⟨d, rfl⟩ : ∃ d1, d = d1 + 1 := ⟨d - 1, by omega⟩
  refine WP.enter (cd := cd_X12_holds) rfl ?_
  have hn := ok.1
  have hls : largs 0 [aO (some o), aI 14, aI a, aI b, aI c, aI f] = [(0, aO (some o)), (1, aI 14), (2, aI a), (3, aI b), (4, aI c), (5, aI f)] := rfl
  rw [hls]
  clear hls
  refine g_aload_n rfl rfl ?_
  refine g_iconst rfl ?_
  refine g_putI rfl ms.1 ?_
  refine g_hp (h2 := hw h (vset V o 31 0)) rfl ?_
  refine g_aload_n rfl rfl ?_
  refine g_iconst rfl ?_
  refine g_putI rfl ms.1 ?_
  obtain ⟨V0, eV0⟩ : ∃ W, W = vset (vset V o 31 0) o 1 0 := ⟨_, rfl⟩
  refine g_hp (h2 := hw h V0) (by rw [eV0]; rfl) ?_
  have mt : MT V0 o S := by rw [eV0]; exact mt.rs
  have f0 : V0 o 1 = 0 := by rw [eV0]; exact vset_eq _ _ _ _
  have G0 := Gs.refl V0 o (fun q => q = o + 24 ∨ q = o + 25 ∨ q = o + 26 ∨ q = o + 27 ∨ q = o + 30 ∨ q = o + 31 ∨ q = o + 28 ∨ q = o + 29)
  refine g_iload_n rfl rfl ?_
  refine g_i2l rfl ?_
  refine g_lconst0 rfl ?_
  refine g_ldc2 rfl ?_
  refine g_callSI [aJ 14, aJ 0, aJ 14] [] rfl rfl rfl rfl (Nat.le_of_ble_eq_true rfl) (c_in (by omega) _ _ _ _) ?_
  rintro r1 _ ⟨rfl, rfl⟩
  refine g_b_ne rfl (fun cq19 => ?_) (fun cq19 => ?_)
  · skip
    refine g_iload_n rfl rfl ?_
    refine g_callSI [aI 14] [] rfl rfl rfl rfl (Nat.le_of_ble_eq_true rfl) (m_names14 (by omega) _) ?_
    rintro _ _ ⟨rfl, rfl⟩
    refine g_istore (l1 := [(6, aI 0), (0, aO (some o)), (1, aI 14), (2, aI a), (3, aI b), (4, aI c), (5, aI f)]) rfl rfl ?_
    refine g_aload_n rfl rfl ?_
    refine g_iload_n rfl rfl ?_
    refine g_iload rfl rfl ?_
    refine g_sipush rfl ?_
    refine g_idivN (m := 1000) (n := 0) rfl (by omega) (by omega) ?_
    refine g_top (v2 := aI 0) (congrArg aI (by rfl)) ?_
    refine g_callVI [aI a, aI 0] [] rfl rfl rfl rfl (Nat.le_of_ble_eq_true rfl) ms.1 (m_isNamed (by omega) ms V0 ok mt a 0 (by omega)) ?_
    rintro r2 _ ⟨rfl, e3⟩
    rw [e3]
    clear e3 r2
    refine g_b_eq rfl (fun cq41 => ?_) (fun cq41 => ?_)
    · skip
      refine g_iconst rfl ?_
      refine g_istore (l1 := [(7, aI 0), (6, aI 0), (0, aO (some o)), (1, aI 14), (2, aI a), (3, aI b), (4, aI c), (5, aI f)]) rfl rfl ?_
      refine g_iload rfl rfl ?_
      refine g_if_ne_f rfl (by omega) ?_
      refine g_iconst rfl ?_
      refine g_iret rfl ?_
      refine ⟨V0, rfl, (G0.wide (T2 := fun q => o + 24 ≤ q ∧ q ≤ o + 31) (fun q hq => by have hq : q = o + 24 ∨ q = o + 25 ∨ q = o + 26 ∨ q = o + 27 ∨ q = o + 30 ∨ q = o + 31 ∨ q = o + 28 ∨ q = o + 29 := hq; show o + 24 ≤ q ∧ q ≤ o + 31; omega)).fs (fun q hq => hq) eV0, ?_⟩
      exact (if_neg (by unfold isS; omega)).symm
    · skip
      refine g_aload_n rfl rfl ?_
      refine g_iload_n rfl rfl ?_
      refine g_iload rfl rfl ?_
      refine g_bipush rfl ?_
      refine g_idivN (m := 100) (n := 0) rfl (by omega) (by omega) ?_
      refine g_bipush rfl ?_
      refine g_iremN (m := 10) (n := (0 / 100)) rfl (by omega) ?_
      refine g_top (v2 := aI 0) (congrArg aI (by rfl)) ?_
      refine g_callVI [aI b, aI 0] [] rfl rfl rfl rfl (Nat.le_of_ble_eq_true rfl) ms.1 (m_isNamed (by omega) ms V0 ok mt b 0 (by omega)) ?_
      rintro r4 _ ⟨rfl, e5⟩
      rw [e5]
      clear e5 r4
      refine g_b_eq rfl (fun cq57 => ?_) (fun cq57 => ?_)
      · skip
        refine g_iconst rfl ?_
        refine g_istore (l1 := [(7, aI 0), (6, aI 0), (0, aO (some o)), (1, aI 14), (2, aI a), (3, aI b), (4, aI c), (5, aI f)]) rfl rfl ?_
        refine g_iload rfl rfl ?_
        refine g_if_ne_f rfl (by omega) ?_
        refine g_iconst rfl ?_
        refine g_iret rfl ?_
        refine ⟨V0, rfl, (G0.wide (T2 := fun q => o + 24 ≤ q ∧ q ≤ o + 31) (fun q hq => by have hq : q = o + 24 ∨ q = o + 25 ∨ q = o + 26 ∨ q = o + 27 ∨ q = o + 30 ∨ q = o + 31 ∨ q = o + 28 ∨ q = o + 29 := hq; show o + 24 ≤ q ∧ q ≤ o + 31; omega)).fs (fun q hq => hq) eV0, ?_⟩
        exact (if_neg (by unfold isS; omega)).symm
      · skip
        refine g_aload_n rfl rfl ?_
        refine g_iload rfl rfl ?_
        refine g_iload rfl rfl ?_
        refine g_bipush rfl ?_
        refine g_idivN (m := 10) (n := 0) rfl (by omega) (by omega) ?_
        refine g_bipush rfl ?_
        refine g_iremN (m := 10) (n := (0 / 10)) rfl (by omega) ?_
        refine g_top (v2 := aI 0) (congrArg aI (by rfl)) ?_
        refine g_callVI [aI c, aI 0] [] rfl rfl rfl rfl (Nat.le_of_ble_eq_true rfl) ms.1 (m_isNamed (by omega) ms V0 ok mt c 0 (by omega)) ?_
        rintro r6 _ ⟨rfl, e7⟩
        rw [e7]
        clear e7 r6
        refine g_b_eq rfl (fun cq74 => ?_) (fun cq74 => ?_)
        · skip
          refine g_iconst rfl ?_
          refine g_istore (l1 := [(7, aI 0), (6, aI 0), (0, aO (some o)), (1, aI 14), (2, aI a), (3, aI b), (4, aI c), (5, aI f)]) rfl rfl ?_
          refine g_iload rfl rfl ?_
          refine g_if_ne_f rfl (by omega) ?_
          refine g_iconst rfl ?_
          refine g_iret rfl ?_
          refine ⟨V0, rfl, (G0.wide (T2 := fun q => o + 24 ≤ q ∧ q ≤ o + 31) (fun q hq => by have hq : q = o + 24 ∨ q = o + 25 ∨ q = o + 26 ∨ q = o + 27 ∨ q = o + 30 ∨ q = o + 31 ∨ q = o + 28 ∨ q = o + 29 := hq; show o + 24 ≤ q ∧ q ≤ o + 31; omega)).fs (fun q hq => hq) eV0, ?_⟩
          exact (if_neg (by unfold isS; omega)).symm
        · skip
          refine g_aload_n rfl rfl ?_
          refine g_iload rfl rfl ?_
          refine g_iload rfl rfl ?_
          refine g_bipush rfl ?_
          refine g_iremN (m := 10) (n := 0) rfl (by omega) ?_
          refine g_top (v2 := aI 0) (congrArg aI (by rfl)) ?_
          refine g_callVI [aI f, aI 0] [] rfl rfl rfl rfl (Nat.le_of_ble_eq_true rfl) ms.1 (m_isNamed (by omega) ms V0 ok mt f 0 (by omega)) ?_
          rintro r8 _ ⟨rfl, e9⟩
          rw [e9]
          clear e9 r8
          refine g_b_eq rfl (fun cq88 => ?_) (fun cq88 => ?_)
          · skip
            refine g_iconst rfl ?_
            refine g_istore (l1 := [(7, aI 0), (6, aI 0), (0, aO (some o)), (1, aI 14), (2, aI a), (3, aI b), (4, aI c), (5, aI f)]) rfl rfl ?_
            refine g_iload rfl rfl ?_
            refine g_if_ne_f rfl (by omega) ?_
            refine g_iconst rfl ?_
            refine g_iret rfl ?_
            refine ⟨V0, rfl, (G0.wide (T2 := fun q => o + 24 ≤ q ∧ q ≤ o + 31) (fun q hq => by have hq : q = o + 24 ∨ q = o + 25 ∨ q = o + 26 ∨ q = o + 27 ∨ q = o + 30 ∨ q = o + 31 ∨ q = o + 28 ∨ q = o + 29 := hq; show o + 24 ≤ q ∧ q ≤ o + 31; omega)).fs (fun q hq => hq) eV0, ?_⟩
            exact (if_neg (by unfold isS; omega)).symm
          · skip
            refine g_iconst rfl ?_
            refine g_goto rfl ?_
            refine g_istore (l1 := [(7, aI 1), (6, aI 0), (0, aO (some o)), (1, aI 14), (2, aI a), (3, aI b), (4, aI c), (5, aI f)]) rfl rfl ?_
            refine g_iload rfl rfl ?_
            refine g_if_ne_t rfl (by omega) ?_
            refine g_aload_n rfl rfl ?_
            have ha : 0 ≤ a ∧ a < sT S := by omega
            have hb : 0 ≤ b ∧ b < sT S := by omega
            have hc : 0 ≤ c ∧ c < sT S := by omega
            have hf : 0 ≤ f ∧ f < sT S := by omega
            refine g_aload_n rfl rfl ?_
            refine g_getR rfl ms.1 (mr_one ms) ?_
            refine g_iload_n rfl rfl ?_
            refine g_callVN [aO (some (o + 24)), aI a] [] rfl rfl rfl rfl (Nat.le_of_ble_eq_true rfl) ms.1 (m_load (by omega) ms V0 ok mt (by have := G0.2.2.1; omega) ((o + 24)) (show SLa o ((o + 24)) by unfold SLa; omega) a ha) ?_
            rintro _ ⟨V10, rfl, g10, t10, u10, v10, y10, s10, xt10, xu10, xv10, xy10⟩
            have G_11 := G0.trans (g10.wide (fun q hq => by have hq : q = o + 24 := hq; show q = o + 24 ∨ q = o + 25 ∨ q = o + 26 ∨ q = o + 27 ∨ q = o + 30 ∨ q = o + 31 ∨ q = o + 28 ∨ q = o + 29; omega))
            refine g_aload_n rfl rfl ?_
            refine g_aload_n rfl rfl ?_
            refine g_getR rfl ms.1 (mr_two ms) ?_
            refine g_iload_n rfl rfl ?_
            refine g_callVN [aO (some (o + 25)), aI b] [] rfl rfl rfl rfl (Nat.le_of_ble_eq_true rfl) ms.1 (m_load (by omega) ms V10 ok (g10.mt (show ¬((o + 4) = o + 24) by omega) (show ¬((o + 5) = o + 24) by omega) mt) (by have := G_11.2.2.1; omega) ((o + 25)) (show SLa o ((o + 25)) by unfold SLa; omega) b hb) ?_
            rintro _ ⟨V12, rfl, g12, t12, u12, v12, y12, s12, xt12, xu12, xv12, xy12⟩
            have G_13 := G_11.trans (g12.wide (fun q hq => by have hq : q = o + 25 := hq; show q = o + 24 ∨ q = o + 25 ∨ q = o + 26 ∨ q = o + 27 ∨ q = o + 30 ∨ q = o + 31 ∨ q = o + 28 ∨ q = o + 29; omega))
            refine g_iload rfl rfl ?_
            refine g_bipush rfl ?_
            refine g_idivN (m := 10) (n := 0) rfl (by omega) (by omega) ?_
            refine g_bipush rfl ?_
            refine g_iremN (m := 10) (n := (0 / 10)) rfl (by omega) ?_
            refine g_top (v2 := aI 0) (congrArg aI (by rfl)) ?_
            refine g_bipush rfl ?_
            refine g_icmp_eq_f rfl (by omega) ?_
            refine g_iconst rfl ?_
            refine g_goto rfl ?_
            refine g_istore (l1 := [(8, aI 1), (7, aI 1), (6, aI 0), (0, aO (some o)), (1, aI 14), (2, aI a), (3, aI b), (4, aI c), (5, aI f)]) rfl rfl ?_
            refine g_aload_n rfl rfl ?_
            refine g_aload_n rfl rfl ?_
            refine g_getR rfl ms.1 (mr_three ms) ?_
            refine g_iload rfl rfl ?_
            refine g_if_eq_f rfl (by omega) ?_
            refine g_iload rfl rfl ?_
            refine g_goto rfl ?_
            refine g_callVN [aO (some (o + 26)), aI c] [] rfl rfl rfl rfl (Nat.le_of_ble_eq_true rfl) ms.1 (m_load (by omega) ms V12 ok (g12.mt (show ¬((o + 4) = o + 25) by omega) (show ¬((o + 5) = o + 25) by omega) (g10.mt (show ¬((o + 4) = o + 24) by omega) (show ¬((o + 5) = o + 24) by omega) mt)) (by have := G_13.2.2.1; omega) ((o + 26)) (show SLa o ((o + 26)) by unfold SLa; omega) c hc) ?_
            rintro _ ⟨V14, rfl, g14, t14, u14, v14, y14, s14, xt14, xu14, xv14, xy14⟩
            have G_15 := G_13.trans (g14.wide (fun q hq => by have hq : q = o + 26 := hq; show q = o + 24 ∨ q = o + 25 ∨ q = o + 26 ∨ q = o + 27 ∨ q = o + 30 ∨ q = o + 31 ∨ q = o + 28 ∨ q = o + 29; omega))
            refine g_aload_n rfl rfl ?_
            refine g_aload_n rfl rfl ?_
            refine g_getR rfl ms.1 (mr_four ms) ?_
            refine g_iload rfl rfl ?_
            refine g_bipush rfl ?_
            refine g_iremN (m := 10) (n := 0) rfl (by omega) ?_
            refine g_top (v2 := aI 0) (congrArg aI (by rfl)) ?_
            refine g_bipush rfl ?_
            refine g_icmp_eq_f rfl (by omega) ?_
            refine g_iload rfl rfl ?_
            refine g_goto rfl ?_
            refine g_callVN [aO (some (o + 27)), aI f] [] rfl rfl rfl rfl (Nat.le_of_ble_eq_true rfl) ms.1 (m_load (by omega) ms V14 ok (g14.mt (show ¬((o + 4) = o + 26) by omega) (show ¬((o + 5) = o + 26) by omega) (g12.mt (show ¬((o + 4) = o + 25) by omega) (show ¬((o + 5) = o + 25) by omega) (g10.mt (show ¬((o + 4) = o + 24) by omega) (show ¬((o + 5) = o + 24) by omega) mt))) (by have := G_15.2.2.1; omega) ((o + 27)) (show SLa o ((o + 27)) by unfold SLa; omega) f hf) ?_
            rintro _ ⟨V16, rfl, g16, t16, u16, v16, y16, s16, xt16, xu16, xv16, xy16⟩
            have G_17 := G_15.trans (g16.wide (fun q hq => by have hq : q = o + 27 := hq; show q = o + 24 ∨ q = o + 25 ∨ q = o + 26 ∨ q = o + 27 ∨ q = o + 30 ∨ q = o + 31 ∨ q = o + 28 ∨ q = o + 29; omega))
            refine g_aload_n rfl rfl ?_
            refine g_iload_n rfl rfl ?_
            refine g_iload_n rfl rfl ?_
            refine g_iload_n rfl rfl ?_
            refine g_iload rfl rfl ?_
            refine g_if_eq_f rfl (by omega) ?_
            refine g_iload rfl rfl ?_
            refine g_goto rfl ?_
            refine g_iload rfl rfl ?_
            refine g_bipush rfl ?_
            refine g_iremN (m := 10) (n := 0) rfl (by omega) ?_
            refine g_top (v2 := aI 0) (congrArg aI (by rfl)) ?_
            refine g_bipush rfl ?_
            refine g_icmp_eq_f rfl (by omega) ?_
            refine g_iload rfl rfl ?_
            refine g_goto rfl ?_
            refine g_callVI [aI 14, aI a, aI b, aI c, aI f] [] rfl rfl rfl rfl (Nat.le_of_ble_eq_true rfl) ms.1 (m_so14 (by omega) ms V16 ok (g16.mt (show ¬((o + 4) = o + 27) by omega) (show ¬((o + 5) = o + 27) by omega) (g14.mt (show ¬((o + 4) = o + 26) by omega) (show ¬((o + 5) = o + 26) by omega) (g12.mt (show ¬((o + 4) = o + 25) by omega) (show ¬((o + 5) = o + 25) by omega) (g10.mt (show ¬((o + 4) = o + 24) by omega) (show ¬((o + 5) = o + 24) by omega) mt)))) (by have := G_17.2.2.1; omega) (show SB V16 o (o + 24) (tpR S a) (20) from ⟨_, _, _, _, (g16.sa (show SLa o ((o + 24)) by unfold SLa; omega) (show ¬(o + 24 = o + 27) by omega) (g14.sa (show SLa o ((o + 24)) by unfold SLa; omega) (show ¬(o + 24 = o + 26) by omega) (g12.sa (show SLa o ((o + 24)) by unfold SLa; omega) (show ¬(o + 24 = o + 25) by omega) s10))), ((g16.rb (g14.rb (g12.rb xt10))).up (by omega)), ((g16.rb (g14.rb (g12.rb xu10))).up (by omega)), ((g16.rb (g14.rb (g12.rb xv10))).up (by omega)), ((g16.rb (g14.rb (g12.rb xy10))).up (by omega))⟩) (show SB V16 o (o + 25) (tpR S b) (20) from ⟨_, _, _, _, (g16.sa (show SLa o ((o + 25)) by unfold SLa; omega) (show ¬(o + 25 = o + 27) by omega) (g14.sa (show SLa o ((o + 25)) by unfold SLa; omega) (show ¬(o + 25 = o + 26) by omega) s12)), ((g16.rb (g14.rb xt12)).up (by omega)), ((g16.rb (g14.rb xu12)).up (by omega)), ((g16.rb (g14.rb xv12)).up (by omega)), ((g16.rb (g14.rb xy12)).up (by omega))⟩) (show SB V16 o (o + 26) (tpR S c) (20) from ⟨_, _, _, _, (g16.sa (show SLa o ((o + 26)) by unfold SLa; omega) (show ¬(o + 26 = o + 27) by omega) s14), ((g16.rb xt14).up (by omega)), ((g16.rb xu14).up (by omega)), ((g16.rb xv14).up (by omega)), ((g16.rb xy14).up (by omega))⟩) (show SB V16 o (o + 27) (tpR S f) (20) from ⟨_, _, _, _, s16, (xt16.up (by omega)), (xu16.up (by omega)), (xv16.up (by omega)), (xy16.up (by omega))⟩) a ha b hb c hc f hf) ?_
            rintro _ _ ⟨rfl, V18, rfl, g18⟩
            have G_19 := G_17.trans (g18.wide (fun q hq => by have hq : q = o + 30 ∨ q = o + 31 ∨ q = o + 26 ∨ q = o + 27 ∨ q = o + 28 ∨ q = o + 29 := hq; show q = o + 24 ∨ q = o + 25 ∨ q = o + 26 ∨ q = o + 27 ∨ q = o + 30 ∨ q = o + 31 ∨ q = o + 28 ∨ q = o + 29; omega))
            refine g_b_eq rfl (fun cq220 => ?_) (fun cq220 => ?_)
            · skip
              refine g_iconst rfl ?_
              refine g_iret rfl ?_
              refine ⟨_, rfl, (G_19.wide (T2 := fun q => o + 24 ≤ q ∧ q ≤ o + 31) (fun q hq => by have hq : q = o + 24 ∨ q = o + 25 ∨ q = o + 26 ∨ q = o + 27 ∨ q = o + 30 ∨ q = o + 31 ∨ q = o + 28 ∨ q = o + 29 := hq; show o + 24 ≤ q ∧ q ≤ o + 31; omega)).fs (fun q hq => hq) eV0, ?_⟩
              rw [if_pos (by unfold isS; omega)]
              first
                | exact (if_pos cq220).symm
                | exact (if_neg cq220).symm
            · skip
              refine g_iconst rfl ?_
              refine g_goto rfl ?_
              refine g_iret rfl ?_
              refine ⟨_, rfl, (G_19.wide (T2 := fun q => o + 24 ≤ q ∧ q ≤ o + 31) (fun q hq => by have hq : q = o + 24 ∨ q = o + 25 ∨ q = o + 26 ∨ q = o + 27 ∨ q = o + 30 ∨ q = o + 31 ∨ q = o + 28 ∨ q = o + 29 := hq; show o + 24 ≤ q ∧ q ≤ o + 31; omega)).fs (fun q hq => hq) eV0, ?_⟩
              rw [if_pos (by unfold isS; omega)]
              first
                | exact (if_pos cq220).symm
                | exact (if_neg cq220).symm
  · skip
    refine g_iconst rfl ?_
    refine g_iret rfl ?_
    refine ⟨V0, rfl, (G0.wide (T2 := fun q => o + 24 ≤ q ∧ q ≤ o + 31) (fun q hq => by have hq : q = o + 24 ∨ q = o + 25 ∨ q = o + 26 ∨ q = o + 27 ∨ q = o + 30 ∨ q = o + 31 ∨ q = o + 28 ∨ q = o + 29 := hq; show o + 24 ≤ q ∧ q ≤ o + 31; omega)).fs (fun q hq => hq) eV0, ?_⟩
    exact (if_neg (by unfold isS; omega)).symm
