/-! the reference's polynomials: printed by wip/whole/he.py -/
def MP (V : Nat → Nat → Int) (o : Nat) (S : aS) : Prop := V o 17 = sPn S ∧ ∀ a < sPn S, ∀ x < 1331, V (o + 12) (1331 * a + x) = big (sPc S a) x
theorem MP.fr {V V1 : Nat → Nat → Int} {o : Nat} {S : aS} (x : MP V o S) (h0 : V1 o 17 = V o 17) (h : V1 (o + 12) = V (o + 12)) : MP V1 o S := by
  unfold MP
  rw [h0, h]
  exact x
theorem MP.own {V : Nat → Nat → Int} {o : Nat} {S : aS} (x : MP V o S) (v : Int) : MP (vset V o 31 v) o S := x.fr (vset_ne _ _ _ _ (by omega)) (by funext z; exact vset_ne _ _ _ _ (by omega))
theorem smM_co {F G : Nat → Int} (h : ∀ x < 1331, F x = G x) : smM F ↔ smM G := ⟨fun q x hx => by rw [← h x hx]; exact q x hx, fun q x hx => by rw [h x hx]; exact q x hx⟩
theorem mulM_sm {F F2 G G2 : Nat → Int} (h : ∀ x < 1331, F x = F2 x) (hg : ∀ x < 1331, G x = G2 x) : mulM F G = mulM F2 G2 := by
  unfold mulM mulT
  refine itN_co 1331 (fun p hp u => ?_)
  try dsimp only
  rw [h p hp]
  by_cases z : F2 p = 0
  · rw [if_pos z, if_pos z]
  · rw [if_neg z, if_neg z]
    refine itN_co 1331 (fun q hq v => ?_)
    try dsimp only
    rw [hg q hq, h p hp]
theorem okM_co {F F2 G G2 : Nat → Int} (h : ∀ x < 1331, F x = F2 x) (hg : ∀ x < 1331, G x = G2 x) : okM F G ↔ okM F2 G2 :=
  ⟨fun k p hp q hq a b => k p hp q hq (by rw [h p hp]; exact a) (by rw [hg q hq]; exact b), fun k p hp q hq a b => k p hp q hq (by rw [← h p hp]; exact a) (by rw [← hg q hq]; exact b)⟩
set_option maxRecDepth 100000 in
theorem m_pgood {w : aW} {d : Nat} (hd : 3 ≤ d) {h : aH} (V : Nat → Nat → Int) (row : Nat) (tr : hT h row = (2, 1331)) : WP w d 357 [aO (some row)] (hw h V) (RI (fun r h1 => h1 = hw h V ∧ r = if bt (smM (V row)) = true then 1 else 0)) := by
  obtain ⟨d, rfl⟩ : ∃ d1, d = d1 + 1 := ⟨d - 1, by omega⟩
  refine WP.enter (cd := cd_X12_isGood) rfl ?_
  have hls : largs 0 [aO (some row)] = [(0, aO (some row))] := rfl
  rw [hls]
  clear hls
  have l4 : ∀ (fuel : Nat) (i : Nat) (g : Int), (i ≤ 1331) → ((g = 1 ∧ ∀ x < i, -67108864 ≤ V row x ∧ V row x ≤ 67108864) ∨ (g = 0 ∧ ∃ x < i, ¬(-67108864 ≤ V row x ∧ V row x ≤ 67108864))) → 1331 - i < fuel → Wk w d cd_X12_isGood 4 [(2, aI ((i : Int))), (1, aI g), (0, aO (some row))] [] (hw h V) (RI (fun r h1 => h1 = hw h V ∧ r = if bt (smM (V row)) = true then 1 else 0)) := by
    intro fuel
    induction fuel with
    | zero => intros; omega
    | succ fuel ih4 =>
      intro i g hi hg hfuel
      refine g_iload_n rfl rfl ?_
      refine g_sipush rfl ?_
      refine g_icmp_ge rfl (fun cq8 => ?_) (fun cq8 => ?_)
      · skip
        refine g_iload_n rfl rfl ?_
        refine g_zret rfl (by omega) ?_
        refine ⟨rfl, ?_⟩
        rcases hg with ⟨g1, g2⟩ | ⟨g1, x, hx, g2⟩
        · rw [g1]
          refine (if_pos ?_).symm
          exact bt_iff.mpr fun x hx => g2 x (by omega)
        · rw [g1]
          refine (if_neg ?_).symm
          intro z
          exact g2 (bt_iff.mp z x (by omega))
      · skip
        refine g_iload_n rfl rfl ?_
        refine g_if_eq rfl (fun cq12 => ?_) (fun cq12 => ?_)
        · skip
          refine g_iconst rfl ?_
          refine g_istore_n (l1 := [(1, aI 0), (2, aI ((i : Int))), (0, aO (some row))]) rfl rfl ?_
          refine g_iinc (l1 := [(2, aI ((i : Int) + 1)), (1, aI 0), (0, aO (some row))]) rfl rfl (by omega) (by omega) rfl ?_
          refine g_goto rfl ?_
          exact ih4 (i + 1) _ (by omega) (by 
                                                                                                                                                                                                                                                                                                                                                                                                                rcases hg with ⟨g1, g2⟩ | ⟨g1, x, hx, g2⟩
                                                                                                                                                                                                                                                                                                                                                                                                                · by_cases z : -67108864 ≤ V row i ∧ V row i ≤ 67108864
                                                                                                                                                                                                                                                                                                                                                                                                                  · exact Or.inl ⟨by omega, fun x hx => if e : x = i then by (subst e; exact z) else g2 x (by omega)⟩
                                                                                                                                                                                                                                                                                                                                                                                                                  · exact Or.inr ⟨by omega, i, by omega, z⟩
                                                                                                                                                                                                                                                                                                                                                                                                                · exact Or.inr ⟨by omega, x, by omega, g2⟩) (by omega)
        · skip
          refine g_aload_n rfl rfl ?_
          refine g_iload_n rfl rfl ?_
          refine g_lald (i := i) rfl tr (by omega) (by omega) ?_
          refine g_top (v2 := aJ (V row i)) (congrArg aJ (by rfl)) ?_
          refine g_ldc2 rfl ?_
          refine g_ldc2 rfl ?_
          refine g_callSI [aJ (V row i), aJ ((-67108864)), aJ 67108864] [] rfl rfl rfl rfl (Nat.le_of_ble_eq_true rfl) (c_in (by omega) _ _ _ _) ?_
          rintro r1 _ ⟨rfl, rfl⟩
          refine g_b_eq rfl (fun cq27 => ?_) (fun cq27 => ?_)
          · skip
            refine g_iconst rfl ?_
            refine g_istore_n (l1 := [(1, aI 0), (2, aI ((i : Int))), (0, aO (some row))]) rfl rfl ?_
            refine g_iinc (l1 := [(2, aI ((i : Int) + 1)), (1, aI 0), (0, aO (some row))]) rfl rfl (by omega) (by omega) rfl ?_
            refine g_goto rfl ?_
            exact ih4 (i + 1) _ (by omega) (by 
                                                                                                                                                                                                                                                                                                                                                                                                                rcases hg with ⟨g1, g2⟩ | ⟨g1, x, hx, g2⟩
                                                                                                                                                                                                                                                                                                                                                                                                                · by_cases z : -67108864 ≤ V row i ∧ V row i ≤ 67108864
                                                                                                                                                                                                                                                                                                                                                                                                                  · exact Or.inl ⟨by omega, fun x hx => if e : x = i then by (subst e; exact z) else g2 x (by omega)⟩
                                                                                                                                                                                                                                                                                                                                                                                                                  · exact Or.inr ⟨by omega, i, by omega, z⟩
                                                                                                                                                                                                                                                                                                                                                                                                                · exact Or.inr ⟨by omega, x, by omega, g2⟩) (by omega)
          · skip
            refine g_iconst rfl ?_
            refine g_goto rfl ?_
            refine g_istore_n (l1 := [(1, aI 1), (2, aI ((i : Int))), (0, aO (some row))]) rfl rfl ?_
            refine g_iinc (l1 := [(2, aI ((i : Int) + 1)), (1, aI 1), (0, aO (some row))]) rfl rfl (by omega) (by omega) rfl ?_
            refine g_goto rfl ?_
            exact ih4 (i + 1) _ (by omega) (by 
                                                                                                                                                                                                                                                                                                                                                                                                                rcases hg with ⟨g1, g2⟩ | ⟨g1, x, hx, g2⟩
                                                                                                                                                                                                                                                                                                                                                                                                                · by_cases z : -67108864 ≤ V row i ∧ V row i ≤ 67108864
                                                                                                                                                                                                                                                                                                                                                                                                                  · exact Or.inl ⟨by omega, fun x hx => if e : x = i then by (subst e; exact z) else g2 x (by omega)⟩
                                                                                                                                                                                                                                                                                                                                                                                                                  · exact Or.inr ⟨by omega, i, by omega, z⟩
                                                                                                                                                                                                                                                                                                                                                                                                                · exact Or.inr ⟨by omega, x, by omega, g2⟩) (by omega)
  refine g_iconst rfl ?_
  refine g_istore_n (l1 := [(1, aI 1), (0, aO (some row))]) rfl rfl ?_
  refine g_iconst rfl ?_
  refine g_istore_n (l1 := [(2, aI 0), (1, aI 1), (0, aO (some row))]) rfl rfl ?_
  exact l4 _ 0 _ (by omega) (by exact Or.inl ⟨rfl, fun x hx => by omega⟩) (Nat.lt_succ_self _)
set_option maxRecDepth 100000 in
theorem m_pfetch {w : aW} {d : Nat} (hd : 2 ≤ d) {h : aH} {o : Nat} (ms : MS h o) (V : Nat → Nat → Int) (a : Nat) (ha : a < 60) (to_ : Nat) (tt : hT h to_ = (2, 1331)) (hto : o + 12 ≠ to_) : WP w d 354 [aO (some o), aI ((a : Int)), aO (some to_)] (hw h V) (RN (fun h1 => ∃ V1, h1 = hw h V1 ∧ (∀ q, q ≠ to_ → V1 q = V q) ∧ ∀ x < 1331, V1 to_ x = V (o + 12) (1331 * a + x))) := by
  obtain ⟨d, rfl⟩ : ∃ d1, d = d1 + 1 := ⟨d - 1, by omega⟩
  refine WP.enter (cd := cd_X12_fetch) rfl ?_
  have hls : largs 0 [aO (some o), aI ((a : Int)), aO (some to_)] = [(0, aO (some o)), (1, aI ((a : Int))), (2, aO (some to_))] := rfl
  rw [hls]
  clear hls
  have l2 : ∀ (fuel : Nat) (i : Nat) (V1 : Nat → Nat → Int), (i ≤ 1331) → (∀ q, q ≠ to_ → V1 q = V q) → (∀ x < i, V1 to_ x = V (o + 12) (1331 * a + x)) → 1331 - i < fuel → Wk w d cd_X12_fetch 2 [(3, aI ((i : Int))), (0, aO (some o)), (1, aI ((a : Int))), (2, aO (some to_))] [] (hw h V1) (RN (fun h1 => ∃ V1, h1 = hw h V1 ∧ (∀ q, q ≠ to_ → V1 q = V q) ∧ ∀ x < 1331, V1 to_ x = V (o + 12) (1331 * a + x))) := by
    intro fuel
    induction fuel with
    | zero => intros; omega
    | succ fuel ih2 =>
      intro i V1 hi hf hz hfuel
      refine g_iload_n rfl rfl ?_
      refine g_sipush rfl ?_
      refine g_icmp_ge rfl (fun cq6 => ?_) (fun cq6 => ?_)
      · skip
        refine g_vret rfl ?_
        exact ⟨V1, rfl, hf, fun x hx => hz x (by omega)⟩
      · skip
        refine g_aload_n rfl rfl ?_
        refine g_iload_n rfl rfl ?_
        refine g_aload_n rfl rfl ?_
        refine g_getR rfl ms.1 (mr_coefs ms) ?_
        refine g_sipush rfl ?_
        refine g_iload_n rfl rfl ?_
        refine g_imul rfl (by omega) (by omega) ?_
        refine g_iload_n rfl rfl ?_
        refine g_iadd rfl (by omega) (by omega) ?_
        refine g_lald (i := 1331 * a + i) rfl (mt_coefs ms) (by omega) (by omega) ?_
        refine g_top (v2 := aJ (V1 (o + 12) (1331 * a + i))) (congrArg aJ (by rfl)) ?_
        refine g_last (i := i) rfl tt (by omega) (by omega) ?_
        refine g_hp (h2 := hw h (vset V1 to_ i (V1 (o + 12) (1331 * a + i)))) rfl ?_
        refine g_iinc (l1 := [(3, aI ((i : Int) + 1)), (0, aO (some o)), (1, aI ((a : Int))), (2, aO (some to_))]) rfl rfl (by omega) (by omega) rfl ?_
        refine g_goto rfl ?_
        exact ih2 (i + 1) _ (by omega) (by exact fun q hq => by funext j; rw [vset_ne _ _ _ _ (by omega), hf q hq]) (by exact fun x hx => if e : x = i then by (subst e; rw [vset_eq, hf _ hto]) else by (rw [vset_ne _ _ _ _ (by omega)]; exact hz x (by omega))) (by omega)
  refine g_iconst rfl ?_
  refine g_istore_n (l1 := [(3, aI 0), (0, aO (some o)), (1, aI ((a : Int))), (2, aO (some to_))]) rfl rfl ?_
  exact l2 _ 0 V (by omega) (by exact fun q _ => rfl) (by exact fun x hx => by omega) (Nat.lt_succ_self _)
set_option maxRecDepth 100000 in
theorem m_pmul {w : aW} {d : Nat} (hd : 4 ≤ d) {h : aH} {o : Nat} (ms : MS h o) (V : Nat → Nat → Int) (ra rb : Nat) (ta : hT h ra = (2, 1331)) (tb : hT h rb = (2, 1331)) (hra : ra ≠ o + 16) (hrb : rb ≠ o + 16) (ba : smM (V ra)) (bb : smM (V rb)) : WP w d 358 [aO (some o), aO (some ra), aO (some rb)] (hw h V) (RI (fun r h1 => ∃ V1, h1 = hw h V1 ∧ (∀ q, q ≠ o + 16 → V1 q = V q) ∧ ((¬ okM (V ra) (V rb) ∧ r = 0) ∨ (okM (V ra) (V rb) ∧ (∀ t < 1331, V1 (o + 16) t = mulM (V ra) (V rb) t) ∧ r = if bt (smM (mulM (V ra) (V rb))) = true then 1 else 0)))) := by
  obtain ⟨d, rfl⟩ : ∃ d1, d = d1 + 1 := ⟨d - 1, by omega⟩
  refine WP.enter (cd := cd_X12_multiply) rfl ?_
  have hls : largs 0 [aO (some o), aO (some ra), aO (some rb)] = [(0, aO (some o)), (1, aO (some ra)), (2, aO (some rb))] := rfl
  rw [hls]
  clear hls
  have l9 : ∀ (fuel : Nat) (x : Nat) (V2 : Nat → Nat → Int), (x ≤ 1331) → (∀ q, q ≠ o + 16 → V2 q = V q) → (∀ t < 1331, V2 (o + 16) t = mulT (V ra) (V rb) x (fun _ => 0) t) → (∀ x1 < x, ∀ y < 1331, V ra x1 ≠ 0 → V rb y ≠ 0 → dM x1 + dM y ≤ 10) → 1331 - x < fuel → Wk w d cd_X12_multiply 9 [(3, aI ((x : Int))), (0, aO (some o)), (1, aO (some ra)), (2, aO (some rb))] [] (hw h V2) (RI (fun r h1 => ∃ V1, h1 = hw h V1 ∧ (∀ q, q ≠ o + 16 → V1 q = V q) ∧ ((¬ okM (V ra) (V rb) ∧ r = 0) ∨ (okM (V ra) (V rb) ∧ (∀ t < 1331, V1 (o + 16) t = mulM (V ra) (V rb) t) ∧ r = if bt (smM (mulM (V ra) (V rb))) = true then 1 else 0)))) := by
    intro fuel
    induction fuel with
    | zero => intros; omega
    | succ fuel ih9 =>
      intro x V2 hx hf2 hs hok hfuel
      have l19 : (x < 1331) → ∀ (fuel : Nat) (y : Nat) (V3 : Nat → Nat → Int), (y ≤ 1331) → (V ra x = 0 → y = 0) → (∀ q, q ≠ o + 16 → V3 q = V q) → (∀ t < 1331, V3 (o + 16) t = mulJ (V ra) (V rb) x y (mulT (V ra) (V rb) x (fun _ => 0)) t) → (∀ y1 < y, V ra x ≠ 0 → V rb y1 ≠ 0 → dM x + dM y1 ≤ 10) → 1331 - y < fuel → Wk w d cd_X12_multiply 19 [(4, aI ((y : Int))), (3, aI ((x : Int))), (0, aO (some o)), (1, aO (some ra)), (2, aO (some rb))] [] (hw h V3) (RI (fun r h1 => ∃ V1, h1 = hw h V1 ∧ (∀ q, q ≠ o + 16 → V1 q = V q) ∧ ((¬ okM (V ra) (V rb) ∧ r = 0) ∨ (okM (V ra) (V rb) ∧ (∀ t < 1331, V1 (o + 16) t = mulM (V ra) (V rb) t) ∧ r = if bt (smM (mulM (V ra) (V rb))) = true then 1 else 0)))) := by
        intro hx2 fuel
        induction fuel with
        | zero => intros; omega
        | succ fuel ih19 =>
          intro y V3 hy hq0 hf3 hs3 hok3 hfuel
          have e1 : V3 ra = V ra := hf3 ra hra
          have e2 : V3 rb = V rb := hf3 rb hrb
          have e3 : V3 rb y = V rb y := by rw [e2]
          have e4 : V3 ra x = V ra x := by rw [e1]
          refine g_iload rfl rfl ?_
          refine g_sipush rfl ?_
          refine g_icmp_ge rfl (fun cq24 => ?_) (fun cq24 => ?_)
          · skip
            refine g_iinc (l1 := [(3, aI ((x : Int) + 1)), (4, aI ((y : Int))), (0, aO (some o)), (1, aO (some ra)), (2, aO (some rb))]) rfl rfl (by omega) (by omega) rfl ?_
            refine g_goto rfl ?_
            refine g_ls [0, 2, 3, 4] rfl rfl ?_
            exact ih9 (x + 1) V3 (by omega) (by exact hf3) (by 
                                                                                                                                                                                                                                                                                                                                                                                                                exact fun t ht => by
                                                                                                                                                                                                                                                                                                                                                                                                                  show _ = (if V ra x = 0 then mulT (V ra) (V rb) x (fun _ => 0) else mulJ (V ra) (V rb) x 1331 (mulT (V ra) (V rb) x (fun _ => 0))) t
                                                                                                                                                                                                                                                                                                                                                                                                                  rw [hs3 t ht]
                                                                                                                                                                                                                                                                                                                                                                                                                  by_cases z : V ra x = 0
                                                                                                                                                                                                                                                                                                                                                                                                                  · rw [if_pos z, hq0 z]
                                                                                                                                                                                                                                                                                                                                                                                                                    rfl
                                                                                                                                                                                                                                                                                                                                                                                                                  · rw [if_neg z, show y = 1331 by omega]) (by 
                                                                                                                                                                                                                                                                                                                                                                                                                exact fun x1 h1 y1 h2 z1 z2 => by
                                                                                                                                                                                                                                                                                                                                                                                                                  by_cases e : x1 = x
                                                                                                                                                                                                                                                                                                                                                                                                                  · subst e
                                                                                                                                                                                                                                                                                                                                                                                                                    exact hok3 y1 (by omega) z1 z2
                                                                                                                                                                                                                                                                                                                                                                                                                  · exact hok x1 (by omega) y1 h2 z1 z2) (by omega)
          · skip
            refine g_aload_n rfl rfl ?_
            refine g_iload_n rfl rfl ?_
            refine g_lald (i := x) rfl ta (by omega) (by omega) ?_
            refine g_top (v2 := aJ (V3 ra x)) (congrArg aJ (by rfl)) ?_
            refine g_lconst0 rfl ?_
            refine g_lc_eq rfl rfl (fun cq31 => ?_) (fun cq31 => ?_)
            · skip
              refine g_iinc (l1 := [(3, aI ((x : Int) + 1)), (4, aI ((y : Int))), (0, aO (some o)), (1, aO (some ra)), (2, aO (some rb))]) rfl rfl (by omega) (by omega) rfl ?_
              refine g_goto rfl ?_
              refine g_ls [0, 2, 3, 4] rfl rfl ?_
              exact ih9 (x + 1) V3 (by omega) (by exact hf3) (by 
                                                                                                                                                                                                                                                                                                                                                                                                                exact fun t ht => by
                                                                                                                                                                                                                                                                                                                                                                                                                  show _ = (if V ra x = 0 then mulT (V ra) (V rb) x (fun _ => 0) else mulJ (V ra) (V rb) x 1331 (mulT (V ra) (V rb) x (fun _ => 0))) t
                                                                                                                                                                                                                                                                                                                                                                                                                  rw [hs3 t ht]
                                                                                                                                                                                                                                                                                                                                                                                                                  by_cases z : V ra x = 0
                                                                                                                                                                                                                                                                                                                                                                                                                  · rw [if_pos z, hq0 z]
                                                                                                                                                                                                                                                                                                                                                                                                                    rfl
                                                                                                                                                                                                                                                                                                                                                                                                                  · rw [if_neg z, show y = 1331 by omega]) (by 
                                                                                                                                                                                                                                                                                                                                                                                                                exact fun x1 h1 y1 h2 z1 z2 => by
                                                                                                                                                                                                                                                                                                                                                                                                                  by_cases e : x1 = x
                                                                                                                                                                                                                                                                                                                                                                                                                  · subst e
                                                                                                                                                                                                                                                                                                                                                                                                                    exact hok3 y1 (by omega) z1 z2
                                                                                                                                                                                                                                                                                                                                                                                                                  · exact hok x1 (by omega) y1 h2 z1 z2) (by omega)
            · skip
              refine g_aload_n rfl rfl ?_
              refine g_iload rfl rfl ?_
              refine g_lald (i := y) rfl tb (by omega) (by omega) ?_
              refine g_top (v2 := aJ (V3 rb y)) (congrArg aJ (by rfl)) ?_
              refine g_lconst0 rfl ?_
              refine g_lc_eq rfl rfl (fun cq40 => ?_) (fun cq40 => ?_)
              · skip
                refine g_iinc (l1 := [(4, aI ((y : Int) + 1)), (3, aI ((x : Int))), (0, aO (some o)), (1, aO (some ra)), (2, aO (some rb))]) rfl rfl (by omega) (by omega) rfl ?_
                refine g_goto rfl ?_
                exact ih19 (y + 1) _ (by omega) (by exact fun z => by omega) (by first | exact hf3 | exact (fun q hq => by funext j; rw [vset_ne _ _ _ _ (by omega), hf3 q hq])) (by 
                                                                                                                                                                                                                                                                                                                                                                                                                exact fun t ht => by
                                                                                                                                                                                                                                                                                                                                                                                                                  show _ = (if V rb y = 0 then mulJ (V ra) (V rb) x y (mulT (V ra) (V rb) x (fun _ => 0)) else adA (mulJ (V ra) (V rb) x y (mulT (V ra) (V rb) x (fun _ => 0))) (x + y) (V ra x * V rb y)) t
                                                                                                                                                                                                                                                                                                                                                                                                                  by_cases z : V rb y = 0
                                                                                                                                                                                                                                                                                                                                                                                                                  · rw [if_pos z]
                                                                                                                                                                                                                                                                                                                                                                                                                    first
                                                                                                                                                                                                                                                                                                                                                                                                                      | (exact hs3 t ht)
                                                                                                                                                                                                                                                                                                                                                                                                                      | (exfalso; omega)
                                                                                                                                                                                                                                                                                                                                                                                                                  · rw [if_neg z]
                                                                                                                                                                                                                                                                                                                                                                                                                    unfold adA
                                                                                                                                                                                                                                                                                                                                                                                                                    by_cases e : t = x + y
                                                                                                                                                                                                                                                                                                                                                                                                                    · rw [if_pos e, e]
                                                                                                                                                                                                                                                                                                                                                                                                                      first
                                                                                                                                                                                                                                                                                                                                                                                                                        | (rw [vset_eq, hs3 _ (by omega), e1, e2])
                                                                                                                                                                                                                                                                                                                                                                                                                        | (exfalso; omega)
                                                                                                                                                                                                                                                                                                                                                                                                                    · rw [if_neg e]
                                                                                                                                                                                                                                                                                                                                                                                                                      first
                                                                                                                                                                                                                                                                                                                                                                                                                        | (rw [vset_ne _ _ _ _ (by omega)]; exact hs3 t ht)
                                                                                                                                                                                                                                                                                                                                                                                                                        | (exact hs3 t ht)) (by 
                                                                                                                                                                                                                                                                                                                                                                                                                exact fun y1 h1 z1 z2 => by
                                                                                                                                                                                                                                                                                                                                                                                                                  by_cases e : y1 = y
                                                                                                                                                                                                                                                                                                                                                                                                                  · subst e
                                                                                                                                                                                                                                                                                                                                                                                                                    first
                                                                                                                                                                                                                                                                                                                                                                                                                      | (unfold dM; omega)
                                                                                                                                                                                                                                                                                                                                                                                                                      | (exfalso; omega)
                                                                                                                                                                                                                                                                                                                                                                                                                  · exact hok3 y1 (by omega) z1 z2) (by omega)
              · skip
                have hfp : V ra x ≠ 0 := by omega
                have hgq : V rb y ≠ 0 := by omega
                have d1 : x / 121 ≤ 10 ∧ x / 11 % 11 ≤ 10 ∧ x % 11 ≤ 10 := by omega
                have d2 : y / 121 ≤ 10 ∧ y / 11 % 11 ≤ 10 ∧ y % 11 ≤ 10 := by omega
                refine g_iload_n rfl rfl ?_
                refine g_bipush rfl ?_
                refine g_idivN (m := 121) (n := x) rfl (by omega) (by omega) ?_
                refine g_iload rfl rfl ?_
                refine g_bipush rfl ?_
                refine g_idivN (m := 121) (n := y) rfl (by omega) (by omega) ?_
                refine g_iadd rfl (by omega) (by omega) ?_
                refine g_istore (l1 := [(5, aI ((((x / 121 : Nat) : Int)) + (((y / 121 : Nat) : Int)))), (4, aI ((y : Int))), (3, aI ((x : Int))), (0, aO (some o)), (1, aO (some ra)), (2, aO (some rb))]) rfl rfl ?_
                refine g_iload_n rfl rfl ?_
                refine g_bipush rfl ?_
                refine g_idivN (m := 11) (n := x) rfl (by omega) (by omega) ?_
                refine g_bipush rfl ?_
                refine g_iremN (m := 11) (n := (x / 11)) rfl (by omega) ?_
                refine g_iload rfl rfl ?_
                refine g_bipush rfl ?_
                refine g_idivN (m := 11) (n := y) rfl (by omega) (by omega) ?_
                refine g_bipush rfl ?_
                refine g_iremN (m := 11) (n := (y / 11)) rfl (by omega) ?_
                refine g_iadd rfl (by omega) (by omega) ?_
                refine g_istore (l1 := [(6, aI (((((x / 11) % 11 : Nat) : Int)) + ((((y / 11) % 11 : Nat) : Int)))), (5, aI ((((x / 121 : Nat) : Int)) + (((y / 121 : Nat) : Int)))), (4, aI ((y : Int))), (3, aI ((x : Int))), (0, aO (some o)), (1, aO (some ra)), (2, aO (some rb))]) rfl rfl ?_
                refine g_iload_n rfl rfl ?_
                refine g_bipush rfl ?_
                refine g_iremN (m := 11) (n := x) rfl (by omega) ?_
                refine g_iload rfl rfl ?_
                refine g_bipush rfl ?_
                refine g_iremN (m := 11) (n := y) rfl (by omega) ?_
                refine g_iadd rfl (by omega) (by omega) ?_
                refine g_istore (l1 := [(7, aI ((((x % 11 : Nat) : Int)) + (((y % 11 : Nat) : Int)))), (6, aI (((((x / 11) % 11 : Nat) : Int)) + ((((y / 11) % 11 : Nat) : Int)))), (5, aI ((((x / 121 : Nat) : Int)) + (((y / 121 : Nat) : Int)))), (4, aI ((y : Int))), (3, aI ((x : Int))), (0, aO (some o)), (1, aO (some ra)), (2, aO (some rb))]) rfl rfl ?_
                refine g_iload rfl rfl ?_
                refine g_iload rfl rfl ?_
                refine g_iadd rfl (by omega) (by omega) ?_
                refine g_iload rfl rfl ?_
                refine g_iadd rfl (by omega) (by omega) ?_
                refine g_bipush rfl ?_
                refine g_icmp_le rfl (fun cq96 => ?_) (fun cq96 => ?_)
                · skip
                  refine g_aload_n rfl rfl ?_
                  refine g_getR rfl ms.1 (mr_product ms) ?_
                  refine g_bipush rfl ?_
                  refine g_iload rfl rfl ?_
                  refine g_imul rfl (by omega) (by omega) ?_
                  refine g_bipush rfl ?_
                  refine g_iload rfl rfl ?_
                  refine g_imul rfl (by omega) (by omega) ?_
                  refine g_iadd rfl (by omega) (by omega) ?_
                  refine g_iload rfl rfl ?_
                  refine g_iadd rfl (by omega) (by omega) ?_
                  have hxy : x + y < 1331 := by omega
                  refine g_dup2 rfl rfl rfl ?_
                  have hb0 := hs3 (x + y) hxy
                  have hb1 := mulJ_b ba bb (x := x) hx2 (y := y) (by omega) (x + y)
                  have hb2 := prod26 (ba x hx2) (bb y (by omega))
                  rw [← e4, ← e3] at hb2
                  refine g_lald (i := x + y) rfl (mt_product ms) (by omega) (by omega) ?_
                  refine g_top (v2 := aJ (V3 (o + 16) (x + y))) (congrArg aJ (by rfl)) ?_
                  refine g_aload_n rfl rfl ?_
                  refine g_iload_n rfl rfl ?_
                  refine g_lald (i := x) rfl ta (by omega) (by omega) ?_
                  refine g_top (v2 := aJ (V3 ra x)) (congrArg aJ (by rfl)) ?_
                  refine g_aload_n rfl rfl ?_
                  refine g_iload rfl rfl ?_
                  refine g_lald (i := y) rfl tb (by omega) (by omega) ?_
                  refine g_top (v2 := aJ (V3 rb y)) (congrArg aJ (by rfl)) ?_
                  refine g_lmul rfl (by omega) (by omega) ?_
                  refine g_ladd rfl (by omega) (by omega) ?_
                  refine g_last (i := x + y) rfl (mt_product ms) (by omega) (by omega) ?_
                  refine g_hp (h2 := hw h (vset V3 (o + 16) (x + y) ((V3 (o + 16) (x + y)) + ((V3 ra x) * (V3 rb y))))) rfl ?_
                  refine g_iinc (l1 := [(4, aI ((y : Int) + 1)), (7, aI ((((x % 11 : Nat) : Int)) + (((y % 11 : Nat) : Int)))), (6, aI (((((x / 11) % 11 : Nat) : Int)) + ((((y / 11) % 11 : Nat) : Int)))), (5, aI ((((x / 121 : Nat) : Int)) + (((y / 121 : Nat) : Int)))), (3, aI ((x : Int))), (0, aO (some o)), (1, aO (some ra)), (2, aO (some rb))]) rfl rfl (by omega) (by omega) rfl ?_
                  refine g_goto rfl ?_
                  refine g_ls [0, 4, 5, 6, 7] rfl rfl ?_
                  exact ih19 (y + 1) _ (by omega) (by exact fun z => by omega) (by first | exact hf3 | exact (fun q hq => by funext j; rw [vset_ne _ _ _ _ (by omega), hf3 q hq])) (by 
                                                                                                                                                                                                                                                                                                                                                                                                                exact fun t ht => by
                                                                                                                                                                                                                                                                                                                                                                                                                  show _ = (if V rb y = 0 then mulJ (V ra) (V rb) x y (mulT (V ra) (V rb) x (fun _ => 0)) else adA (mulJ (V ra) (V rb) x y (mulT (V ra) (V rb) x (fun _ => 0))) (x + y) (V ra x * V rb y)) t
                                                                                                                                                                                                                                                                                                                                                                                                                  by_cases z : V rb y = 0
                                                                                                                                                                                                                                                                                                                                                                                                                  · rw [if_pos z]
                                                                                                                                                                                                                                                                                                                                                                                                                    first
                                                                                                                                                                                                                                                                                                                                                                                                                      | (exact hs3 t ht)
                                                                                                                                                                                                                                                                                                                                                                                                                      | (exfalso; omega)
                                                                                                                                                                                                                                                                                                                                                                                                                  · rw [if_neg z]
                                                                                                                                                                                                                                                                                                                                                                                                                    unfold adA
                                                                                                                                                                                                                                                                                                                                                                                                                    by_cases e : t = x + y
                                                                                                                                                                                                                                                                                                                                                                                                                    · rw [if_pos e, e]
                                                                                                                                                                                                                                                                                                                                                                                                                      first
                                                                                                                                                                                                                                                                                                                                                                                                                        | (rw [vset_eq, hs3 _ (by omega), e1, e2])
                                                                                                                                                                                                                                                                                                                                                                                                                        | (exfalso; omega)
                                                                                                                                                                                                                                                                                                                                                                                                                    · rw [if_neg e]
                                                                                                                                                                                                                                                                                                                                                                                                                      first
                                                                                                                                                                                                                                                                                                                                                                                                                        | (rw [vset_ne _ _ _ _ (by omega)]; exact hs3 t ht)
                                                                                                                                                                                                                                                                                                                                                                                                                        | (exact hs3 t ht)) (by 
                                                                                                                                                                                                                                                                                                                                                                                                                exact fun y1 h1 z1 z2 => by
                                                                                                                                                                                                                                                                                                                                                                                                                  by_cases e : y1 = y
                                                                                                                                                                                                                                                                                                                                                                                                                  · subst e
                                                                                                                                                                                                                                                                                                                                                                                                                    first
                                                                                                                                                                                                                                                                                                                                                                                                                      | (unfold dM; omega)
                                                                                                                                                                                                                                                                                                                                                                                                                      | (exfalso; omega)
                                                                                                                                                                                                                                                                                                                                                                                                                  · exact hok3 y1 (by omega) z1 z2) (by omega)
                · skip
                  refine g_iconst rfl ?_
                  refine g_zret rfl (by omega) ?_
                  refine ⟨V3, rfl, hf3, Or.inl ⟨fun z => ?_, rfl⟩⟩
                  have := z x hx2 y (by omega) hfp hgq
                  unfold dM at this
                  omega
      refine g_iload_n rfl rfl ?_
      refine g_sipush rfl ?_
      refine g_icmp_ge rfl (fun cq13 => ?_) (fun cq13 => ?_)
      · skip
        refine g_aload_n rfl rfl ?_
        refine g_getR rfl ms.1 (mr_product ms) ?_
        refine g_callSI [aO (some (o + 16))] [] rfl rfl rfl rfl (Nat.le_of_ble_eq_true rfl) (m_pgood (by omega) V2 (o + 16) (mt_product ms)) ?_
        rintro r hx_ ⟨ehx, rfl⟩
        have hokM : okM (V ra) (V rb) := fun x1 h1 => hok x1 (by omega)
        rw [ehx, bt_co (smM_co (F := V2 (o + 16)) (G := mulM (V ra) (V rb)) (fun t ht => by rw [hs t ht, show x = 1331 by omega]; rfl))]
        clear ehx hx_
        refine g_zret rfl (by omega) ?_
        exact ⟨V2, rfl, hf2, Or.inr ⟨hokM, fun t ht => by rw [hs t ht, show x = 1331 by omega]; rfl, rfl⟩⟩
      · skip
        refine g_iconst rfl ?_
        refine g_istore (l1 := [(4, aI 0), (3, aI ((x : Int))), (0, aO (some o)), (1, aO (some ra)), (2, aO (some rb))]) rfl rfl ?_
        exact l19 (by omega) _ 0 V2 (by omega) (by exact fun _ => rfl) (by exact hf2) (by exact hs) (by exact fun y1 h1 => by omega) (Nat.lt_succ_self _)
  refine g_aload_n rfl rfl ?_
  refine g_getR rfl ms.1 (mr_product ms) ?_
  refine g_callSN [aO (some (o + 16))] [] rfl rfl rfl rfl (Nat.le_of_ble_eq_true rfl) (m_empty (by omega) V (o + 16) (mt_product ms)) ?_
  rintro _ ⟨V1, rfl, hf, hz⟩
  refine g_iconst rfl ?_
  refine g_istore_n (l1 := [(3, aI 0), (0, aO (some o)), (1, aO (some ra)), (2, aO (some rb))]) rfl rfl ?_
  exact l9 _ 0 V1 (by omega) (by exact hf) (by exact hz) (by exact fun x1 h1 => by omega) (Nat.lt_succ_self _)
