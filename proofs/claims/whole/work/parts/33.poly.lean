/-! the class's rows of exponents, made by a constructor: printed by wip/whole/s33.py -/
def prow : List (Nat × Nat × Nat) := [(1, 286, 0), (1, 286, 1), (1, 286, 2), (1, 121, 3), (5, 60, 4), (2, 286, 5), (2, 286, 6), (2, 286, 7), (2, 286, 8)]
/-- the exponents in their order -/
def pE (t : Nat) : Nat × Nat × Nat := (((List.range 11).flatMap fun i => (List.range (11 - i)).flatMap fun j => (List.range (11 - i - j)).map fun k => (i, j, k)))[t]?.getD (0, 0, 0)
/-- where those with i, j begin -/
def pB (i j : Nat) : Nat := 286 - (13 - i) * (12 - i) * (11 - i) / 6 + j * (11 - i) - j * (j - 1) / 2
theorem pB_j : ∀ i < 11, ∀ j < 11 - i, pB i (j + 1) = pB i j + (11 - i - j) := by decide +kernel
theorem pB_i : ∀ i < 11, pB (i + 1) 0 = pB i (11 - i) := by decide +kernel
theorem pB_le : ∀ i < 11, ∀ j < 12 - i, pB i j ≤ 286 := by decide +kernel
theorem pE_at : ∀ i < 11, ∀ j < 11 - i, ∀ k < 11 - i - j, pE (pB i j + k) = (i, j, k) := by decide +kernel
/-- of what is made: the first n of all exponents, the beginnings before i, j -/
def PIv (V0 V : Nat → Nat → Int) (a n i j : Nat) : Prop :=
  (∀ t < n, V (a + 1) t = (pE t).1 ∧ V (a + 2) t = (pE t).2.1 ∧ V (a + 3) t = (pE t).2.2) ∧
  (∀ i1 j1 : Nat, i1 + j1 ≤ 10 → (i1 < i ∨ (i1 = i ∧ j1 < j)) → V (a + 4) (11 * i1 + j1) = pB i1 j1) ∧
  (∀ b q, (b < a + 1 ∨ a + 4 < b) → V b q = V0 b q)
theorem PIv.beg {V0 V : Nat → Nat → Int} {a n i j : Nat} (p : PIv V0 V a n i j) (hij : i + j ≤ 10) (hn : n = pB i j) : PIv V0 (vset V (a + 4) (i * 11 + j) n) a n i (j + 1) := by
  obtain ⟨p1, p2, p3⟩ := p
  refine ⟨fun t ht => ?_, fun i1 j1 h1 h2 => ?_, fun b q hb => ?_⟩
  · rw [vset_ne, vset_ne, vset_ne] <;> first | exact p1 t ht | omega
  · by_cases e : i1 = i ∧ j1 = j
    · obtain ⟨rfl, rfl⟩ := e
      rw [show 11 * i1 + j1 = i1 * 11 + j1 by omega, vset_eq, hn]
    · rw [vset_ne _ _ _ _ (by omega)]
      exact p2 i1 j1 h1 (by omega)
  · rw [vset_ne _ _ _ _ (by omega)]
    exact p3 b q hb
theorem PIv.row {V0 V : Nat → Nat → Int} {a n i j i0 j0 k : Nat} (p : PIv V0 V a n i j) (e : pE n = (i0, j0, k)) : PIv V0 (vset (vset (vset V (a + 1) n i0) (a + 2) n j0) (a + 3) n k) a (n + 1) i j := by
  obtain ⟨p1, p2, p3⟩ := p
  refine ⟨fun t ht => ?_, fun i1 j1 h1 h2 => ?_, fun b q hb => ?_⟩
  · by_cases ht2 : t = n
    · subst ht2
      rw [e]
      refine ⟨?_, ?_, ?_⟩
      · rw [vset_ne _ _ _ _ (by omega), vset_ne _ _ _ _ (by omega), vset_eq]
      · rw [vset_ne _ _ _ _ (by omega), vset_eq]
      · rw [vset_eq]
    · have := p1 t (by omega)
      refine ⟨?_, ?_, ?_⟩ <;> (rw [vset_ne _ _ _ _ (by omega), vset_ne _ _ _ _ (by omega), vset_ne _ _ _ _ (by omega)])
      · exact this.1
      · exact this.2.1
      · exact this.2.2
  · rw [vset_ne _ _ _ _ (by omega), vset_ne _ _ _ _ (by omega), vset_ne _ _ _ _ (by omega)]
    exact p2 i1 j1 h1 h2
  · rw [vset_ne _ _ _ _ (by omega), vset_ne _ _ _ _ (by omega), vset_ne _ _ _ _ (by omega)]
    exact p3 b q hb
theorem PIv.nexti {V0 V : Nat → Nat → Int} {a n i j : Nat} (p : PIv V0 V a n i j) (hj : 10 < i + j) : PIv V0 V a n (i + 1) 0 := by
  obtain ⟨p1, p2, p3⟩ := p
  exact ⟨p1, fun i1 j1 h1 h2 => p2 i1 j1 h1 (by omega), p3⟩
theorem PIv.start (V0 : Nat → Nat → Int) (a : Nat) : PIv V0 V0 a 0 0 0 := ⟨fun t ht => by omega, fun i1 j1 _ h2 => by omega, fun _ _ _ => rfl⟩
theorem k_Polynomials {w : aW} {d : Nat} (hd : 1 ≤ d) {h : aH} {a : Nat} (ta : (hT h a).1 = 14) (hzh : hz h = a + 1) : WP w d 124 [aO (some a)] h (RN (fun h1 => ∃ V, h1 = hw (hset (mk h a prow) a 9 0) V ∧ PIv (hV (hset (mk h a prow) a 9 0)) V a 286 11 0)) := by
  obtain ⟨d, rfl⟩ : ∃ d1, d = d1 + 1 := ⟨d - 1, by omega⟩
  refine WP.enter (cd := cd_X4_init) rfl ?_
  have ha : a < hz h := by omega
  have q1 : hz h = a + 1 := hzh
  have t0 : hT (hset (mk h a prow) a 9 0) (a + 1) = (1, 286) := by have q := (mk_T a prow h (by omega) 0 1 286 0 rfl).1; rw [hzh] at q; exact q
  have r0 : hR (hset (mk h a prow) a 9 0) a 0 = some (a + 1) := by have q := mk_R a prow h (by omega) (by decide) 0 1 286 0 rfl; rw [hzh] at q; exact q
  have t1 : hT (hset (mk h a prow) a 9 0) (a + 2) = (1, 286) := by have q := (mk_T a prow h (by omega) 1 1 286 1 rfl).1; rw [hzh] at q; exact q
  have r1 : hR (hset (mk h a prow) a 9 0) a 1 = some (a + 2) := by have q := mk_R a prow h (by omega) (by decide) 1 1 286 1 rfl; rw [hzh] at q; exact q
  have t2 : hT (hset (mk h a prow) a 9 0) (a + 3) = (1, 286) := by have q := (mk_T a prow h (by omega) 2 1 286 2 rfl).1; rw [hzh] at q; exact q
  have r2 : hR (hset (mk h a prow) a 9 0) a 2 = some (a + 3) := by have q := mk_R a prow h (by omega) (by decide) 2 1 286 2 rfl; rw [hzh] at q; exact q
  have t3 : hT (hset (mk h a prow) a 9 0) (a + 4) = (1, 121) := by have q := (mk_T a prow h (by omega) 3 1 121 3 rfl).1; rw [hzh] at q; exact q
  have r3 : hR (hset (mk h a prow) a 9 0) a 3 = some (a + 4) := by have q := mk_R a prow h (by omega) (by decide) 3 1 121 3 rfl; rw [hzh] at q; exact q
  have ta0 : (hT (hset (mk h a prow) a 9 0) a).1 = 14 := by have q := (mk_old a prow h a (by omega)).1; exact (congrArg Prod.fst q).trans ta
  have hls : largs 0 [aO (some a)] = [(0, aO (some a))] := rfl
  rw [hls]
  clear hls
  have l93 : ∀ (fuel : Nat) (i n : Nat) (V : Nat → Nat → Int), i ≤ 11 → n = pB i 0 → PIv (hV (hset (mk h a prow) a 9 0)) V a n i 0 → 11 - i < fuel → Wk w d cd_X4_init 93 [(2, aI ((i : Int))), (1, aI ((n : Int))), (0, aO (some a))] [] (hw (hset (mk h a prow) a 9 0) V) (RN (fun h1 => ∃ V, h1 = hw (hset (mk h a prow) a 9 0) V ∧ PIv (hV (hset (mk h a prow) a 9 0)) V a 286 11 0)) := by
    intro fuel
    induction fuel with
    | zero => intros; omega
    | succ fuel ih93 =>
      intro i n V hi hn hp hfuel
      have l101 : ∀ (fuel : Nat) (j n2 : Nat) (V2 : Nat → Nat → Int), i ≤ 10 → j ≤ 11 - i → n2 = pB i j → PIv (hV (hset (mk h a prow) a 9 0)) V2 a n2 i j → 11 - i - j < fuel → Wk w d cd_X4_init 101 [(3, aI ((j : Int))), (2, aI ((i : Int))), (1, aI ((n2 : Int))), (0, aO (some a))] [] (hw (hset (mk h a prow) a 9 0) V2) (RN (fun h1 => ∃ V, h1 = hw (hset (mk h a prow) a 9 0) V ∧ PIv (hV (hset (mk h a prow) a 9 0)) V a 286 11 0)) := by
        intro fuel
        induction fuel with
        | zero => intros; omega
        | succ fuel ih101 =>
          intro j n2 V2 hi2 hj hn2 hp2 hfuel
          have l124 : ∀ (fuel : Nat) (k n3 : Nat) (V3 : Nat → Nat → Int), i + j ≤ 10 → k ≤ 11 - i - j → n3 = pB i j + k → PIv (hV (hset (mk h a prow) a 9 0)) V3 a n3 i (j + 1) → 11 - i - j - k < fuel → Wk w d cd_X4_init 124 [(4, aI ((k : Int))), (3, aI ((j : Int))), (2, aI ((i : Int))), (1, aI ((n3 : Int))), (0, aO (some a))] [] (hw (hset (mk h a prow) a 9 0) V3) (RN (fun h1 => ∃ V, h1 = hw (hset (mk h a prow) a 9 0) V ∧ PIv (hV (hset (mk h a prow) a 9 0)) V a 286 11 0)) := by
            intro fuel
            induction fuel with
            | zero => intros; omega
            | succ fuel ih124 =>
              intro k n3 V3 hij hk hn3 hp3 hfuel
              have u1 := pB_j i (by omega) j (by omega)
              have u2 := pB_le i (by omega) (j + 1) (by omega)
              refine g_iload_n rfl rfl ?_
              refine g_iload_n rfl rfl ?_
              refine g_iadd rfl (by omega) (by omega) ?_
              refine g_iload rfl rfl ?_
              refine g_iadd rfl (by omega) (by omega) ?_
              refine g_bipush rfl ?_
              refine g_icmp_gt rfl (fun c132 => ?_) (fun c132 => ?_)
              · skip
                refine g_iinc (l1 := [(3, aI ((j : Int) + 1)), (4, aI ((k : Int))), (2, aI ((i : Int))), (1, aI ((n3 : Int))), (0, aO (some a))]) rfl rfl (by omega) (by omega) rfl ?_
                refine g_goto rfl ?_
                refine g_ls [0, 2, 3, 4] rfl rfl ?_
                exact ih101 (j + 1) n3 V3 (by omega) (by omega) (by rw [hn3, pB_j i (by omega) j (by omega)]; congr 1; omega) (by exact hp3) (by omega)
              · skip
                refine g_iload_n rfl rfl ?_
                refine g_sipush rfl ?_
                refine g_icmp_ge rfl (fun c139 => ?_) (fun c139 => ?_)
                · skip
                  refine g_iinc (l1 := [(3, aI ((j : Int) + 1)), (4, aI ((k : Int))), (2, aI ((i : Int))), (1, aI ((n3 : Int))), (0, aO (some a))]) rfl rfl (by omega) (by omega) rfl ?_
                  refine g_goto rfl ?_
                  refine g_ls [0, 2, 3, 4] rfl rfl ?_
                  exact ih101 (j + 1) n3 V3 (by omega) (by omega) (by rw [hn3, pB_j i (by omega) j (by omega)]; congr 1; omega) (by exact hp3) (by omega)
                · skip
                  refine g_aload_n rfl rfl ?_
                  refine g_getR rfl ta0 r0 ?_
                  refine g_iload_n rfl rfl ?_
                  refine g_iload_n rfl rfl ?_
                  refine g_iast (i := n3) rfl t0 (by omega) (by omega) ?_
                  refine g_aload_n rfl rfl ?_
                  refine g_getR rfl ta0 r1 ?_
                  refine g_iload_n rfl rfl ?_
                  refine g_iload_n rfl rfl ?_
                  refine g_iast (i := n3) rfl t1 (by omega) (by omega) ?_
                  refine g_aload_n rfl rfl ?_
                  refine g_getR rfl ta0 r2 ?_
                  refine g_iload_n rfl rfl ?_
                  refine g_iload rfl rfl ?_
                  refine g_iast (i := n3) rfl t2 (by omega) (by omega) ?_
                  refine g_iinc (l1 := [(1, aI ((n3 : Int) + 1)), (4, aI ((k : Int))), (3, aI ((j : Int))), (2, aI ((i : Int))), (0, aO (some a))]) rfl rfl (by omega) (by omega) rfl ?_
                  refine g_iinc (l1 := [(4, aI ((k : Int) + 1)), (1, aI ((n3 : Int) + 1)), (3, aI ((j : Int))), (2, aI ((i : Int))), (0, aO (some a))]) rfl rfl (by omega) (by omega) rfl ?_
                  refine g_goto rfl ?_
                  refine g_ls [0, 2, 3, 1, 4] rfl rfl ?_
                  exact ih124 (k + 1) (n3 + 1) (vset (vset (vset V3 (a + 1) n3 i) (a + 2) n3 j) (a + 3) n3 k) (by omega) (by omega) (by omega) (by exact hp3.row (by rw [hn3]; exact pE_at i (by omega) j (by omega) k (by omega))) (by omega)
          refine g_iload_n rfl rfl ?_
          refine g_iload_n rfl rfl ?_
          refine g_iadd rfl (by omega) (by omega) ?_
          refine g_bipush rfl ?_
          refine g_icmp_gt rfl (fun c106 => ?_) (fun c106 => ?_)
          · skip
            refine g_iinc (l1 := [(2, aI ((i : Int) + 1)), (3, aI ((j : Int))), (1, aI ((n2 : Int))), (0, aO (some a))]) rfl rfl (by omega) (by omega) rfl ?_
            refine g_goto rfl ?_
            refine g_ls [0, 2, 3] rfl rfl ?_
            exact ih93 (i + 1) n2 V2 (by omega) (by rw [hn2, pB_i i (by omega)]; congr 1; omega) (by exact hp2.nexti (by omega)) (by omega)
          · skip
            refine g_aload_n rfl rfl ?_
            refine g_getR rfl ta0 r3 ?_
            refine g_iload_n rfl rfl ?_
            refine g_bipush rfl ?_
            refine g_imul rfl (by omega) (by omega) ?_
            refine g_iload_n rfl rfl ?_
            refine g_iadd rfl (by omega) (by omega) ?_
            refine g_iload_n rfl rfl ?_
            refine g_iast (i := (i * 11 + j)) rfl t3 (by omega) (by omega) ?_
            refine g_iconst rfl ?_
            refine g_istore (l1 := [(4, aI 0), (3, aI ((j : Int))), (2, aI ((i : Int))), (1, aI ((n2 : Int))), (0, aO (some a))]) rfl rfl ?_
            exact l124 _ 0 n2 (vset V2 (a + 4) (i * 11 + j) n2) (by omega) (by omega) (by omega) (by exact hp2.beg (by omega) hn2) (Nat.lt_succ_self _)
      refine g_iload_n rfl rfl ?_
      refine g_bipush rfl ?_
      refine g_icmp_gt rfl (fun c96 => ?_) (fun c96 => ?_)
      · skip
        refine g_vret rfl ?_
        have e : i = 11 := by omega
        subst e
        refine ⟨V, rfl, ?_⟩
        have e2 : n = 286 := by rw [hn]; decide
        subst e2
        exact hp
      · skip
        refine g_iconst rfl ?_
        refine g_istore_n (l1 := [(3, aI 0), (2, aI ((i : Int))), (1, aI ((n : Int))), (0, aO (some a))]) rfl rfl ?_
        exact l101 _ 0 n V (by omega) (by omega) (by omega) (by omega) (Nat.lt_succ_self _)
  refine g_aload_n rfl rfl ?_
  refine g_oinit rfl (Nat.le_of_ble_eq_true rfl) ?_
  refine g_aload_n rfl rfl ?_
  refine g_sipush rfl ?_
  refine g_newarray (m := 286) rfl (by omega) (by omega) (by rfl) ?_
  refine g_putR rfl (by rw [hT_new, if_neg (by omega)]; exact ta) ?_
  obtain ⟨h1, e1⟩ : ∃ h1, h1 = hput (hnew h 1 286) a 0 (some (hz h)) := ⟨_, rfl⟩
  refine g_hp (h2 := h1) e1.symm ?_
  have ta1 : (hT h1 a).1 = 14 := by rw [e1, hT_put, hT_new, if_neg (by omega)]; exact ta
  have ha1 : a < hz h1 := by rw [e1, hz_put, hz_new]; omega
  refine g_aload_n rfl rfl ?_
  refine g_sipush rfl ?_
  refine g_newarray (m := 286) rfl (by omega) (by omega) (by rfl) ?_
  refine g_putR rfl (by rw [hT_new, if_neg (by omega)]; exact ta1) ?_
  obtain ⟨h2, e2⟩ : ∃ h2, h2 = hput (hnew h1 1 286) a 1 (some (hz h1)) := ⟨_, rfl⟩
  refine g_hp (h2 := h2) e2.symm ?_
  have ta2 : (hT h2 a).1 = 14 := by rw [e2, hT_put, hT_new, if_neg (by omega)]; exact ta1
  have ha2 : a < hz h2 := by rw [e2, hz_put, hz_new]; omega
  refine g_aload_n rfl rfl ?_
  refine g_sipush rfl ?_
  refine g_newarray (m := 286) rfl (by omega) (by omega) (by rfl) ?_
  refine g_putR rfl (by rw [hT_new, if_neg (by omega)]; exact ta2) ?_
  obtain ⟨h3, e3⟩ : ∃ h3, h3 = hput (hnew h2 1 286) a 2 (some (hz h2)) := ⟨_, rfl⟩
  refine g_hp (h2 := h3) e3.symm ?_
  have ta3 : (hT h3 a).1 = 14 := by rw [e3, hT_put, hT_new, if_neg (by omega)]; exact ta2
  have ha3 : a < hz h3 := by rw [e3, hz_put, hz_new]; omega
  refine g_aload_n rfl rfl ?_
  refine g_bipush rfl ?_
  refine g_newarray (m := 121) rfl (by omega) (by omega) (by rfl) ?_
  refine g_putR rfl (by rw [hT_new, if_neg (by omega)]; exact ta3) ?_
  obtain ⟨h4, e4⟩ : ∃ h4, h4 = hput (hnew h3 1 121) a 3 (some (hz h3)) := ⟨_, rfl⟩
  refine g_hp (h2 := h4) e4.symm ?_
  have ta4 : (hT h4 a).1 = 14 := by rw [e4, hT_put, hT_new, if_neg (by omega)]; exact ta3
  have ha4 : a < hz h4 := by rw [e4, hz_put, hz_new]; omega
  refine g_aload_n rfl rfl ?_
  refine g_bipush rfl ?_
  refine g_anewarray (m := 60) rfl (by omega) (by omega) (by rfl) ?_
  refine g_putR rfl (by rw [hT_new, if_neg (by omega)]; exact ta4) ?_
  obtain ⟨h5, e5⟩ : ∃ h5, h5 = hput (hnew h4 5 60) a 4 (some (hz h4)) := ⟨_, rfl⟩
  refine g_hp (h2 := h5) e5.symm ?_
  have ta5 : (hT h5 a).1 = 14 := by rw [e5, hT_put, hT_new, if_neg (by omega)]; exact ta4
  have ha5 : a < hz h5 := by rw [e5, hz_put, hz_new]; omega
  refine g_aload_n rfl rfl ?_
  refine g_sipush rfl ?_
  refine g_newarray (m := 286) rfl (by omega) (by omega) (by rfl) ?_
  refine g_putR rfl (by rw [hT_new, if_neg (by omega)]; exact ta5) ?_
  obtain ⟨h6, e6⟩ : ∃ h6, h6 = hput (hnew h5 2 286) a 5 (some (hz h5)) := ⟨_, rfl⟩
  refine g_hp (h2 := h6) e6.symm ?_
  have ta6 : (hT h6 a).1 = 14 := by rw [e6, hT_put, hT_new, if_neg (by omega)]; exact ta5
  have ha6 : a < hz h6 := by rw [e6, hz_put, hz_new]; omega
  refine g_aload_n rfl rfl ?_
  refine g_sipush rfl ?_
  refine g_newarray (m := 286) rfl (by omega) (by omega) (by rfl) ?_
  refine g_putR rfl (by rw [hT_new, if_neg (by omega)]; exact ta6) ?_
  obtain ⟨h7, e7⟩ : ∃ h7, h7 = hput (hnew h6 2 286) a 6 (some (hz h6)) := ⟨_, rfl⟩
  refine g_hp (h2 := h7) e7.symm ?_
  have ta7 : (hT h7 a).1 = 14 := by rw [e7, hT_put, hT_new, if_neg (by omega)]; exact ta6
  have ha7 : a < hz h7 := by rw [e7, hz_put, hz_new]; omega
  refine g_aload_n rfl rfl ?_
  refine g_sipush rfl ?_
  refine g_newarray (m := 286) rfl (by omega) (by omega) (by rfl) ?_
  refine g_putR rfl (by rw [hT_new, if_neg (by omega)]; exact ta7) ?_
  obtain ⟨h8, e8⟩ : ∃ h8, h8 = hput (hnew h7 2 286) a 7 (some (hz h7)) := ⟨_, rfl⟩
  refine g_hp (h2 := h8) e8.symm ?_
  have ta8 : (hT h8 a).1 = 14 := by rw [e8, hT_put, hT_new, if_neg (by omega)]; exact ta7
  have ha8 : a < hz h8 := by rw [e8, hz_put, hz_new]; omega
  refine g_aload_n rfl rfl ?_
  refine g_sipush rfl ?_
  refine g_newarray (m := 286) rfl (by omega) (by omega) (by rfl) ?_
  refine g_putR rfl (by rw [hT_new, if_neg (by omega)]; exact ta8) ?_
  obtain ⟨h9, e9⟩ : ∃ h9, h9 = hput (hnew h8 2 286) a 8 (some (hz h8)) := ⟨_, rfl⟩
  refine g_hp (h2 := h9) e9.symm ?_
  have ta9 : (hT h9 a).1 = 14 := by rw [e9, hT_put, hT_new, if_neg (by omega)]; exact ta8
  have ha9 : a < hz h9 := by rw [e9, hz_put, hz_new]; omega
  refine g_aload_n rfl rfl ?_
  refine g_iconst rfl ?_
  refine g_putI rfl ta9 ?_
  obtain ⟨h10, e10⟩ : ∃ h10, h10 = hset h9 a 9 0 := ⟨_, rfl⟩
  refine g_hp (h2 := h10) e10.symm ?_
  have ta10 : (hT h10 a).1 = 14 := by rw [e10]; exact ta9
  have ha10 : a < hz h10 := by rw [e10]; exact ha9
  have eG : h10 = hset (mk h a prow) a 9 0 := by
    rw [e10]
    congr 1
    unfold prow
    rw [mk_cons, ← e1, mk_cons, ← e2, mk_cons, ← e3, mk_cons, ← e4, mk_cons, ← e5, mk_cons, ← e6, mk_cons, ← e7, mk_cons, ← e8, mk_cons, ← e9]
    rfl
  refine g_hp (h2 := hw (hset (mk h a prow) a 9 0) (hV (hset (mk h a prow) a 9 0))) (by rw [eG]; rfl) ?_
  refine g_iconst rfl ?_
  refine g_istore_n (l1 := [(1, aI 0), (0, aO (some a))]) rfl rfl ?_
  refine g_iconst rfl ?_
  refine g_istore_n (l1 := [(2, aI 0), (1, aI 0), (0, aO (some a))]) rfl rfl ?_
  exact l93 _ 0 0 (hV (hset (mk h a prow) a 9 0)) (by omega) (by decide) (by exact PIv.start _ _) (Nat.lt_succ_self _)
