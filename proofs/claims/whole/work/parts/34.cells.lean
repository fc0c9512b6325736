/-! the class's cells, made by a constructor: printed by wip/whole/s34.py -/
def crow : List (Nat × Nat × Nat) := [(3, 153, 6), (1, 64, 7), (1, 8, 8), (3, 100, 9), (1, 100, 10), (1, 32, 11)]
def CIv (V0 V : Nat → Nat → Int) (a n : Nat) : Prop := (∀ t < n, V (a + 6) t = -1) ∧ ∀ b q, b ≠ a + 6 → V b q = V0 b q
theorem CIv.step {V0 V : Nat → Nat → Int} {a n : Nat} (p : CIv V0 V a n) : CIv V0 (vset V (a + 6) n (-1)) a (n + 1) := by
  refine ⟨fun t ht => ?_, fun b q hb => by rw [vset_ne _ _ _ _ (by omega)]; exact p.2 b q hb⟩
  by_cases e : t = n
  · rw [e, vset_eq]
  · rw [vset_ne _ _ _ _ (by omega)]
    exact p.1 t (by omega)
theorem CIv.start (V0 : Nat → Nat → Int) (a : Nat) : CIv V0 V0 a 0 := ⟨fun t ht => by omega, fun _ _ _ => rfl⟩
theorem k_Cells {w : aW} {d : Nat} (hd : 1 ≤ d) {h : aH} {a : Nat} (ta : (hT h a).1 = 10) (hzh : hz h = a + 1) : WP w d 1 [aO (some a)] h (RN (fun h1 => ∃ V, h1 = hw (mk (hput (hput h a 0 none) a 1 none) a crow) V ∧ CIv (hV (mk (hput (hput h a 0 none) a 1 none) a crow)) V a 32)) := by
  obtain ⟨d, rfl⟩ : ∃ d1, d = d1 + 1 := ⟨d - 1, by omega⟩
  refine WP.enter (cd := cd_X0_init) rfl ?_
  have ha : a < hz h := by omega
  have q1 : hz (hput (hput h a 0 none) a 1 none) = a + 1 := hzh
  have t5 : hT (mk (hput (hput h a 0 none) a 1 none) a crow) (a + 6) = (1, 32) := by have q := (mk_T a crow (hput (hput h a 0 none) a 1 none) (by omega) 5 1 32 11 rfl).1; rw [q1] at q; exact q
  have r5 : hR (mk (hput (hput h a 0 none) a 1 none) a crow) a 11 = some (a + 6) := by have q := mk_R a crow (hput (hput h a 0 none) a 1 none) (by omega) (by decide) 5 1 32 11 rfl; rw [q1] at q; exact q
  have ta0 : (hT (mk (hput (hput h a 0 none) a 1 none) a crow) a).1 = 10 := by have q := (mk_old a crow (hput (hput h a 0 none) a 1 none) a (by omega)).1; exact (congrArg Prod.fst q).trans ta
  have hls : largs 0 [aO (some a)] = [(0, aO (some a))] := rfl
  rw [hls]
  clear hls
  have l65 : ∀ (fuel : Nat) (i : Nat) (V : Nat → Nat → Int), i ≤ 32 → CIv (hV (mk (hput (hput h a 0 none) a 1 none) a crow)) V a i → 32 - i < fuel → Wk w d cd_X0_init 65 [(1, aI ((i : Int))), (0, aO (some a))] [] (hw (mk (hput (hput h a 0 none) a 1 none) a crow) V) (RN (fun h1 => ∃ V, h1 = hw (mk (hput (hput h a 0 none) a 1 none) a crow) V ∧ CIv (hV (mk (hput (hput h a 0 none) a 1 none) a crow)) V a 32)) := by
    intro fuel
    induction fuel with
    | zero => intros; omega
    | succ fuel ih65 =>
      intro i V hi hp hfuel
      refine g_iload_n rfl rfl ?_
      refine g_aload_n rfl rfl ?_
      refine g_getR rfl ta0 r5 ?_
      refine g_alen rfl t5 (by decide) ?_
      refine g_icmp_ge rfl (fun c71 => ?_) (fun c71 => ?_)
      · skip
        refine g_vret rfl ?_
        have e : i = 32 := by omega
        subst e
        exact ⟨V, rfl, hp⟩
      · skip
        refine g_aload_n rfl rfl ?_
        refine g_getR rfl ta0 r5 ?_
        refine g_iload_n rfl rfl ?_
        refine g_iconst rfl ?_
        refine g_iast (i := i) rfl t5 (by omega) (by omega) ?_
        refine g_iinc (l1 := [(1, aI ((i : Int) + 1)), (0, aO (some a))]) rfl rfl (by omega) (by omega) rfl ?_
        refine g_goto rfl ?_
        exact ih65 (i + 1) (vset V (a + 6) i (-1)) (by omega) (by exact hp.step) (by omega)
  refine g_aload_n rfl rfl ?_
  refine g_oinit rfl (Nat.le_of_ble_eq_true rfl) ?_
  refine g_aload_n rfl rfl ?_
  refine g_null rfl ?_
  refine g_putR rfl ta ?_
  obtain ⟨h1, e1⟩ : ∃ h1, h1 = hput h a 0 none := ⟨_, rfl⟩
  refine g_hp (h2 := h1) e1.symm ?_
  have ta1 : (hT h1 a).1 = 10 := by rw [e1]; exact ta
  have ha1 : a < hz h1 := by rw [e1]; exact ha
  refine g_aload_n rfl rfl ?_
  refine g_null rfl ?_
  refine g_putR rfl ta1 ?_
  obtain ⟨h2, e2⟩ : ∃ h2, h2 = hput h1 a 1 none := ⟨_, rfl⟩
  refine g_hp (h2 := h2) e2.symm ?_
  have ta2 : (hT h2 a).1 = 10 := by rw [e2]; exact ta1
  have ha2 : a < hz h2 := by rw [e2]; exact ha1
  refine g_aload_n rfl rfl ?_
  refine g_sipush rfl ?_
  refine g_newarray (m := 153) rfl (by omega) (by omega) (by rfl) ?_
  refine g_putR rfl (by rw [hT_new, if_neg (by omega)]; exact ta2) ?_
  obtain ⟨h3, e3⟩ : ∃ h3, h3 = hput (hnew h2 3 153) a 6 (some (hz h2)) := ⟨_, rfl⟩
  refine g_hp (h2 := h3) e3.symm ?_
  have ta3 : (hT h3 a).1 = 10 := by rw [e3, hT_put, hT_new, if_neg (by omega)]; exact ta2
  have ha3 : a < hz h3 := by rw [e3, hz_put, hz_new]; omega
  refine g_aload_n rfl rfl ?_
  refine g_bipush rfl ?_
  refine g_newarray (m := 64) rfl (by omega) (by omega) (by rfl) ?_
  refine g_putR rfl (by rw [hT_new, if_neg (by omega)]; exact ta3) ?_
  obtain ⟨h4, e4⟩ : ∃ h4, h4 = hput (hnew h3 1 64) a 7 (some (hz h3)) := ⟨_, rfl⟩
  refine g_hp (h2 := h4) e4.symm ?_
  have ta4 : (hT h4 a).1 = 10 := by rw [e4, hT_put, hT_new, if_neg (by omega)]; exact ta3
  have ha4 : a < hz h4 := by rw [e4, hz_put, hz_new]; omega
  refine g_aload_n rfl rfl ?_
  refine g_bipush rfl ?_
  refine g_newarray (m := 8) rfl (by omega) (by omega) (by rfl) ?_
  refine g_putR rfl (by rw [hT_new, if_neg (by omega)]; exact ta4) ?_
  obtain ⟨h5, e5⟩ : ∃ h5, h5 = hput (hnew h4 1 8) a 8 (some (hz h4)) := ⟨_, rfl⟩
  refine g_hp (h2 := h5) e5.symm ?_
  have ta5 : (hT h5 a).1 = 10 := by rw [e5, hT_put, hT_new, if_neg (by omega)]; exact ta4
  have ha5 : a < hz h5 := by rw [e5, hz_put, hz_new]; omega
  refine g_aload_n rfl rfl ?_
  refine g_bipush rfl ?_
  refine g_newarray (m := 100) rfl (by omega) (by omega) (by rfl) ?_
  refine g_putR rfl (by rw [hT_new, if_neg (by omega)]; exact ta5) ?_
  obtain ⟨h6, e6⟩ : ∃ h6, h6 = hput (hnew h5 3 100) a 9 (some (hz h5)) := ⟨_, rfl⟩
  refine g_hp (h2 := h6) e6.symm ?_
  have ta6 : (hT h6 a).1 = 10 := by rw [e6, hT_put, hT_new, if_neg (by omega)]; exact ta5
  have ha6 : a < hz h6 := by rw [e6, hz_put, hz_new]; omega
  refine g_aload_n rfl rfl ?_
  refine g_bipush rfl ?_
  refine g_newarray (m := 100) rfl (by omega) (by omega) (by rfl) ?_
  refine g_putR rfl (by rw [hT_new, if_neg (by omega)]; exact ta6) ?_
  obtain ⟨h7, e7⟩ : ∃ h7, h7 = hput (hnew h6 1 100) a 10 (some (hz h6)) := ⟨_, rfl⟩
  refine g_hp (h2 := h7) e7.symm ?_
  have ta7 : (hT h7 a).1 = 10 := by rw [e7, hT_put, hT_new, if_neg (by omega)]; exact ta6
  have ha7 : a < hz h7 := by rw [e7, hz_put, hz_new]; omega
  refine g_aload_n rfl rfl ?_
  refine g_bipush rfl ?_
  refine g_newarray (m := 32) rfl (by omega) (by omega) (by rfl) ?_
  refine g_putR rfl (by rw [hT_new, if_neg (by omega)]; exact ta7) ?_
  obtain ⟨h8, e8⟩ : ∃ h8, h8 = hput (hnew h7 1 32) a 11 (some (hz h7)) := ⟨_, rfl⟩
  refine g_hp (h2 := h8) e8.symm ?_
  have ta8 : (hT h8 a).1 = 10 := by rw [e8, hT_put, hT_new, if_neg (by omega)]; exact ta7
  have ha8 : a < hz h8 := by rw [e8, hz_put, hz_new]; omega
  have eG : h8 = mk (hput (hput h a 0 none) a 1 none) a crow := by
    unfold crow
    rw [← e1, ← e2, mk_cons, ← e3, mk_cons, ← e4, mk_cons, ← e5, mk_cons, ← e6, mk_cons, ← e7, mk_cons, ← e8]
    rfl
  refine g_hp (h2 := hw (mk (hput (hput h a 0 none) a 1 none) a crow) (hV (mk (hput (hput h a 0 none) a 1 none) a crow))) (by rw [eG]; rfl) ?_
  refine g_iconst rfl ?_
  refine g_istore_n (l1 := [(1, aI 0), (0, aO (some a))]) rfl rfl ?_
  exact l65 _ 0 (hV (mk (hput (hput h a 0 none) a 1 none) a crow)) (by omega) (by exact CIv.start _ _) (Nat.lt_succ_self _)
