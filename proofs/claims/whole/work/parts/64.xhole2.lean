/-! the class looks for holes: printed by wip/whole/s64.py -/
theorem holL_b (ch : List Nat) : 0 ≤ holL ch ∧ holL ch ≤ 17 := by
  unfold holL
  have key : ∀ (l : List Nat) (a : Int), 0 ≤ a → a ≤ 17 → 0 ≤ l.foldl (fun a c => min a ((c % 17 : Nat) : Int)) a ∧ l.foldl (fun a c => min a ((c % 17 : Nat) : Int)) a ≤ 17 := by
    intro l
    induction l with
    | nil => intro a h1 h2; exact ⟨h1, h2⟩
    | cons x t ih => intro a h1 h2; rw [List.foldl_cons]; exact ih _ (by omega) (by omega)
  exact key ch 17 (by omega) (by omega)
set_option maxRecDepth 100000 in
set_option maxHeartbeats 4000000 in
theorem x_hasHole {w : aW} {d : Nat} (hd : 2 ≤ d) {h : aH} {c : Nat} (cs : CS h c) (V : Nat → Nat → Int) (n : Nat) (hn : V (c + 27) 13 = n) (hn8 : n ≤ 8) (ch : List Nat) (hcl : ch.length = n) (hch : ∀ i (hi : i < n), V (c + 30) i = (ch[i]'(by omega) : Nat)) (hcb : ∀ x ∈ ch, x < 153) : WP w d 17 [aO (some (c + 27))] (hw h V) (RI (fun r h1 => ∃ V1, h1 = hw h V1 ∧ FR2 V V1 c ∧ r = if holeB n ch = true then 1 else 0)) := by
  obtain ⟨d, rfl⟩ : ∃ d1, d = d1 + 1 := ⟨d - 1, by omega⟩
  refine WP.enter (cd := cd_X0_hasHole) rfl ?_
  have hls : largs 0 [aO (some (c + 27))] = [(0, aO (some (c + 27)))] := rfl
  rw [hls]
  clear hls
  have l125 : ∀ (fuel : Nat) (i : Nat) (s : Nat × List Nat) (V1 : Nat → Nat → Int), (i ≤ 100) → (FR2 V V1 c) → (RS V1 c s.1 s.2) → (bfs (100 - i) i s = bfs 100 0 (rchP (holM ch (holL ch) ch) [] 0 0)) → 100 - i < fuel → Wk w d cd_X0_hasHole 125 [(3, aI ((i : Int))), (2, aI ((s.2.length : Int))), (0, aO (some (c + 27)))] [] (hw h V1) (RI (fun r h1 => ∃ V1, h1 = hw h V1 ∧ FR2 V V1 c ∧ r = if holeB n ch = true then 1 else 0)) := by
    intro fuel
    induction fuel with
    | zero => intros; omega
    | succ fuel ih125 =>
      intro i s V1 hi hf rs hb hfuel
      have hs2 := rs.2.2.1
      refine g_iload_n rfl rfl ?_
      refine g_iload_n rfl rfl ?_
      refine g_icmp_ge rfl (fun c127 => ?_) (fun c127 => ?_)
      · skip
        have hfin : bfs 100 0 (rchP (holM ch (holL ch) ch) [] 0 0) = s := by
          rw [← hb]
          rcases Nat.lt_or_ge i 100 with q | q
          · rw [show 100 - i = (99 - i) + 1 by omega, bfs, if_neg (by omega)]
          · rw [show 100 - i = 0 by omega, bfs]
        refine g_iload_n rfl rfl ?_
        refine g_aload_n rfl rfl ?_
        refine g_getI rfl (cs.kd 27 (by omega) rfl) ?_
        refine g_top (v2 := aI ((n : Int))) (congrArg aI (by show V1 (c + 27) 13 = (n : Int); rw [hf _ (by omega) (by omega)]; exact hn)) ?_
        refine g_iadd rfl (by omega) (by omega) ?_
        refine g_bipush rfl ?_
        refine g_icmp_ge rfl (fun c223 => ?_) (fun c223 => ?_)
        · skip
          refine g_iconst rfl ?_
          refine g_zret rfl (by first | exact Or.inl rfl | exact Or.inr rfl) ?_
          refine ⟨V1, rfl, hf, ?_⟩
          unfold holeB
          rw [hfin]
          first | exact (if_pos (decide_eq_true (by omega))).symm | exact (if_neg (by rw [decide_eq_true_eq]; omega)).symm
        · skip
          refine g_iconst rfl ?_
          refine g_goto rfl ?_
          refine g_zret rfl (by first | exact Or.inl rfl | exact Or.inr rfl) ?_
          refine ⟨V1, rfl, hf, ?_⟩
          unfold holeB
          rw [hfin]
          first | exact (if_pos (decide_eq_true (by omega))).symm | exact (if_neg (by rw [decide_eq_true_eq]; omega)).symm
      · skip
        refine g_iload_n rfl rfl ?_
        refine g_aload_n rfl rfl ?_
        refine g_getR rfl (cs.kd 27 (by omega) rfl) (cs.rf 36 (by omega) rfl) ?_
        refine g_alen rfl (cs.ar 32 (by omega) rfl) (by decide) ?_
        refine g_icmp_ge rfl (fun c136 => ?_) (fun c136 => ?_)
        · skip
          have hfin : bfs 100 0 (rchP (holM ch (holL ch) ch) [] 0 0) = s := by
            rw [← hb]
            rcases Nat.lt_or_ge i 100 with q | q
            · rw [show 100 - i = (99 - i) + 1 by omega, bfs, if_neg (by omega)]
            · rw [show 100 - i = 0 by omega, bfs]
          refine g_iload_n rfl rfl ?_
          refine g_aload_n rfl rfl ?_
          refine g_getI rfl (cs.kd 27 (by omega) rfl) ?_
          refine g_top (v2 := aI ((n : Int))) (congrArg aI (by show V1 (c + 27) 13 = (n : Int); rw [hf _ (by omega) (by omega)]; exact hn)) ?_
          refine g_iadd rfl (by omega) (by omega) ?_
          refine g_bipush rfl ?_
          refine g_icmp_ge rfl (fun c223 => ?_) (fun c223 => ?_)
          · skip
            refine g_iconst rfl ?_
            refine g_zret rfl (by first | exact Or.inl rfl | exact Or.inr rfl) ?_
            refine ⟨V1, rfl, hf, ?_⟩
            unfold holeB
            rw [hfin]
            first | exact (if_pos (decide_eq_true (by omega))).symm | exact (if_neg (by rw [decide_eq_true_eq]; omega)).symm
          · skip
            refine g_iconst rfl ?_
            refine g_goto rfl ?_
            refine g_zret rfl (by first | exact Or.inl rfl | exact Or.inr rfl) ?_
            refine ⟨V1, rfl, hf, ?_⟩
            unfold holeB
            rw [hfin]
            first | exact (if_pos (decide_eq_true (by omega))).symm | exact (if_neg (by rw [decide_eq_true_eq]; omega)).symm
        · skip
          have hs3 : (s.2[i]'(by omega)) < 100 := rs.2.2.2 _ (List.getElem_mem _)
          refine g_aload_n rfl rfl ?_
          refine g_getR rfl (cs.kd 27 (by omega) rfl) (cs.rf 36 (by omega) rfl) ?_
          refine g_iload_n rfl rfl ?_
          refine g_iald (i := i) rfl (cs.ar 32 (by omega) rfl) (by omega) (by omega) ?_
          refine g_top (v2 := aI (((s.2[i]'(by omega) : Nat) : Int))) (congrArg aI (by show V1 (c + 32) i = _; exact rs.2.1 i (by omega))) ?_
          refine g_bipush rfl ?_
          refine g_iremN (m := 10) (n := ((s.2[i]'(by omega)))) rfl (by omega) ?_
          refine g_istore (l1 := [(4, aI (((((s.2[i]'(by omega))) % 10 : Nat) : Int))), (3, aI ((i : Int))), (2, aI ((s.2.length : Int))), (0, aO (some (c + 27)))]) rfl rfl ?_
          refine g_aload_n rfl rfl ?_
          refine g_getR rfl (cs.kd 27 (by omega) rfl) (cs.rf 36 (by omega) rfl) ?_
          refine g_iload_n rfl rfl ?_
          refine g_iald (i := i) rfl (cs.ar 32 (by omega) rfl) (by omega) (by omega) ?_
          refine g_top (v2 := aI (((s.2[i]'(by omega) : Nat) : Int))) (congrArg aI (by show V1 (c + 32) i = _; exact rs.2.1 i (by omega))) ?_
          refine g_bipush rfl ?_
          refine g_idivN (m := 10) (n := ((s.2[i]'(by omega)))) rfl (by omega) (by omega) ?_
          refine g_istore (l1 := [(5, aI (((((s.2[i]'(by omega))) / 10 : Nat) : Int))), (4, aI (((((s.2[i]'(by omega))) % 10 : Nat) : Int))), (3, aI ((i : Int))), (2, aI ((s.2.length : Int))), (0, aO (some (c + 27)))]) rfl rfl ?_
          refine g_aload_n rfl rfl ?_
          refine g_iload rfl rfl ?_
          refine g_iconst rfl ?_
          refine g_iadd rfl (by omega) (by omega) ?_
          refine g_iload rfl rfl ?_
          refine g_iload_n rfl rfl ?_
          refine g_callVI [aI ((((((s.2[i]'(by omega))) % 10 : Nat) : Int)) + 1), aI (((((s.2[i]'(by omega))) / 10 : Nat) : Int)), aI ((s.2.length : Int))] [] rfl rfl rfl rfl (Nat.le_of_ble_eq_true rfl) (cs.kd 27 (by omega) rfl) (x_reach (by omega) cs V1 s.1 s.2 rs ((((((s.2[i]'(by omega))) % 10 : Nat) : Int)) + 1) (((((s.2[i]'(by omega))) / 10 : Nat) : Int)) (by omega) (by omega)) ?_
          rintro _ _ ⟨U1, rfl, hf2, rs2, rfl⟩
          have hf : FR2 V U1 c := fun a h1 h2 => by rw [hf2 a h1 h2, hf a h1 h2]
          have rsA := rs2
          refine g_istore_n (l1 := [(2, aI ((((rchP s.1 s.2 ((((((s.2[i]'(by omega))) % 10 : Nat) : Int)) + 1) (((((s.2[i]'(by omega))) / 10 : Nat) : Int))).2.length : Nat) : Int))), (5, aI (((((s.2[i]'(by omega))) / 10 : Nat) : Int))), (4, aI (((((s.2[i]'(by omega))) % 10 : Nat) : Int))), (3, aI ((i : Int))), (0, aO (some (c + 27)))]) rfl rfl ?_
          refine g_aload_n rfl rfl ?_
          refine g_iload rfl rfl ?_
          refine g_iconst rfl ?_
          refine g_isub rfl (by omega) (by omega) ?_
          refine g_iload rfl rfl ?_
          refine g_iload_n rfl rfl ?_
          refine g_callVI [aI ((((((s.2[i]'(by omega))) % 10 : Nat) : Int)) - 1), aI (((((s.2[i]'(by omega))) / 10 : Nat) : Int)), aI ((((rchP s.1 s.2 ((((((s.2[i]'(by omega))) % 10 : Nat) : Int)) + 1) (((((s.2[i]'(by omega))) / 10 : Nat) : Int))).2.length : Nat) : Int))] [] rfl rfl rfl rfl (Nat.le_of_ble_eq_true rfl) (cs.kd 27 (by omega) rfl) (x_reach (by omega) cs U1 ((rchP s.1 s.2 (((s.2[i]'(by omega) % 10 : Nat) : Int) + 1) ((s.2[i]'(by omega) / 10 : Nat) : Int)).1) ((rchP s.1 s.2 (((s.2[i]'(by omega) % 10 : Nat) : Int) + 1) ((s.2[i]'(by omega) / 10 : Nat) : Int)).2) rsA ((((((s.2[i]'(by omega))) % 10 : Nat) : Int)) - 1) (((((s.2[i]'(by omega))) / 10 : Nat) : Int)) (by omega) (by omega)) ?_
          rintro _ _ ⟨U2, rfl, hf2, rs2, rfl⟩
          have hf : FR2 V U2 c := fun a h1 h2 => by rw [hf2 a h1 h2, hf a h1 h2]
          have rsB := rs2
          refine g_istore_n (l1 := [(2, aI ((((rchP ((rchP s.1 s.2 (((s.2[i]'(by omega) % 10 : Nat) : Int) + 1) ((s.2[i]'(by omega) / 10 : Nat) : Int)).1) ((rchP s.1 s.2 (((s.2[i]'(by omega) % 10 : Nat) : Int) + 1) ((s.2[i]'(by omega) / 10 : Nat) : Int)).2) ((((((s.2[i]'(by omega))) % 10 : Nat) : Int)) - 1) (((((s.2[i]'(by omega))) / 10 : Nat) : Int))).2.length : Nat) : Int))), (5, aI (((((s.2[i]'(by omega))) / 10 : Nat) : Int))), (4, aI (((((s.2[i]'(by omega))) % 10 : Nat) : Int))), (3, aI ((i : Int))), (0, aO (some (c + 27)))]) rfl rfl ?_
          refine g_aload_n rfl rfl ?_
          refine g_iload rfl rfl ?_
          refine g_iload rfl rfl ?_
          refine g_iconst rfl ?_
          refine g_iadd rfl (by omega) (by omega) ?_
          refine g_iload_n rfl rfl ?_
          refine g_callVI [aI (((((s.2[i]'(by omega))) % 10 : Nat) : Int)), aI ((((((s.2[i]'(by omega))) / 10 : Nat) : Int)) + 1), aI ((((rchP ((rchP s.1 s.2 (((s.2[i]'(by omega) % 10 : Nat) : Int) + 1) ((s.2[i]'(by omega) / 10 : Nat) : Int)).1) ((rchP s.1 s.2 (((s.2[i]'(by omega) % 10 : Nat) : Int) + 1) ((s.2[i]'(by omega) / 10 : Nat) : Int)).2) ((((((s.2[i]'(by omega))) % 10 : Nat) : Int)) - 1) (((((s.2[i]'(by omega))) / 10 : Nat) : Int))).2.length : Nat) : Int))] [] rfl rfl rfl rfl (Nat.le_of_ble_eq_true rfl) (cs.kd 27 (by omega) rfl) (x_reach (by omega) cs U2 ((rchP (rchP s.1 s.2 (((s.2[i]'(by omega) % 10 : Nat) : Int) + 1) ((s.2[i]'(by omega) / 10 : Nat) : Int)).1 (rchP s.1 s.2 (((s.2[i]'(by omega) % 10 : Nat) : Int) + 1) ((s.2[i]'(by omega) / 10 : Nat) : Int)).2 (((s.2[i]'(by omega) % 10 : Nat) : Int) - 1) ((s.2[i]'(by omega) / 10 : Nat) : Int)).1) ((rchP (rchP s.1 s.2 (((s.2[i]'(by omega) % 10 : Nat) : Int) + 1) ((s.2[i]'(by omega) / 10 : Nat) : Int)).1 (rchP s.1 s.2 (((s.2[i]'(by omega) % 10 : Nat) : Int) + 1) ((s.2[i]'(by omega) / 10 : Nat) : Int)).2 (((s.2[i]'(by omega) % 10 : Nat) : Int) - 1) ((s.2[i]'(by omega) / 10 : Nat) : Int)).2) rsB (((((s.2[i]'(by omega))) % 10 : Nat) : Int)) ((((((s.2[i]'(by omega))) / 10 : Nat) : Int)) + 1) (by omega) (by omega)) ?_
          rintro _ _ ⟨U3, rfl, hf2, rs2, rfl⟩
          have hf : FR2 V U3 c := fun a h1 h2 => by rw [hf2 a h1 h2, hf a h1 h2]
          have rsC := rs2
          refine g_istore_n (l1 := [(2, aI ((((rchP ((rchP (rchP s.1 s.2 (((s.2[i]'(by omega) % 10 : Nat) : Int) + 1) ((s.2[i]'(by omega) / 10 : Nat) : Int)).1 (rchP s.1 s.2 (((s.2[i]'(by omega) % 10 : Nat) : Int) + 1) ((s.2[i]'(by omega) / 10 : Nat) : Int)).2 (((s.2[i]'(by omega) % 10 : Nat) : Int) - 1) ((s.2[i]'(by omega) / 10 : Nat) : Int)).1) ((rchP (rchP s.1 s.2 (((s.2[i]'(by omega) % 10 : Nat) : Int) + 1) ((s.2[i]'(by omega) / 10 : Nat) : Int)).1 (rchP s.1 s.2 (((s.2[i]'(by omega) % 10 : Nat) : Int) + 1) ((s.2[i]'(by omega) / 10 : Nat) : Int)).2 (((s.2[i]'(by omega) % 10 : Nat) : Int) - 1) ((s.2[i]'(by omega) / 10 : Nat) : Int)).2) (((((s.2[i]'(by omega))) % 10 : Nat) : Int)) ((((((s.2[i]'(by omega))) / 10 : Nat) : Int)) + 1)).2.length : Nat) : Int))), (5, aI (((((s.2[i]'(by omega))) / 10 : Nat) : Int))), (4, aI (((((s.2[i]'(by omega))) % 10 : Nat) : Int))), (3, aI ((i : Int))), (0, aO (some (c + 27)))]) rfl rfl ?_
          refine g_aload_n rfl rfl ?_
          refine g_iload rfl rfl ?_
          refine g_iload rfl rfl ?_
          refine g_iconst rfl ?_
          refine g_isub rfl (by omega) (by omega) ?_
          refine g_iload_n rfl rfl ?_
          refine g_callVI [aI (((((s.2[i]'(by omega))) % 10 : Nat) : Int)), aI ((((((s.2[i]'(by omega))) / 10 : Nat) : Int)) - 1), aI ((((rchP ((rchP (rchP s.1 s.2 (((s.2[i]'(by omega) % 10 : Nat) : Int) + 1) ((s.2[i]'(by omega) / 10 : Nat) : Int)).1 (rchP s.1 s.2 (((s.2[i]'(by omega) % 10 : Nat) : Int) + 1) ((s.2[i]'(by omega) / 10 : Nat) : Int)).2 (((s.2[i]'(by omega) % 10 : Nat) : Int) - 1) ((s.2[i]'(by omega) / 10 : Nat) : Int)).1) ((rchP (rchP s.1 s.2 (((s.2[i]'(by omega) % 10 : Nat) : Int) + 1) ((s.2[i]'(by omega) / 10 : Nat) : Int)).1 (rchP s.1 s.2 (((s.2[i]'(by omega) % 10 : Nat) : Int) + 1) ((s.2[i]'(by omega) / 10 : Nat) : Int)).2 (((s.2[i]'(by omega) % 10 : Nat) : Int) - 1) ((s.2[i]'(by omega) / 10 : Nat) : Int)).2) (((((s.2[i]'(by omega))) % 10 : Nat) : Int)) ((((((s.2[i]'(by omega))) / 10 : Nat) : Int)) + 1)).2.length : Nat) : Int))] [] rfl rfl rfl rfl (Nat.le_of_ble_eq_true rfl) (cs.kd 27 (by omega) rfl) (x_reach (by omega) cs U3 ((rchP (rchP (rchP s.1 s.2 (((s.2[i]'(by omega) % 10 : Nat) : Int) + 1) ((s.2[i]'(by omega) / 10 : Nat) : Int)).1 (rchP s.1 s.2 (((s.2[i]'(by omega) % 10 : Nat) : Int) + 1) ((s.2[i]'(by omega) / 10 : Nat) : Int)).2 (((s.2[i]'(by omega) % 10 : Nat) : Int) - 1) ((s.2[i]'(by omega) / 10 : Nat) : Int)).1 (rchP (rchP s.1 s.2 (((s.2[i]'(by omega) % 10 : Nat) : Int) + 1) ((s.2[i]'(by omega) / 10 : Nat) : Int)).1 (rchP s.1 s.2 (((s.2[i]'(by omega) % 10 : Nat) : Int) + 1) ((s.2[i]'(by omega) / 10 : Nat) : Int)).2 (((s.2[i]'(by omega) % 10 : Nat) : Int) - 1) ((s.2[i]'(by omega) / 10 : Nat) : Int)).2 ((s.2[i]'(by omega) % 10 : Nat) : Int) (((s.2[i]'(by omega) / 10 : Nat) : Int) + 1)).1) ((rchP (rchP (rchP s.1 s.2 (((s.2[i]'(by omega) % 10 : Nat) : Int) + 1) ((s.2[i]'(by omega) / 10 : Nat) : Int)).1 (rchP s.1 s.2 (((s.2[i]'(by omega) % 10 : Nat) : Int) + 1) ((s.2[i]'(by omega) / 10 : Nat) : Int)).2 (((s.2[i]'(by omega) % 10 : Nat) : Int) - 1) ((s.2[i]'(by omega) / 10 : Nat) : Int)).1 (rchP (rchP s.1 s.2 (((s.2[i]'(by omega) % 10 : Nat) : Int) + 1) ((s.2[i]'(by omega) / 10 : Nat) : Int)).1 (rchP s.1 s.2 (((s.2[i]'(by omega) % 10 : Nat) : Int) + 1) ((s.2[i]'(by omega) / 10 : Nat) : Int)).2 (((s.2[i]'(by omega) % 10 : Nat) : Int) - 1) ((s.2[i]'(by omega) / 10 : Nat) : Int)).2 ((s.2[i]'(by omega) % 10 : Nat) : Int) (((s.2[i]'(by omega) / 10 : Nat) : Int) + 1)).2) rsC (((((s.2[i]'(by omega))) % 10 : Nat) : Int)) ((((((s.2[i]'(by omega))) / 10 : Nat) : Int)) - 1) (by omega) (by omega)) ?_
          rintro _ _ ⟨U4, rfl, hf2, rs2, rfl⟩
          have hf : FR2 V U4 c := fun a h1 h2 => by rw [hf2 a h1 h2, hf a h1 h2]
          have rs := rs2
          refine g_istore_n (l1 := [(2, aI ((((rchP ((rchP (rchP (rchP s.1 s.2 (((s.2[i]'(by omega) % 10 : Nat) : Int) + 1) ((s.2[i]'(by omega) / 10 : Nat) : Int)).1 (rchP s.1 s.2 (((s.2[i]'(by omega) % 10 : Nat) : Int) + 1) ((s.2[i]'(by omega) / 10 : Nat) : Int)).2 (((s.2[i]'(by omega) % 10 : Nat) : Int) - 1) ((s.2[i]'(by omega) / 10 : Nat) : Int)).1 (rchP (rchP s.1 s.2 (((s.2[i]'(by omega) % 10 : Nat) : Int) + 1) ((s.2[i]'(by omega) / 10 : Nat) : Int)).1 (rchP s.1 s.2 (((s.2[i]'(by omega) % 10 : Nat) : Int) + 1) ((s.2[i]'(by omega) / 10 : Nat) : Int)).2 (((s.2[i]'(by omega) % 10 : Nat) : Int) - 1) ((s.2[i]'(by omega) / 10 : Nat) : Int)).2 ((s.2[i]'(by omega) % 10 : Nat) : Int) (((s.2[i]'(by omega) / 10 : Nat) : Int) + 1)).1) ((rchP (rchP (rchP s.1 s.2 (((s.2[i]'(by omega) % 10 : Nat) : Int) + 1) ((s.2[i]'(by omega) / 10 : Nat) : Int)).1 (rchP s.1 s.2 (((s.2[i]'(by omega) % 10 : Nat) : Int) + 1) ((s.2[i]'(by omega) / 10 : Nat) : Int)).2 (((s.2[i]'(by omega) % 10 : Nat) : Int) - 1) ((s.2[i]'(by omega) / 10 : Nat) : Int)).1 (rchP (rchP s.1 s.2 (((s.2[i]'(by omega) % 10 : Nat) : Int) + 1) ((s.2[i]'(by omega) / 10 : Nat) : Int)).1 (rchP s.1 s.2 (((s.2[i]'(by omega) % 10 : Nat) : Int) + 1) ((s.2[i]'(by omega) / 10 : Nat) : Int)).2 (((s.2[i]'(by omega) % 10 : Nat) : Int) - 1) ((s.2[i]'(by omega) / 10 : Nat) : Int)).2 ((s.2[i]'(by omega) % 10 : Nat) : Int) (((s.2[i]'(by omega) / 10 : Nat) : Int) + 1)).2) (((((s.2[i]'(by omega))) % 10 : Nat) : Int)) ((((((s.2[i]'(by omega))) / 10 : Nat) : Int)) - 1)).2.length : Nat) : Int))), (5, aI (((((s.2[i]'(by omega))) / 10 : Nat) : Int))), (4, aI (((((s.2[i]'(by omega))) % 10 : Nat) : Int))), (3, aI ((i : Int))), (0, aO (some (c + 27)))]) rfl rfl ?_
          refine g_iinc (l1 := [(3, aI ((i : Int) + 1)), (2, aI ((((rchP ((rchP (rchP (rchP s.1 s.2 (((s.2[i]'(by omega) % 10 : Nat) : Int) + 1) ((s.2[i]'(by omega) / 10 : Nat) : Int)).1 (rchP s.1 s.2 (((s.2[i]'(by omega) % 10 : Nat) : Int) + 1) ((s.2[i]'(by omega) / 10 : Nat) : Int)).2 (((s.2[i]'(by omega) % 10 : Nat) : Int) - 1) ((s.2[i]'(by omega) / 10 : Nat) : Int)).1 (rchP (rchP s.1 s.2 (((s.2[i]'(by omega) % 10 : Nat) : Int) + 1) ((s.2[i]'(by omega) / 10 : Nat) : Int)).1 (rchP s.1 s.2 (((s.2[i]'(by omega) % 10 : Nat) : Int) + 1) ((s.2[i]'(by omega) / 10 : Nat) : Int)).2 (((s.2[i]'(by omega) % 10 : Nat) : Int) - 1) ((s.2[i]'(by omega) / 10 : Nat) : Int)).2 ((s.2[i]'(by omega) % 10 : Nat) : Int) (((s.2[i]'(by omega) / 10 : Nat) : Int) + 1)).1) ((rchP (rchP (rchP s.1 s.2 (((s.2[i]'(by omega) % 10 : Nat) : Int) + 1) ((s.2[i]'(by omega) / 10 : Nat) : Int)).1 (rchP s.1 s.2 (((s.2[i]'(by omega) % 10 : Nat) : Int) + 1) ((s.2[i]'(by omega) / 10 : Nat) : Int)).2 (((s.2[i]'(by omega) % 10 : Nat) : Int) - 1) ((s.2[i]'(by omega) / 10 : Nat) : Int)).1 (rchP (rchP s.1 s.2 (((s.2[i]'(by omega) % 10 : Nat) : Int) + 1) ((s.2[i]'(by omega) / 10 : Nat) : Int)).1 (rchP s.1 s.2 (((s.2[i]'(by omega) % 10 : Nat) : Int) + 1) ((s.2[i]'(by omega) / 10 : Nat) : Int)).2 (((s.2[i]'(by omega) % 10 : Nat) : Int) - 1) ((s.2[i]'(by omega) / 10 : Nat) : Int)).2 ((s.2[i]'(by omega) % 10 : Nat) : Int) (((s.2[i]'(by omega) / 10 : Nat) : Int) + 1)).2) (((((s.2[i]'(by omega))) % 10 : Nat) : Int)) ((((((s.2[i]'(by omega))) / 10 : Nat) : Int)) - 1)).2.length : Nat) : Int))), (5, aI (((((s.2[i]'(by omega))) / 10 : Nat) : Int))), (4, aI (((((s.2[i]'(by omega))) % 10 : Nat) : Int))), (0, aO (some (c + 27)))]) rfl rfl (by omega) (by omega) rfl ?_
          refine g_goto rfl ?_
          refine g_ls [0, 1, 4] rfl rfl ?_
          exact ih125 (i + 1) (bfs4 s (s.2[i]'(by omega))) _ (by omega) (by exact hf) (by exact rs) (by rw [← hb, show 100 - i = (100 - (i + 1)) + 1 by omega, bfs, if_pos (by omega), List.getD_eq_getElem?_getD, List.getElem?_eq_getElem (by omega)]; rfl) (by omega)
  have l65 : ∀ (fuel : Nat) (i : Nat) (V1 : Nat → Nat → Int), (i ≤ n) → (FR2 V V1 c) → (RS V1 c (holM ch (holL ch) (ch.take (i))) []) → n - i < fuel → Wk w d cd_X0_hasHole 65 [(2, aI ((i : Int))), (1, aI (holL ch)), (0, aO (some (c + 27)))] [] (hw h V1) (RI (fun r h1 => ∃ V1, h1 = hw h V1 ∧ FR2 V V1 c ∧ r = if holeB n ch = true then 1 else 0)) := by
    intro fuel
    induction fuel with
    | zero => intros; omega
    | succ fuel ih65 =>
      intro i V1 hi hf rs hfuel
      have hl1 := holL_b ch
      refine g_iload_n rfl rfl ?_
      refine g_aload_n rfl rfl ?_
      refine g_getI rfl (cs.kd 27 (by omega) rfl) ?_
      refine g_top (v2 := aI ((n : Int))) (congrArg aI (by show V1 (c + 27) 13 = (n : Int); rw [hf _ (by omega) (by omega)]; exact hn)) ?_
      refine g_icmp_ge rfl (fun c70 => ?_) (fun c70 => ?_)
      · skip
        rw [show ch.take i = ch from List.take_of_length_le (by omega)] at rs
        refine g_aload_n rfl rfl ?_
        refine g_iconst rfl ?_
        refine g_iconst rfl ?_
        refine g_iconst rfl ?_
        refine g_callVI [aI 0, aI 0, aI 0] [] rfl rfl rfl rfl (Nat.le_of_ble_eq_true rfl) (cs.kd 27 (by omega) rfl) (x_reach (by omega) cs V1 (holM ch (holL ch) ch) ([]) rs 0 0 (by omega) (by omega)) ?_
        rintro _ _ ⟨U5, rfl, hf2, rs2, rfl⟩
        have hf : FR2 V U5 c := fun a h1 h2 => by rw [hf2 a h1 h2, hf a h1 h2]
        have rs := rs2
        refine g_istore_n (l1 := [(2, aI ((((rchP (holM ch (holL ch) ch) ([]) 0 0).2.length : Nat) : Int))), (1, aI (holL ch)), (0, aO (some (c + 27)))]) rfl rfl ?_
        refine g_iconst rfl ?_
        refine g_istore_n (l1 := [(3, aI 0), (2, aI ((((rchP (holM ch (holL ch) ch) ([]) 0 0).2.length : Nat) : Int))), (1, aI (holL ch)), (0, aO (some (c + 27)))]) rfl rfl ?_
        refine g_ls [0, 1, 3] rfl rfl ?_
        exact l125 _ 0 (rchP (holM ch (holL ch) ch) [] 0 0) _ (by omega) (by exact hf) (by exact rs) (by rfl) (Nat.lt_succ_self _)
      · skip
        refine g_iload_n rfl rfl ?_
        refine g_bipush rfl ?_
        refine g_icmp_ge_f rfl (by omega) ?_
        have hcb1 : (ch[i]'(by omega)) < 153 := hcb _ (List.getElem_mem _)
        refine g_aload_n rfl rfl ?_
        refine g_aload_n rfl rfl ?_
        refine g_getR rfl (cs.kd 27 (by omega) rfl) (cs.rf 34 (by omega) rfl) ?_
        refine g_iload_n rfl rfl ?_
        refine g_iald (i := i) rfl (cs.ar 30 (by omega) rfl) (by omega) (by omega) ?_
        refine g_top (v2 := aI (((ch[i]'(by omega) : Nat) : Int))) (congrArg aI (by show V1 (c + 30) i = _; rw [hf _ (by omega) (by omega)]; exact hch i (by omega))) ?_
        refine g_bipush rfl ?_
        refine g_iremN (m := 17) (n := ((ch[i]'(by omega)))) rfl (by omega) ?_
        refine g_iload_n rfl rfl ?_
        refine g_isub rfl (by omega) (by omega) ?_
        refine g_iconst rfl ?_
        refine g_iadd rfl (by omega) (by omega) ?_
        refine g_aload_n rfl rfl ?_
        refine g_getR rfl (cs.kd 27 (by omega) rfl) (cs.rf 34 (by omega) rfl) ?_
        refine g_iload_n rfl rfl ?_
        refine g_iald (i := i) rfl (cs.ar 30 (by omega) rfl) (by omega) (by omega) ?_
        refine g_top (v2 := aI (((ch[i]'(by omega) : Nat) : Int))) (congrArg aI (by show V1 (c + 30) i = _; rw [hf _ (by omega) (by omega)]; exact hch i (by omega))) ?_
        refine g_bipush rfl ?_
        refine g_idivN (m := 17) (n := ((ch[i]'(by omega)))) rfl (by omega) (by omega) ?_
        refine g_iconst rfl ?_
        refine g_iadd rfl (by omega) (by omega) ?_
        refine g_iconst rfl ?_
        refine g_callVI [aI (((((((ch[i]'(by omega))) % 17 : Nat) : Int)) - (holL ch)) + 1), aI ((((((ch[i]'(by omega))) / 17 : Nat) : Int)) + 1), aI 0] [] rfl rfl rfl rfl (Nat.le_of_ble_eq_true rfl) (cs.kd 27 (by omega) rfl) (x_reach (by omega) cs V1 (holM ch (holL ch) (ch.take (i))) ([]) rs (((((((ch[i]'(by omega))) % 17 : Nat) : Int)) - (holL ch)) + 1) ((((((ch[i]'(by omega))) / 17 : Nat) : Int)) + 1) (by omega) (by omega)) ?_
        rintro _ _ ⟨U6, rfl, hf2, rs2, rfl⟩
        have hf : FR2 V U6 c := fun a h1 h2 => by rw [hf2 a h1 h2, hf a h1 h2]
        refine g_pop rfl rfl ?_
        refine g_iinc (l1 := [(2, aI ((i : Int) + 1)), (1, aI (holL ch)), (0, aO (some (c + 27)))]) rfl rfl (by omega) (by omega) rfl ?_
        refine g_goto rfl ?_
        exact ih65 (i + 1) _ (by omega) (by exact hf) (by rw [show holM ch (holL ch) (ch.take (i + 1)) = (rchP (holM ch (holL ch) (ch.take i)) [] (((ch[i] % 17 : Nat) : Int) - holL ch + 1) (((ch[i] / 17 : Nat) : Int) + 1)).1 from foldl_take _ _ ch i (by omega)]; exact rs2.nil) (by omega)
  have l29 : ∀ (V1 : Nat → Nat → Int), (∀ j < 100, V1 (c + 31) j = 0) → ∀ (fuel : Nat) (i : Nat), (i ≤ n) → (FR2 V V1 c) → n - i < fuel → Wk w d cd_X0_hasHole 29 [(2, aI ((i : Int))), (1, aI ((ch.take (i)).foldl (fun a c => min a ((c % 17 : Nat) : Int)) 17)), (0, aO (some (c + 27)))] [] (hw h V1) (RI (fun r h1 => ∃ V1, h1 = hw h V1 ∧ FR2 V V1 c ∧ r = if holeB n ch = true then 1 else 0)) := by
    intro V1 hz fuel
    induction fuel with
    | zero => intros; omega
    | succ fuel ih29 =>
      intro i hi hf hfuel
      refine g_iload_n rfl rfl ?_
      refine g_aload_n rfl rfl ?_
      refine g_getI rfl (cs.kd 27 (by omega) rfl) ?_
      refine g_top (v2 := aI ((n : Int))) (congrArg aI (by show V1 (c + 27) 13 = (n : Int); rw [hf _ (by omega) (by omega)]; exact hn)) ?_
      refine g_icmp_ge rfl (fun c34 => ?_) (fun c34 => ?_)
      · skip
        rw [show ch.take i = ch from List.take_of_length_le (by omega)]
        refine g_iconst rfl ?_
        refine g_istore_n (l1 := [(2, aI 0), (1, aI (holL ch)), (0, aO (some (c + 27)))]) rfl rfl ?_
        exact l65 _ 0 V1 (by omega) (by exact hf) (by refine ⟨fun j hj => ?_, fun j hj => by simp at hj, by simp, fun x hx => by cases hx⟩; rw [hz j hj]; show (0 : Int) = if Nat.testBit 0 j = true then 1 else 0; rw [Nat.zero_testBit]; rfl) (Nat.lt_succ_self _)
      · skip
        refine g_iload_n rfl rfl ?_
        refine g_bipush rfl ?_
        refine g_icmp_ge_f rfl (by omega) ?_
        refine g_iload_n rfl rfl ?_
        refine g_aload_n rfl rfl ?_
        refine g_getR rfl (cs.kd 27 (by omega) rfl) (cs.rf 34 (by omega) rfl) ?_
        refine g_iload_n rfl rfl ?_
        refine g_iald (i := i) rfl (cs.ar 30 (by omega) rfl) (by omega) (by omega) ?_
        refine g_top (v2 := aI (((ch[i]'(by omega) : Nat) : Int))) (congrArg aI (by show V1 (c + 30) i = _; rw [hf _ (by omega) (by omega)]; exact hch i (by omega))) ?_
        refine g_bipush rfl ?_
        refine g_iremN (m := 17) (n := ((ch[i]'(by omega)))) rfl (by omega) ?_
        refine g_callSI [aI ((ch.take (i)).foldl (fun a c => min a ((c % 17 : Nat) : Int)) 17), aI (((((ch[i]'(by omega))) % 17 : Nat) : Int))] [] rfl rfl rfl rfl (Nat.le_of_ble_eq_true rfl) (c_imin (by omega) ((ch.take (i)).foldl (fun a c => min a ((c % 17 : Nat) : Int)) 17) (((((ch[i]'(by omega))) % 17 : Nat) : Int)) _) ?_
        rintro _ _ ⟨rfl, rfl⟩
        refine g_top (v2 := aI ((ch.take (i + 1)).foldl (fun a c => min a ((c % 17 : Nat) : Int)) 17)) (congrArg aI (by exact (foldl_take (fun a c => min a ((c % 17 : Nat) : Int)) 17 ch i (by omega)).symm)) ?_
        refine g_istore_n (l1 := [(1, aI ((ch.take (i + 1)).foldl (fun a c => min a ((c % 17 : Nat) : Int)) 17)), (2, aI ((i : Int))), (0, aO (some (c + 27)))]) rfl rfl ?_
        refine g_iinc (l1 := [(2, aI ((i : Int) + 1)), (1, aI ((ch.take (i + 1)).foldl (fun a c => min a ((c % 17 : Nat) : Int)) 17)), (0, aO (some (c + 27)))]) rfl rfl (by omega) (by omega) rfl ?_
        refine g_goto rfl ?_
        exact ih29 (i + 1) (by omega) (by exact hf) (by omega)
  have l2 : ∀ (fuel : Nat) (i : Nat) (V1 : Nat → Nat → Int), (i ≤ 100) → (FR2 V V1 c) → (∀ j < i, V1 (c + 31) j = 0) → 100 - i < fuel → Wk w d cd_X0_hasHole 2 [(1, aI ((i : Int))), (0, aO (some (c + 27)))] [] (hw h V1) (RI (fun r h1 => ∃ V1, h1 = hw h V1 ∧ FR2 V V1 c ∧ r = if holeB n ch = true then 1 else 0)) := by
    intro fuel
    induction fuel with
    | zero => intros; omega
    | succ fuel ih2 =>
      intro i V1 hi hf hz hfuel
      refine g_iload_n rfl rfl ?_
      refine g_aload_n rfl rfl ?_
      refine g_getR rfl (cs.kd 27 (by omega) rfl) (cs.rf 35 (by omega) rfl) ?_
      refine g_alen rfl (cs.ar 31 (by omega) rfl) (by decide) ?_
      refine g_icmp_ge rfl (fun c8 => ?_) (fun c8 => ?_)
      · skip
        refine g_bipush rfl ?_
        refine g_istore_n (l1 := [(1, aI 17), (0, aO (some (c + 27)))]) rfl rfl ?_
        refine g_iconst rfl ?_
        refine g_istore_n (l1 := [(2, aI 0), (1, aI 17), (0, aO (some (c + 27)))]) rfl rfl ?_
        exact l29 V1 (by intro j hj; exact hz j (by omega)) _ 0 (by omega) (by exact hf) (Nat.lt_succ_self _)
      · skip
        refine g_aload_n rfl rfl ?_
        refine g_getR rfl (cs.kd 27 (by omega) rfl) (cs.rf 35 (by omega) rfl) ?_
        refine g_iload_n rfl rfl ?_
        refine g_iconst rfl ?_
        refine g_bast (i := i) rfl (cs.ar 31 (by omega) rfl) (by omega) (by omega) (by exact Or.inl rfl) ?_
        refine g_iinc (l1 := [(1, aI ((i : Int) + 1)), (0, aO (some (c + 27)))]) rfl rfl (by omega) (by omega) rfl ?_
        refine g_goto rfl ?_
        exact ih2 (i + 1) (vset V1 (c + 31) i 0) (by omega) (by intro a h1 h2; funext j; rw [vset_ne _ _ _ _ (by omega), hf a h1 h2]) (by intro j hj; by_cases e : j = i; (rw [e, vset_eq]); (rw [vset_ne _ _ _ _ (by omega)]; exact hz j (by omega))) (by omega)
  refine g_iconst rfl ?_
  refine g_istore_n (l1 := [(1, aI 0), (0, aO (some (c + 27)))]) rfl rfl ?_
  exact l2 _ 0 V (by omega) (by intro a _ _; rfl) (by intro j hj; omega) (Nat.lt_succ_self _)
/-- whether a figure is wanted -/
def wantB (kd n : Nat) (ch : List Nat) : Bool := if kd = 0 then true else if kd = 3 then holeB n ch else leastB kd ch
def wantK (kd : Nat) (ch : List Nat) : Bool := kd == 0 || (kd == 3 || leastK ch)
theorem x_isWanted {w : aW} {d : Nat} (hd : 4 ≤ d) {h : aH} {c : Nat} (cs : CS h c) (V : Nat → Nat → Int) (n : Nat) (hn : V (c + 27) 13 = n) (hn8 : n ≤ 8) (ch : List Nat) (hcl : ch.length = n) (hch : ∀ i (hi : i < n), V (c + 30) i = (ch[i]'(by omega) : Nat)) (hcb : ∀ x ∈ ch, x < 153) (kd : Nat) (hkd : V (c + 27) 12 = kd) (hk : wantK kd ch = true) : WP w d 13 [aO (some (c + 27))] (hw h V) (RI (fun r h1 => ∃ V1, h1 = hw h V1 ∧ FR2 V V1 c ∧ r = if wantB kd n ch = true then 1 else 0)) := by
  obtain ⟨d, rfl⟩ : ∃ d1, d = d1 + 1 := ⟨d - 1, by omega⟩
  refine WP.enter (cd := cd_X0_isWanted) rfl ?_
  have hls : largs 0 [aO (some (c + 27))] = [(0, aO (some (c + 27)))] := rfl
  rw [hls]
  clear hls
  refine g_aload_n rfl rfl ?_
  refine g_getI rfl (cs.kd 27 (by omega) rfl) ?_
  refine g_top (v2 := aI ((kd : Int))) (congrArg aI (by show V (c + 27) 12 = (kd : Int); exact hkd)) ?_
  refine g_if_ne rfl (fun c4 => ?_) (fun c4 => ?_)
  · skip
    refine g_aload_n rfl rfl ?_
    refine g_getI rfl (cs.kd 27 (by omega) rfl) ?_
    refine g_top (v2 := aI ((kd : Int))) (congrArg aI (by show V (c + 27) 12 = (kd : Int); exact hkd)) ?_
    refine g_iconst rfl ?_
    refine g_icmp_ne rfl (fun c14 => ?_) (fun c14 => ?_)
    · skip
      refine g_aload_n rfl rfl ?_
      refine g_callVI [] [] rfl rfl rfl rfl (Nat.le_of_ble_eq_true rfl) (cs.kd 27 (by omega) rfl) (x_isLeast (by omega) cs V n hn hn8 ch hcl hch hcb kd hkd (by unfold wantK at hk; simp only [Bool.or_eq_true, beq_iff_eq] at hk; rcases hk with hk | hk | hk; omega; omega; exact hk)) ?_
      rintro _ _ ⟨rfl, rfl⟩
      refine g_zret rfl (by exact bi_01 _) ?_
      first
        | (refine ⟨V1, rfl, hf, ?_⟩
           unfold wantB
           rw [if_neg (show ¬kd = 0 by omega), if_pos (show kd = 3 by omega)])
        | (refine ⟨V, rfl, fun _ _ _ => rfl, ?_⟩
           unfold wantB
           rw [if_neg (show ¬kd = 0 by omega), if_neg (show ¬kd = 3 by omega)])
    · skip
      refine g_aload_n rfl rfl ?_
      refine g_callVI [] [] rfl rfl rfl rfl (Nat.le_of_ble_eq_true rfl) (cs.kd 27 (by omega) rfl) (x_hasHole (by omega) cs V n hn hn8 ch hcl hch hcb) ?_
      rintro _ _ ⟨V1, rfl, hf, rfl⟩
      refine g_goto rfl ?_
      refine g_zret rfl (by exact bi_01 _) ?_
      first
        | (refine ⟨V1, rfl, hf, ?_⟩
           unfold wantB
           rw [if_neg (show ¬kd = 0 by omega), if_pos (show kd = 3 by omega)])
        | (refine ⟨V, rfl, fun _ _ _ => rfl, ?_⟩
           unfold wantB
           rw [if_neg (show ¬kd = 0 by omega), if_neg (show ¬kd = 3 by omega)])
  · skip
    refine g_iconst rfl ?_
    refine g_zret rfl (by exact Or.inr rfl) ?_
    refine ⟨V, rfl, fun _ _ _ => rfl, ?_⟩
    unfold wantB
    rw [if_pos (show kd = 0 by omega)]
    rfl
