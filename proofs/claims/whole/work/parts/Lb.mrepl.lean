/-! the reference's replace: printed by wip/whole/lb_.py -/
set_option maxRecDepth 100000 in
theorem m_repl {w : aW} {d : Nat} (hd : 24 ≤ d) {h : aH} {o : Nat} (ms : MS h o) (V : Nat → Nat → Int) {S : aS} (mp : MP V o S) (ok : OkP S) (a : Nat) (ha : a < sPn S) (b : Nat) (hb : b < sPn S) : WP w d 360 [aO (some o), aI ((a : Int)), aI ((b : Int))] (hw h V) (RI (fun r h1 => ((putX (sPc S a) (sPc S b)).1 = false ∧ r = -4 ∧ ∃ V1, h1 = hw h V1 ∧ ∀ q, (q < o + 13 ∨ o + 16 < q) → V1 q = V q) ∨ ((putX (sPc S a) (sPc S b)).1 = true ∧ ∃ V1, (∀ q, (q < o + 13 ∨ o + 16 < q) → V1 q = V q) ∧ BigR (V1 (o + 13)) (putX (sPc S a) (sPc S b)).2.1 ∧ (sPn S = 60 → h1 = hw h V1 ∧ r = -4) ∧ (sPn S < 60 → (∃ V3, h1 = hw h V3 ∧ PPost V1 o (sPn S) (V1 (o + 13)) V3) ∧ r = (sPn S : Int))))) := by
  obtain ⟨d, rfl⟩ : ∃ d1, d = d1 + 1 := ⟨d - 1, by omega⟩
  refine WP.enter (cd := cd_X12_replace) rfl ?_
  have h60 := ok.1
  have okf : smX (sPc S a) := ok.2 a ha
  have okg : smX (sPc S b) := ok.2 b hb
  have hFa : BigR (fun x => V (o + 12) (1331 * a + x)) (sPc S a) := fun x hx => mp.2 a ha x hx
  have hls : largs 0 [aO (some o), aI ((a : Int)), aI ((b : Int))] = [(0, aO (some o)), (1, aI ((a : Int))), (2, aI ((b : Int)))] := rfl
  rw [hls]
  clear hls
  have l71 : ∀ (m : Nat), (m = gtX (sPc S a) 286) → ∀ (fuel : Nat) (e : Nat) (V2 : Nat → Nat → Int) (R P : Nat → Int), (e ≤ m + 1) → (∀ q, (q < o + 13 ∨ o + 16 < q) → V2 q = V q) → (putI (sPc S a) (sPc S b) m e = (true, R, P)) → (BigR (V2 (o + 13)) R) → (BigR (V2 (o + 14)) P) → (smX R) → (smX P) → m + 1 - e < fuel → Wk w d cd_X12_replace 71 [(4, aI ((e : Int))), (3, aI ((m : Int))), (0, aO (some o)), (1, aI ((a : Int))), (2, aI ((b : Int)))] [] (hw h V2) (RI (fun r h1 => ((putX (sPc S a) (sPc S b)).1 = false ∧ r = -4 ∧ ∃ V1, h1 = hw h V1 ∧ ∀ q, (q < o + 13 ∨ o + 16 < q) → V1 q = V q) ∨ ((putX (sPc S a) (sPc S b)).1 = true ∧ ∃ V1, (∀ q, (q < o + 13 ∨ o + 16 < q) → V1 q = V q) ∧ BigR (V1 (o + 13)) (putX (sPc S a) (sPc S b)).2.1 ∧ (sPn S = 60 → h1 = hw h V1 ∧ r = -4) ∧ (sPn S < 60 → (∃ V3, h1 = hw h V3 ∧ PPost V1 o (sPn S) (V1 (o + 13)) V3) ∧ r = (sPn S : Int))))) := by
    intro m em fuel
    induction fuel with
    | zero => intros; omega
    | succ fuel ih71 =>
      intro e V2 R P he hf2 hu hR hP sR sP hfuel
      have hml : m ≤ 10 := by rw [em]; exact gtX_le _ _ (Nat.le_refl _)
      have h60 := ok.1
      have l227 : ∀ (V7 : Nat → Nat → Int), (e < m) → (∀ q, (q < o + 13 ∨ o + 16 < q) → V7 q = V q) → (BigR (V7 (o + 13)) (fun t => R t + mulX (prt (sPc S a) e) P t)) → (BigR (V7 (o + 16)) (mulX P (sPc S b))) → (smX (fun t => R t + mulX (prt (sPc S a) e) P t)) → (smX (mulX P (sPc S b))) → (putG (sPc S a) (sPc S b) m e R P) → ∀ (fuel : Nat) (x : Nat) (V8 : Nat → Nat → Int), (x ≤ 1331) → (∀ q, q ≠ o + 14 → V8 q = V7 q) → (∀ y < x, V8 (o + 14) y = V7 (o + 16) y) → 1331 - x < fuel → Wk w d cd_X12_replace 227 [(5, aI ((x : Int))), (4, aI ((e : Int))), (3, aI ((m : Int))), (0, aO (some o)), (1, aI ((a : Int))), (2, aI ((b : Int)))] [] (hw h V8) (RI (fun r h1 => ((putX (sPc S a) (sPc S b)).1 = false ∧ r = -4 ∧ ∃ V1, h1 = hw h V1 ∧ ∀ q, (q < o + 13 ∨ o + 16 < q) → V1 q = V q) ∨ ((putX (sPc S a) (sPc S b)).1 = true ∧ ∃ V1, (∀ q, (q < o + 13 ∨ o + 16 < q) → V1 q = V q) ∧ BigR (V1 (o + 13)) (putX (sPc S a) (sPc S b)).2.1 ∧ (sPn S = 60 → h1 = hw h V1 ∧ r = -4) ∧ (sPn S < 60 → (∃ V3, h1 = hw h V3 ∧ PPost V1 o (sPn S) (V1 (o + 13)) V3) ∧ r = (sPn S : Int))))) := by
        intro V7 hem2 hfC pW7 pM7 sRN sN hG fuel
        induction fuel with
        | zero => intros; omega
        | succ fuel ih227 =>
          intro x V8 hx hf8 hc8 hfuel
          refine g_iload rfl rfl ?_
          refine g_sipush rfl ?_
          refine g_icmp_ge rfl (fun cq232 => ?_) (fun cq232 => ?_)
          · skip
            refine g_iinc (l1 := [(4, aI ((e : Int) + 1)), (5, aI ((x : Int))), (3, aI ((m : Int))), (0, aO (some o)), (1, aI ((a : Int))), (2, aI ((b : Int)))]) rfl rfl (by omega) (by omega) rfl ?_
            refine g_goto rfl ?_
            refine g_ls [0, 2, 3, 4, 5] rfl rfl ?_
            exact ih71 (e + 1) _ (fun t => R t + mulX (prt (sPc S a) e) P t) (if e < m then mulX P (sPc S b) else P) (by omega) (by first | exact (fun q hq => by rw [hf8 q (by omega), hfC q hq]) | exact hfD) (by first | exact put_step hu hG | exact put_step hu ⟨⟨oM, sM⟩, bt_iff.mp cq185, fun z => absurd z (by omega)⟩) (by first | (rw [hf8 _ (by omega)]; exact pW7) | exact p5) (by first | (rw [if_pos (show e < m by omega)]; exact fun x1 hx1 => by rw [hc8 x1 (by omega)]; exact pM7 x1 hx1) | (rw [if_neg (show ¬ e < m by omega), hf5 _ (by omega)]; exact pP)) (by first | exact sRN | exact bt_iff.mp cq185) (by first | (rw [if_pos (show e < m by omega)]; exact sN) | (rw [if_neg (show ¬ e < m by omega)]; exact sP)) (by omega)
          · skip
            refine g_aload_n rfl rfl ?_
            refine g_getR rfl ms.1 (mr_power ms) ?_
            refine g_iload rfl rfl ?_
            refine g_aload_n rfl rfl ?_
            refine g_getR rfl ms.1 (mr_product ms) ?_
            refine g_iload rfl rfl ?_
            refine g_lald (i := x) rfl (mt_product ms) (by omega) (by omega) ?_
            refine g_top (v2 := aJ (V8 (o + 16) x)) (congrArg aJ (by rfl)) ?_
            refine g_last (i := x) rfl (mt_power ms) (by omega) (by omega) ?_
            refine g_hp (h2 := hw h (vset V8 (o + 14) x (V8 (o + 16) x))) rfl ?_
            refine g_iinc (l1 := [(5, aI ((x : Int) + 1)), (4, aI ((e : Int))), (3, aI ((m : Int))), (0, aO (some o)), (1, aI ((a : Int))), (2, aI ((b : Int)))]) rfl rfl (by omega) (by omega) rfl ?_
            refine g_goto rfl ?_
            exact ih227 (x + 1) _ (by omega) (by exact fun q hq => by funext j; rw [vset_ne _ _ _ _ (by omega), hf8 q hq]) (by exact fun y hy => if z : y = x then by (subst z; rw [vset_eq, hf8 _ (by omega)]) else by (rw [vset_ne _ _ _ _ (by omega)]; exact hc8 y (by omega))) (by omega)
      have l147 : ∀ (V4 : Nat → Nat → Int), (e ≤ m) → (∀ q, (q < o + 13 ∨ o + 16 < q) → V4 q = V q) → (BigR (V4 (o + 13)) R) → (BigR (V4 (o + 14)) P) → (BigR (V4 (o + 16)) (mulX (prt (sPc S a) e) P)) → (okX (prt (sPc S a) e) P) → (smX (mulX (prt (sPc S a) e) P)) → ∀ (fuel : Nat) (x : Nat) (V5 : Nat → Nat → Int), (x ≤ 1331) → (∀ q, q ≠ o + 13 → V5 q = V4 q) → (∀ y < x, V5 (o + 13) y = V4 (o + 13) y + V4 (o + 16) y) → (∀ y, x ≤ y → V5 (o + 13) y = V4 (o + 13) y) → 1331 - x < fuel → Wk w d cd_X12_replace 147 [(5, aI ((x : Int))), (4, aI ((e : Int))), (3, aI ((m : Int))), (0, aO (some o)), (1, aI ((a : Int))), (2, aI ((b : Int)))] [] (hw h V5) (RI (fun r h1 => ((putX (sPc S a) (sPc S b)).1 = false ∧ r = -4 ∧ ∃ V1, h1 = hw h V1 ∧ ∀ q, (q < o + 13 ∨ o + 16 < q) → V1 q = V q) ∨ ((putX (sPc S a) (sPc S b)).1 = true ∧ ∃ V1, (∀ q, (q < o + 13 ∨ o + 16 < q) → V1 q = V q) ∧ BigR (V1 (o + 13)) (putX (sPc S a) (sPc S b)).2.1 ∧ (sPn S = 60 → h1 = hw h V1 ∧ r = -4) ∧ (sPn S < 60 → (∃ V3, h1 = hw h V3 ∧ PPost V1 o (sPn S) (V1 (o + 13)) V3) ∧ r = (sPn S : Int))))) := by
        intro V4 hem hfF pW pP pM oM sM fuel
        induction fuel with
        | zero => intros; omega
        | succ fuel ih147 =>
          intro x V5 hx hf5 ha5 hb5 hfuel
          refine g_iload rfl rfl ?_
          refine g_sipush rfl ?_
          refine g_icmp_ge rfl (fun cq152 => ?_) (fun cq152 => ?_)
          · skip
            have p5 : BigR (V5 (o + 13)) (fun t => R t + mulX (prt (sPc S a) e) P t) := add_big pW pM (fun x1 hx1 => ha5 x1 (by omega))
            have hfD : ∀ q, (q < o + 13 ∨ o + 16 < q) → V5 q = V q := fun q hq => by rw [hf5 q (by omega), hfF q hq]
            refine g_aload_n rfl rfl ?_
            refine g_getR rfl ms.1 (mr_work ms) ?_
            refine g_callSI [aO (some (o + 13))] [] rfl rfl rfl rfl (Nat.le_of_ble_eq_true rfl) (m_pgood (by omega) V5 (o + 13) (mt_work ms)) ?_
            rintro r hx_ ⟨ehx, rfl⟩
            rw [ehx, bt_co p5.sm]
            clear ehx hx_
            refine g_b_ne rfl (fun cq185 => ?_) (fun cq185 => ?_)
            · skip
              refine g_iload rfl rfl ?_
              refine g_iload_n rfl rfl ?_
              refine g_icmp_ge rfl (fun cq194 => ?_) (fun cq194 => ?_)
              · skip
                refine g_iinc (l1 := [(4, aI ((e : Int) + 1)), (5, aI ((x : Int))), (3, aI ((m : Int))), (0, aO (some o)), (1, aI ((a : Int))), (2, aI ((b : Int)))]) rfl rfl (by omega) (by omega) rfl ?_
                refine g_goto rfl ?_
                refine g_ls [0, 2, 3, 4, 5] rfl rfl ?_
                exact ih71 (e + 1) _ (fun t => R t + mulX (prt (sPc S a) e) P t) (if e < m then mulX P (sPc S b) else P) (by omega) (by first | exact (fun q hq => by rw [hf8 q (by omega), hfC q hq]) | exact hfD) (by first | exact put_step hu hG | exact put_step hu ⟨⟨oM, sM⟩, bt_iff.mp cq185, fun z => absurd z (by omega)⟩) (by first | (rw [hf8 _ (by omega)]; exact pW7) | exact p5) (by first | (rw [if_pos (show e < m by omega)]; exact fun x1 hx1 => by rw [hc8 x1 (by omega)]; exact pM7 x1 hx1) | (rw [if_neg (show ¬ e < m by omega), hf5 _ (by omega)]; exact pP)) (by first | exact sRN | exact bt_iff.mp cq185) (by first | (rw [if_pos (show e < m by omega)]; exact sN) | (rw [if_neg (show ¬ e < m by omega)]; exact sP)) (by omega)
              · skip
                refine g_aload_n rfl rfl ?_
                refine g_iload_n rfl rfl ?_
                refine g_aload_n rfl rfl ?_
                refine g_getR rfl ms.1 (mr_piece ms) ?_
                refine g_callVN [aI ((b : Int)), aO (some (o + 15))] [] rfl rfl rfl rfl (Nat.le_of_ble_eq_true rfl) ms.1 (m_pfetch (by omega) ms V5 b (by omega) (o + 15) (mt_piece ms) (by omega)) ?_
                rintro _ ⟨V6, rfl, hf6, hz6⟩
                have p6 : BigR (V6 (o + 15)) (sPc S b) := fun x1 hx1 => by rw [hz6 x1 hx1, hf5 _ (by omega), hfF _ (Or.inl (by omega))]; exact mp.2 b hb x1 hx1
                have p6p : BigR (V6 (o + 14)) P := by rw [hf6 _ (by omega), hf5 _ (by omega)]; exact pP
                refine g_aload_n rfl rfl ?_
                refine g_aload_n rfl rfl ?_
                refine g_getR rfl ms.1 (mr_power ms) ?_
                refine g_aload_n rfl rfl ?_
                refine g_getR rfl ms.1 (mr_piece ms) ?_
                refine g_callVI [aO (some (o + 14)), aO (some (o + 15))] [] rfl rfl rfl rfl (Nat.le_of_ble_eq_true rfl) ms.1 (m_pmul (by omega) ms V6 (o + 14) (o + 15) (mt_power ms) (mt_piece ms) (by omega) (by omega) (p6p.sm.mpr sP) (p6.sm.mpr okg)) ?_
                rintro r _ ⟨V7, rfl, hf7, hq7⟩
                rw [ok_iff p6p p6] at hq7
                refine g_if_ne rfl (fun cq218 => ?_) (fun cq218 => ?_)
                · skip
                  have hm7 := hq7.resolve_left (fun z => by have := z.2; omega)
                  have sN : smX (mulX P (sPc S b)) := (mul_big p6p p6 hm7.1).sm.mp (bt_iff.mp (Decidable.byContradiction fun z => by have h9 := hm7.2.2; rw [if_neg z] at h9; omega))
                  have pM7 : BigR (V7 (o + 16)) (mulX P (sPc S b)) := fun x1 hx1 => by rw [hm7.2.1 x1 hx1]; exact mul_big p6p p6 hm7.1 x1 hx1
                  have pW7 : BigR (V7 (o + 13)) (fun t => R t + mulX (prt (sPc S a) e) P t) := by rw [hf7 _ (by omega), hf6 _ (by omega)]; exact p5
                  have hfC : ∀ q, (q < o + 13 ∨ o + 16 < q) → V7 q = V q := fun q hq => by rw [hf7 q (by omega), hf6 q (by omega), hfD q hq]
                  have hG : putG (sPc S a) (sPc S b) m e R P := ⟨⟨oM, sM⟩, bt_iff.mp cq185, fun _ => ⟨hm7.1, sN⟩⟩
                  refine g_iconst rfl ?_
                  refine g_istore (l1 := [(5, aI 0), (4, aI ((e : Int))), (3, aI ((m : Int))), (0, aO (some o)), (1, aI ((a : Int))), (2, aI ((b : Int)))]) rfl rfl ?_
                  exact l227 V7 (by omega) (by exact hfC) (by exact pW7) (by exact pM7) (by exact bt_iff.mp cq185) (by exact sN) (by exact hG) _ 0 _ (by omega) (by exact fun q _ => rfl) (by exact fun y hy => by omega) (Nat.lt_succ_self _)
                · skip
                  refine g_bipush rfl ?_
                  refine g_iret rfl ?_
                  refine Or.inl ⟨?_, rfl, V7, rfl, fun q hq => by rw [hf7 q (by omega), hf6 q (by omega), hfD q hq]⟩
                  unfold putX
                  rw [← em]
                  refine put_bad (by omega) hu ?_
                  intro z
                  have z1 := z.2.2 (by omega)
                  rcases hq7 with y | y
                  · exact y.1 z1.1
                  · have h9 := y.2.2
                    rw [if_pos (bt_iff.mpr ((mul_big p6p p6 y.1).sm.mpr z1.2))] at h9
                    omega
            · skip
              refine g_bipush rfl ?_
              refine g_iret rfl ?_
              refine Or.inl ⟨?_, rfl, V5, rfl, hfD⟩
              unfold putX
              rw [← em]
              refine put_bad (by omega) hu ?_
              intro z
              exact cq185 (bt_iff.mpr z.2.1)
          · skip
            have b1 := (pW.sm.mpr sR) x (by omega)
            have b2 := (pM.sm.mpr sM) x (by omega)
            have b3 := hb5 x (Nat.le_refl _)
            have b4 : V5 (o + 16) x = V4 (o + 16) x := by rw [hf5 _ (by omega)]
            refine g_aload_n rfl rfl ?_
            refine g_getR rfl ms.1 (mr_work ms) ?_
            refine g_iload rfl rfl ?_
            refine g_dup2 rfl rfl rfl ?_
            refine g_lald (i := x) rfl (mt_work ms) (by omega) (by omega) ?_
            refine g_top (v2 := aJ (V5 (o + 13) x)) (congrArg aJ (by rfl)) ?_
            refine g_aload_n rfl rfl ?_
            refine g_getR rfl ms.1 (mr_product ms) ?_
            refine g_iload rfl rfl ?_
            refine g_lald (i := x) rfl (mt_product ms) (by omega) (by omega) ?_
            refine g_top (v2 := aJ (V5 (o + 16) x)) (congrArg aJ (by rfl)) ?_
            refine g_ladd rfl (by omega) (by omega) ?_
            refine g_last (i := x) rfl (mt_work ms) (by omega) (by omega) ?_
            refine g_hp (h2 := hw h (vset V5 (o + 13) x ((V5 (o + 13) x) + (V5 (o + 16) x)))) rfl ?_
            refine g_iinc (l1 := [(5, aI ((x : Int) + 1)), (4, aI ((e : Int))), (3, aI ((m : Int))), (0, aO (some o)), (1, aI ((a : Int))), (2, aI ((b : Int)))]) rfl rfl (by omega) (by omega) rfl ?_
            refine g_goto rfl ?_
            exact ih147 (x + 1) _ (by omega) (by exact fun q hq => by funext j; rw [vset_ne _ _ _ _ (by omega), hf5 q hq]) (by exact fun y hy => if z : y = x then by (subst z; rw [vset_eq, hb5 _ (Nat.le_refl _), hf5 _ (by omega)]) else by (rw [vset_ne _ _ _ _ (by omega)]; exact ha5 y (by omega))) (by exact fun y hy => by rw [vset_ne _ _ _ _ (by omega)]; exact hb5 y (by omega)) (by omega)
      have l87 : (e ≤ m) → ∀ (fuel : Nat) (k : Nat) (V3 : Nat → Nat → Int), (k ≤ 121) → (∀ q, q ≠ o + 15 → V3 q = V2 q) → (∀ x < k, V3 (o + 15) x = V (o + 12) (1331 * a + (121 * e + x))) → (∀ x, k ≤ x → x < 1331 → V3 (o + 15) x = 0) → 121 - k < fuel → Wk w d cd_X12_replace 87 [(5, aI ((k : Int))), (4, aI ((e : Int))), (3, aI ((m : Int))), (0, aO (some o)), (1, aI ((a : Int))), (2, aI ((b : Int)))] [] (hw h V3) (RI (fun r h1 => ((putX (sPc S a) (sPc S b)).1 = false ∧ r = -4 ∧ ∃ V1, h1 = hw h V1 ∧ ∀ q, (q < o + 13 ∨ o + 16 < q) → V1 q = V q) ∨ ((putX (sPc S a) (sPc S b)).1 = true ∧ ∃ V1, (∀ q, (q < o + 13 ∨ o + 16 < q) → V1 q = V q) ∧ BigR (V1 (o + 13)) (putX (sPc S a) (sPc S b)).2.1 ∧ (sPn S = 60 → h1 = hw h V1 ∧ r = -4) ∧ (sPn S < 60 → (∃ V3, h1 = hw h V3 ∧ PPost V1 o (sPn S) (V1 (o + 13)) V3) ∧ r = (sPn S : Int))))) := by
        intro hem fuel
        induction fuel with
        | zero => intros; omega
        | succ fuel ih87 =>
          intro k V3 hk hfp hc hz3 hfuel
          refine g_iload rfl rfl ?_
          refine g_bipush rfl ?_
          refine g_icmp_ge rfl (fun cq91 => ?_) (fun cq91 => ?_)
          · skip
            have hk121 : k = 121 := by omega
            have p1 : BigR (V3 (o + 15)) (prt (sPc S a) e) := prt_big (by omega) hFa (fun x1 hx1 => hc x1 (by omega)) (fun x1 h1 hx1 => hz3 x1 (by omega) hx1)
            have p2 : BigR (V3 (o + 14)) P := by rw [hfp _ (by omega)]; exact hP
            refine g_aload_n rfl rfl ?_
            refine g_aload_n rfl rfl ?_
            refine g_getR rfl ms.1 (mr_piece ms) ?_
            refine g_aload_n rfl rfl ?_
            refine g_getR rfl ms.1 (mr_power ms) ?_
            refine g_callVI [aO (some (o + 15)), aO (some (o + 14))] [] rfl rfl rfl rfl (Nat.le_of_ble_eq_true rfl) ms.1 (m_pmul (by omega) ms V3 (o + 15) (o + 14) (mt_piece ms) (mt_power ms) (by omega) (by omega) (p1.sm.mpr (prt_sm okf e)) (p2.sm.mpr sP)) ?_
            rintro r _ ⟨V4, rfl, hf4, hq4⟩
            rw [ok_iff p1 p2] at hq4
            refine g_if_ne rfl (fun cq138 => ?_) (fun cq138 => ?_)
            · skip
              have hm4 := hq4.resolve_left (fun z => by have := z.2; omega)
              have sM : smX (mulX (prt (sPc S a) e) P) := (mul_big p1 p2 hm4.1).sm.mp (bt_iff.mp (Decidable.byContradiction fun z => by have h9 := hm4.2.2; rw [if_neg z] at h9; omega))
              have pM : BigR (V4 (o + 16)) (mulX (prt (sPc S a) e) P) := fun x1 hx1 => by rw [hm4.2.1 x1 hx1]; exact mul_big p1 p2 hm4.1 x1 hx1
              have pW : BigR (V4 (o + 13)) R := by rw [hf4 _ (by omega), hfp _ (by omega)]; exact hR
              have pP : BigR (V4 (o + 14)) P := by rw [hf4 _ (by omega)]; exact p2
              have hfF : ∀ q, (q < o + 13 ∨ o + 16 < q) → V4 q = V q := fun q hq => by rw [hf4 q (by omega), hfp q (by omega), hf2 q hq]
              refine g_iconst rfl ?_
              refine g_istore (l1 := [(5, aI 0), (4, aI ((e : Int))), (3, aI ((m : Int))), (0, aO (some o)), (1, aI ((a : Int))), (2, aI ((b : Int)))]) rfl rfl ?_
              exact l147 V4 (by omega) (by exact hfF) (by exact pW) (by exact pP) (by exact pM) (by exact hm4.1) (by exact sM) _ 0 _ (by omega) (by exact fun q _ => rfl) (by exact fun y hy => by omega) (by exact fun y _ => rfl) (Nat.lt_succ_self _)
            · skip
              refine g_bipush rfl ?_
              refine g_iret rfl ?_
              refine Or.inl ⟨?_, rfl, V4, rfl, fun q hq => by rw [hf4 q (by omega), hfp q (by omega), hf2 q hq]⟩
              unfold putX
              rw [← em]
              refine put_bad (by omega) hu ?_
              intro z
              rcases hq4 with y | y
              · exact y.1 z.1.1
              · have h9 := y.2.2
                rw [if_pos (bt_iff.mpr ((mul_big p1 p2 y.1).sm.mpr z.1.2))] at h9
                omega
          · skip
            refine g_aload_n rfl rfl ?_
            refine g_getR rfl ms.1 (mr_piece ms) ?_
            refine g_iload rfl rfl ?_
            refine g_aload_n rfl rfl ?_
            refine g_getR rfl ms.1 (mr_coefs ms) ?_
            refine g_sipush rfl ?_
            refine g_iload_n rfl rfl ?_
            refine g_imul rfl (by omega) (by omega) ?_
            refine g_bipush rfl ?_
            refine g_iload rfl rfl ?_
            refine g_imul rfl (by omega) (by omega) ?_
            refine g_iadd rfl (by omega) (by omega) ?_
            refine g_iload rfl rfl ?_
            refine g_iadd rfl (by omega) (by omega) ?_
            refine g_lald (i := 1331 * a + (121 * e + k)) rfl (mt_coefs ms) (by omega) (by omega) ?_
            refine g_top (v2 := aJ (V3 (o + 12) (1331 * a + (121 * e + k)))) (congrArg aJ (by rfl)) ?_
            refine g_last (i := k) rfl (mt_piece ms) (by omega) (by omega) ?_
            refine g_hp (h2 := hw h (vset V3 (o + 15) k (V3 (o + 12) (1331 * a + (121 * e + k))))) rfl ?_
            refine g_iinc (l1 := [(5, aI ((k : Int) + 1)), (4, aI ((e : Int))), (3, aI ((m : Int))), (0, aO (some o)), (1, aI ((a : Int))), (2, aI ((b : Int)))]) rfl rfl (by omega) (by omega) rfl ?_
            refine g_goto rfl ?_
            exact ih87 (k + 1) _ (by omega) (by exact fun q hq => by funext j; rw [vset_ne _ _ _ _ (by omega), hfp q hq]) (by exact fun x hx => if z : x = k then by (subst z; rw [vset_eq, hfp _ (by omega), hf2 _ (Or.inl (by omega))]) else by (rw [vset_ne _ _ _ _ (by omega)]; exact hc x (by omega))) (by exact fun x h1 hx => by rw [vset_ne _ _ _ _ (by omega)]; exact hz3 x (by omega) hx) (by omega)
      refine g_iload rfl rfl ?_
      refine g_iload_n rfl rfl ?_
      refine g_icmp_gt rfl (fun cq74 => ?_) (fun cq74 => ?_)
      · skip
        refine g_aload_n rfl rfl ?_
        refine g_aload_n rfl rfl ?_
        refine g_getR rfl ms.1 (mr_work ms) ?_
        refine g_callVI [aO (some (o + 13))] [] rfl rfl rfl rfl (Nat.le_of_ble_eq_true rfl) ms.1 (m_keepPoly (by omega) ms V2 (sPn S) (by rw [hf2 o (Or.inl (by omega))]; exact mp.1) ok.1 (o + 13) (mt_work ms) (by omega)) ?_
        rintro r h2 hkp
        refine g_iret rfl ?_
        have eX : putX (sPc S a) (sPc S b) = (true, R, P) := by
          unfold putX
          rw [← em, show m + 1 = e by omega]
          exact hu
        refine Or.inr ?_
        rw [eX]
        exact ⟨rfl, V2, hf2, hR, hkp⟩
      · skip
        refine g_aload_n rfl rfl ?_
        refine g_getR rfl ms.1 (mr_piece ms) ?_
        refine g_callSN [aO (some (o + 15))] [] rfl rfl rfl rfl (Nat.le_of_ble_eq_true rfl) (m_empty (by omega) V2 (o + 15) (mt_piece ms)) ?_
        rintro _ ⟨VP, rfl, hfP, hzP⟩
        refine g_iconst rfl ?_
        refine g_istore (l1 := [(5, aI 0), (4, aI ((e : Int))), (3, aI ((m : Int))), (0, aO (some o)), (1, aI ((a : Int))), (2, aI ((b : Int)))]) rfl rfl ?_
        exact l87 (by omega) _ 0 _ (by omega) (by exact fun q hq => hfP q hq) (by exact fun x hx => by omega) (by exact fun x h1 hx => hzP x hx) (Nat.lt_succ_self _)
  have l5 : ∀ (fuel : Nat) (i : Nat) (gr : Int), (i ≤ 1331) → (gr = (mstM (fun x => V (o + 12) (1331 * a + x)) i : Nat)) → 1331 - i < fuel → Wk w d cd_X12_replace 5 [(4, aI ((i : Int))), (3, aI gr), (0, aO (some o)), (1, aI ((a : Int))), (2, aI ((b : Int)))] [] (hw h V) (RI (fun r h1 => ((putX (sPc S a) (sPc S b)).1 = false ∧ r = -4 ∧ ∃ V1, h1 = hw h V1 ∧ ∀ q, (q < o + 13 ∨ o + 16 < q) → V1 q = V q) ∨ ((putX (sPc S a) (sPc S b)).1 = true ∧ ∃ V1, (∀ q, (q < o + 13 ∨ o + 16 < q) → V1 q = V q) ∧ BigR (V1 (o + 13)) (putX (sPc S a) (sPc S b)).2.1 ∧ (sPn S = 60 → h1 = hw h V1 ∧ r = -4) ∧ (sPn S < 60 → (∃ V3, h1 = hw h V3 ∧ PPost V1 o (sPn S) (V1 (o + 13)) V3) ∧ r = (sPn S : Int))))) := by
    intro fuel
    induction fuel with
    | zero => intros; omega
    | succ fuel ih5 =>
      intro i gr hi hg hfuel
      refine g_iload rfl rfl ?_
      refine g_sipush rfl ?_
      refine g_icmp_ge rfl (fun cq10 => ?_) (fun cq10 => ?_)
      · skip
        obtain ⟨m, em⟩ : ∃ m : Nat, m = gtX (sPc S a) 286 := ⟨_, rfl⟩
        obtain rfl : gr = (m : Int) := by rw [hg, em, ← mst_gt hFa, show i = 1331 by omega]
        refine g_aload_n rfl rfl ?_
        refine g_getR rfl ms.1 (mr_work ms) ?_
        refine g_callSN [aO (some (o + 13))] [] rfl rfl rfl rfl (Nat.le_of_ble_eq_true rfl) (m_empty (by omega) V (o + 13) (mt_work ms)) ?_
        rintro _ ⟨VA, rfl, hfA, hzA⟩
        refine g_aload_n rfl rfl ?_
        refine g_getR rfl ms.1 (mr_power ms) ?_
        refine g_callSN [aO (some (o + 14))] [] rfl rfl rfl rfl (Nat.le_of_ble_eq_true rfl) (m_empty (by omega) VA (o + 14) (mt_power ms)) ?_
        rintro _ ⟨VB, rfl, hfB, hzB⟩
        refine g_aload_n rfl rfl ?_
        refine g_getR rfl ms.1 (mr_power ms) ?_
        refine g_iconst rfl ?_
        refine g_lconst1 rfl ?_
        refine g_last (i := 0) rfl (mt_power ms) (by omega) (by omega) ?_
        refine g_hp (h2 := hw h (vset VB (o + 14) 0 1)) rfl ?_
        refine g_iconst rfl ?_
        refine g_istore (l1 := [(4, aI 0), (3, aI ((m : Int))), (0, aO (some o)), (1, aI ((a : Int))), (2, aI ((b : Int)))]) rfl rfl ?_
        exact l71 m (by exact em) _ 0 _ (fun _ => 0) onX (by omega) (by exact fun q hq => by funext j; rw [vset_ne _ _ _ _ (by omega), hfB q (by omega), hfA q (by omega)]) (by rfl) (by exact none_big (fun x hx => by rw [vset_ne _ _ _ _ (by omega), hfB _ (by omega)]; exact hzA x hx)) (by exact on_big (vset_eq _ _ _ _) (fun x z hx => by rw [vset_ne _ _ _ _ (by omega)]; exact hzB x hx)) (by exact sm_none) (by exact on_sm) (Nat.lt_succ_self _)
      · skip
        refine g_aload_n rfl rfl ?_
        refine g_getR rfl ms.1 (mr_coefs ms) ?_
        refine g_sipush rfl ?_
        refine g_iload_n rfl rfl ?_
        refine g_imul rfl (by omega) (by omega) ?_
        refine g_iload rfl rfl ?_
        refine g_iadd rfl (by omega) (by omega) ?_
        refine g_lald (i := 1331 * a + i) rfl (mt_coefs ms) (by omega) (by omega) ?_
        refine g_top (v2 := aJ (V (o + 12) (1331 * a + i))) (congrArg aJ (by rfl)) ?_
        refine g_lconst0 rfl ?_
        refine g_lc_eq rfl rfl (fun cq27 => ?_) (fun cq27 => ?_)
        · skip
          refine g_iload_n rfl rfl ?_
          refine g_istore_n (l1 := [(3, aI gr), (4, aI ((i : Int))), (0, aO (some o)), (1, aI ((a : Int))), (2, aI ((b : Int)))]) rfl rfl ?_
          refine g_iinc (l1 := [(4, aI ((i : Int) + 1)), (3, aI gr), (0, aO (some o)), (1, aI ((a : Int))), (2, aI ((b : Int)))]) rfl rfl (by omega) (by omega) rfl ?_
          refine g_goto rfl ?_
          exact ih5 (i + 1) _ (by omega) (by show _ = ((if V (o + 12) (1331 * a + i) = 0 then mstM (fun x => V (o + 12) (1331 * a + x)) i else i / 121 : Nat) : Int); first | (rw [if_pos (by omega)]; exact hg) | (rw [if_neg (by omega)]; done) | (rw [if_neg (by omega)]; rfl)) (by omega)
        · skip
          refine g_iload rfl rfl ?_
          refine g_bipush rfl ?_
          refine g_idivN (m := 121) (n := i) rfl (by omega) (by omega) ?_
          refine g_goto rfl ?_
          refine g_istore_n (l1 := [(3, aI (((i / 121 : Nat) : Int))), (4, aI ((i : Int))), (0, aO (some o)), (1, aI ((a : Int))), (2, aI ((b : Int)))]) rfl rfl ?_
          refine g_iinc (l1 := [(4, aI ((i : Int) + 1)), (3, aI (((i / 121 : Nat) : Int))), (0, aO (some o)), (1, aI ((a : Int))), (2, aI ((b : Int)))]) rfl rfl (by omega) (by omega) rfl ?_
          refine g_goto rfl ?_
          exact ih5 (i + 1) _ (by omega) (by show _ = ((if V (o + 12) (1331 * a + i) = 0 then mstM (fun x => V (o + 12) (1331 * a + x)) i else i / 121 : Nat) : Int); first | (rw [if_pos (by omega)]; exact hg) | (rw [if_neg (by omega)]; done) | (rw [if_neg (by omega)]; rfl)) (by omega)
  refine g_iconst rfl ?_
  refine g_istore_n (l1 := [(3, aI 0), (0, aO (some o)), (1, aI ((a : Int))), (2, aI ((b : Int)))]) rfl rfl ?_
  refine g_iconst rfl ?_
  refine g_istore (l1 := [(4, aI 0), (3, aI 0), (0, aO (some o)), (1, aI ((a : Int))), (2, aI ((b : Int)))]) rfl rfl ?_
  exact l5 _ 0 _ (by omega) (by rfl) (Nat.lt_succ_self _)
