/-! the reference's combine: printed by wip/whole/lc_.py -/
theorem sub_big {G W M R Q : Nat → Int} (hW : BigR W R) (hM : BigR M Q) (h : ∀ x < 1331, G x = W x - M x) : BigR G (fun t => R t - Q t) := by
  intro x hx
  rw [h x hx, hW x hx, hM x hx]
  show _ = if pG x then R (pK x) - Q (pK x) else 0
  unfold big
  by_cases g : pG x
  · rw [if_pos g, if_pos g, if_pos g]
  · rw [if_neg g, if_neg g, if_neg g]
    rfl
theorem der_big {F f G : Nat → Int} (hF : BigR F f) (h1 : ∀ x < 1210, G x = F (x + 121) * (((x + 121) / 121 : Nat) : Int)) (h2 : ∀ x, 1210 ≤ x → x < 1331 → G x = 0) : BigR G (der f) := by
  intro x hx
  show G x = if pG x then der f (pK x) else 0
  have key : x < 1210 → F (x + 121) = if x / 121 + 1 + x / 11 % 11 + x % 11 ≤ 10 then f (pI (x / 121 + 1) (x / 11 % 11) (x % 11)) else 0 := fun z => by
    rw [← big_at (f := f) (i := x / 121 + 1) (j := x / 11 % 11) (k := x % 11) (by omega) (by omega) (by omega), show 121 * (x / 121 + 1) + 11 * (x / 11 % 11) + x % 11 = x + 121 by omega]
    exact hF _ (by omega)
  by_cases g : pG x
  · rw [if_pos g]
    unfold der
    rw [pD_K g, pE_K g]
    dsimp only
    by_cases y : x / 121 + x / 11 % 11 + x % 11 ≤ 9
    · rw [if_pos y, h1 x (by omega), key (by omega), if_pos (by omega), show (x + 121) / 121 = x / 121 + 1 by omega]
    · rw [if_neg y]
      by_cases z : x < 1210
      · rw [h1 x z, key z, if_neg (by omega), Int.zero_mul]
      · exact h2 x (by omega) hx
  · rw [if_neg g]
    have g : ¬ x / 121 + x / 11 % 11 + x % 11 ≤ 10 := g
    by_cases z : x < 1210
    · rw [h1 x z, key z, if_neg (by omega), Int.zero_mul]
    · exact h2 x (by omega) hx
/-- what a new polynomial may change -/
def FPp (V V1 : Nat → Nat → Int) (o : Nat) : Prop := (∀ q, q ≠ o → (q < o + 12 ∨ o + 16 < q) → V1 q = V q) ∧ (∀ f, f ≠ 17 → f ≠ 31 → V1 o f = V o f) ∧ V1 o 31 = 0
theorem FPp_of {V V3 V4 : Nat → Nat → Int} {o : Nat} (h3 : ∀ q, (q < o + 13 ∨ o + 16 < q) → V3 q = vset V o 31 0 q) (h4 : ∀ q, q ≠ o → q ≠ o + 12 → V4 q = V3 q) (h5 : ∀ f, f ≠ 17 → V4 o f = V3 o f) : FPp V V4 o :=
  ⟨fun q a b => by
    rw [h4 q a (by omega), h3 q (by omega)]
    funext z
    exact vset_ne _ _ _ _ (by omega), fun f a b => by
    rw [h5 f a, h3 o (by omega)]
    exact vset_ne _ _ _ _ (by omega), by
    rw [h5 31 (by omega), h3 o (by omega)]
    exact vset_eq _ _ _ _⟩
theorem MP_keep {h h1 : aH} {V1 : Nat → Nat → Int} {o row : Nat} {S : aS} {R : Nat → Int} {r : Int} (mp : MP V1 o S) (hn : sPn S ≤ 60) (hb : BigR (V1 row) R) (q : (sPn S = 60 → h1 = hw h V1 ∧ r = -4) ∧ (sPn S < 60 → (∃ V3, h1 = hw h V3 ∧ PPost V1 o (sPn S) (V1 row) V3) ∧ r = (sPn S : Int))) : ∃ V3, h1 = hw h V3 ∧ (∀ q, q ≠ o → q ≠ o + 12 → V3 q = V1 q) ∧ (∀ f, f ≠ 17 → V3 o f = V1 o f) ∧ r = (keepPo S R).1 ∧ MP V3 o (keepPo S R).2 := by
  unfold keepPo
  by_cases z : sPn S < 60
  · obtain ⟨⟨V3, e3, p1, p2, p3, p4, p5⟩, er⟩ := q.2 z
    rw [if_pos z]
    refine ⟨V3, e3, p1, p2, er, ?_, fun a ha x hx => ?_⟩
    · rw [p3]
      show _ = ((sPn S + 1 : Nat) : Int)
      omega
    · have ha : a < sPn S + 1 := ha
      show _ = big (if a = sPn S then R else sPc S a) x
      by_cases y : a = sPn S
      · rw [if_pos y, y, p4 x hx]
        exact hb x hx
      · rw [if_neg y, p5 _ (by omega)]
        exact mp.2 a (by omega) x hx
  · rw [if_neg z]
    obtain ⟨e3, er⟩ := q.1 (by omega)
    exact ⟨V1, e3, fun _ _ _ => rfl, fun _ _ => rfl, er, mp⟩
set_option maxRecDepth 100000 in
theorem m_cmb0 {w : aW} {d : Nat} (hd : 25 ≤ d) {h : aH} {o : Nat} (ms : MS h o) (V : Nat → Nat → Int) {S : aS} (mp : MP V o S) (ok : OkP S) (a : Nat) (ha : a < sPn S) (b : Nat) (hb : b < sPn S) : WP w d 359 [aO (some o), aI 0, aI ((a : Int)), aI ((b : Int))] (hw h V) (RI (fun r h1 => ∃ V1, h1 = hw h V1 ∧ FPp V V1 o ∧ r = (match cmbX S 0 a b with | none => (-4, S) | some row => keepPo S row).1 ∧ MP V1 o (match cmbX S 0 a b with | none => (-4, S) | some row => keepPo S row).2)) := by
  obtain ⟨d, rfl⟩ : ∃ d1, d = d1 + 1 := ⟨d - 1, by omega⟩
  refine WP.enter (cd := cd_X12_combine) rfl ?_
  have h60 := ok.1
  have okf : smX (sPc S a) := ok.2 a ha
  have okg : smX (sPc S b) := ok.2 b hb
  have hls : largs 0 [aO (some o), aI 0, aI ((a : Int)), aI ((b : Int))] = [(0, aO (some o)), (1, aI 0), (2, aI ((a : Int))), (3, aI ((b : Int)))] := rfl
  rw [hls]
  clear hls
  have l87 : ∀ (V2 : Nat → Nat → Int), (∀ q, (q < o + 13 ∨ o + 16 < q) → V2 q = vset V o 31 0 q) → (BigR (V2 (o + 13)) (sPc S a)) → (BigR (V2 (o + 15)) (sPc S b)) → ∀ (fuel : Nat) (x : Nat) (V3 : Nat → Nat → Int), (x ≤ 1331) → (∀ q, q ≠ o + 13 → V3 q = V2 q) → (∀ y < x, V3 (o + 13) y = V2 (o + 13) y + V2 (o + 15) y) → (∀ y, x ≤ y → V3 (o + 13) y = V2 (o + 13) y) → 1331 - x < fuel → Wk w d cd_X12_combine 87 [(4, aI ((x : Int))), (0, aO (some o)), (1, aI 0), (2, aI ((a : Int))), (3, aI ((b : Int)))] [] (hw h V3) (RI (fun r h1 => ∃ V1, h1 = hw h V1 ∧ FPp V V1 o ∧ r = (match cmbX S 0 a b with | none => (-4, S) | some row => keepPo S row).1 ∧ MP V1 o (match cmbX S 0 a b with | none => (-4, S) | some row => keepPo S row).2)) := by
    intro V2 hF2 p1 p2 fuel
    induction fuel with
    | zero => intros; omega
    | succ fuel ih87 =>
      intro x V3 hx hf3 ha3 hb3 hfuel
      refine g_iload rfl rfl ?_
      refine g_sipush rfl ?_
      refine g_icmp_ge rfl (fun cq92 => ?_) (fun cq92 => ?_)
      · skip
        have hF3 : ∀ q, (q < o + 13 ∨ o + 16 < q) → V3 q = vset V o 31 0 q := fun q hq => by rw [hf3 q (by omega), hF2 q hq]
        have mp3 : MP V3 o S := (mp.own 0).fr (by rw [hF3 o (by omega)]) (hF3 _ (by omega))
        have pB : BigR (V3 (o + 13)) (fun t => sPc S a t + sPc S b t) := add_big p1 p2 (fun x1 hx1 => ha3 x1 (by omega))
        refine g_aload_n rfl rfl ?_
        refine g_getR rfl ms.1 (mr_work ms) ?_
        refine g_callSI [aO (some (o + 13))] [] rfl rfl rfl rfl (Nat.le_of_ble_eq_true rfl) (m_pgood (by omega) V3 (o + 13) (mt_work ms)) ?_
        rintro r hx_ ⟨ehx, rfl⟩
        rw [ehx, bt_co pB.sm]
        clear ehx hx_
        refine g_b_eq rfl (fun cq152 => ?_) (fun cq152 => ?_)
        · skip
          have eX : cmbX S 0 a b = none := if_neg cq152
          refine g_bipush rfl ?_
          refine g_iret rfl ?_
          first
            | (obtain ⟨V4, e4, h4, h5, er, hm⟩ := MP_keep mp3 ok.1 pB q; have eM : (match cmbX S 0 a b with | none => (-4, S) | some row => keepPo S row) = keepPo S (fun t => sPc S a t + sPc S b t) := by rw [eX]
               rw [eM]; exact ⟨V4, e4, FPp_of hF3 h4 h5, er, hm⟩)
            | (have eM : (match cmbX S 0 a b with | none => (-4, S) | some row => keepPo S row) = (-4, S) := by rw [eX]
               rw [eM]; exact ⟨V3, rfl, FPp_of hF3 (fun _ _ _ => rfl) (fun _ _ => rfl), rfl, mp3⟩)
        · skip
          have eX : cmbX S 0 a b = some (fun t => sPc S a t + sPc S b t) := if_pos cq152
          refine g_aload_n rfl rfl ?_
          refine g_aload_n rfl rfl ?_
          refine g_getR rfl ms.1 (mr_work ms) ?_
          refine g_callVI [aO (some (o + 13))] [] rfl rfl rfl rfl (Nat.le_of_ble_eq_true rfl) ms.1 (m_keepPoly (by omega) ms V3 (sPn S) mp3.1 ok.1 (o + 13) (mt_work ms) (by omega)) ?_
          rintro r h2 q
          refine g_goto rfl ?_
          refine g_iret rfl ?_
          first
            | (obtain ⟨V4, e4, h4, h5, er, hm⟩ := MP_keep mp3 ok.1 pB q; have eM : (match cmbX S 0 a b with | none => (-4, S) | some row => keepPo S row) = keepPo S (fun t => sPc S a t + sPc S b t) := by rw [eX]
               rw [eM]; exact ⟨V4, e4, FPp_of hF3 h4 h5, er, hm⟩)
            | (have eM : (match cmbX S 0 a b with | none => (-4, S) | some row => keepPo S row) = (-4, S) := by rw [eX]
               rw [eM]; exact ⟨V3, rfl, FPp_of hF3 (fun _ _ _ => rfl) (fun _ _ => rfl), rfl, mp3⟩)
      · skip
        have b1 := (p1.sm.mpr okf) x (by omega)
        have b2 := (p2.sm.mpr okg) x (by omega)
        have b3 := hb3 x (Nat.le_refl _)
        have b4 : V3 (o + 15) x = V2 (o + 15) x := by rw [hf3 _ (by omega)]
        refine g_aload_n rfl rfl ?_
        refine g_getR rfl ms.1 (mr_work ms) ?_
        refine g_iload rfl rfl ?_
        refine g_iload_n rfl rfl ?_
        refine g_if_ne_f rfl (by omega) ?_
        refine g_aload_n rfl rfl ?_
        refine g_getR rfl ms.1 (mr_work ms) ?_
        refine g_iload rfl rfl ?_
        refine g_lald (i := x) rfl (mt_work ms) (by omega) (by omega) ?_
        refine g_top (v2 := aJ (V3 (o + 13) x)) (congrArg aJ (by rfl)) ?_
        refine g_aload_n rfl rfl ?_
        refine g_getR rfl ms.1 (mr_piece ms) ?_
        refine g_iload rfl rfl ?_
        refine g_lald (i := x) rfl (mt_piece ms) (by omega) (by omega) ?_
        refine g_top (v2 := aJ (V3 (o + 15) x)) (congrArg aJ (by rfl)) ?_
        refine g_ladd rfl (by omega) (by omega) ?_
        refine g_goto rfl ?_
        refine g_last (i := x) rfl (mt_work ms) (by omega) (by omega) ?_
        refine g_hp (h2 := hw h (vset V3 (o + 13) x ((V3 (o + 13) x) + (V3 (o + 15) x)))) rfl ?_
        refine g_iinc (l1 := [(4, aI ((x : Int) + 1)), (0, aO (some o)), (1, aI 0), (2, aI ((a : Int))), (3, aI ((b : Int)))]) rfl rfl (by omega) (by omega) rfl ?_
        refine g_goto rfl ?_
        exact ih87 (x + 1) _ (by omega) (by exact fun q hq => by funext j; rw [vset_ne _ _ _ _ (by omega), hf3 q hq]) (by exact fun y hy => if z : y = x then by (subst z; rw [vset_eq, hb3 _ (Nat.le_refl _), hf3 _ (by omega)]) else by (rw [vset_ne _ _ _ _ (by omega)]; exact ha3 y (by omega))) (by exact fun y hy => by rw [vset_ne _ _ _ _ (by omega)]; exact hb3 y (by omega)) (by omega)
  refine g_aload_n rfl rfl ?_
  refine g_iconst rfl ?_
  refine g_putI rfl ms.1 ?_
  refine g_hp (h2 := hw h (vset V o 31 0)) rfl ?_
  refine g_iload_n rfl rfl ?_
  refine g_i2l rfl ?_
  refine g_lconst0 rfl ?_
  refine g_ldc2 rfl ?_
  refine g_callSI [aJ 0, aJ 0, aJ 4] [] rfl rfl rfl rfl (Nat.le_of_ble_eq_true rfl) (c_in (by omega) _ _ _ _) ?_
  rintro rI hI ⟨ehI, rfl⟩
  rw [ehI, if_pos (by omega)]
  clear ehI hI
  refine g_if_eq_f rfl (by omega) ?_
  refine g_aload_n rfl rfl ?_
  refine g_iload_n rfl rfl ?_
  refine g_callVI [aI ((a : Int))] [] rfl rfl rfl rfl (Nat.le_of_ble_eq_true rfl) ms.1 (m_pIsP (by omega) ms ((vset V o 31 0)) (mp.own 0) ok ((a : Int))) ?_
  rintro r hx ⟨ehx, rfl⟩
  rw [ehx, if_pos (by omega)]
  clear ehx hx
  refine g_if_eq_f rfl (by omega) ?_
  refine g_aload_n rfl rfl ?_
  refine g_iload_n rfl rfl ?_
  refine g_callVI [aI ((b : Int))] [] rfl rfl rfl rfl (Nat.le_of_ble_eq_true rfl) ms.1 (m_pIsP (by omega) ms ((vset V o 31 0)) (mp.own 0) ok ((b : Int))) ?_
  rintro r hx ⟨ehx, rfl⟩
  rw [ehx, if_pos (by omega)]
  clear ehx hx
  refine g_if_ne_t rfl (by omega) ?_
  refine g_aload_n rfl rfl ?_
  refine g_iload_n rfl rfl ?_
  refine g_aload_n rfl rfl ?_
  refine g_getR rfl ms.1 (mr_work ms) ?_
  refine g_callVN [aI ((a : Int)), aO (some (o + 13))] [] rfl rfl rfl rfl (Nat.le_of_ble_eq_true rfl) ms.1 (m_pfetch (by omega) ms (vset V o 31 0) a (by omega) (o + 13) (mt_work ms) (by omega)) ?_
  rintro _ ⟨V1, rfl, hf1, hz1⟩
  have p1a : BigR (V1 (o + 13)) (sPc S a) := fun x1 hx1 => by rw [hz1 x1 hx1]; exact (mp.own 0).2 a ha x1 hx1
  refine g_aload_n rfl rfl ?_
  refine g_iload_n rfl rfl ?_
  refine g_aload_n rfl rfl ?_
  refine g_getR rfl ms.1 (mr_piece ms) ?_
  refine g_callVN [aI ((b : Int)), aO (some (o + 15))] [] rfl rfl rfl rfl (Nat.le_of_ble_eq_true rfl) ms.1 (m_pfetch (by omega) ms V1 b (by omega) (o + 15) (mt_piece ms) (by omega)) ?_
  rintro _ ⟨V2, rfl, hf2, hz2⟩
  have p2 : BigR (V2 (o + 15)) (sPc S b) := fun x1 hx1 => by rw [hz2 x1 hx1, hf1 _ (by omega)]; exact (mp.own 0).2 b hb x1 hx1
  have p1 : BigR (V2 (o + 13)) (sPc S a) := by rw [hf2 _ (by omega)]; exact p1a
  have hF2 : ∀ q, (q < o + 13 ∨ o + 16 < q) → V2 q = vset V o 31 0 q := fun q hq => by rw [hf2 q (by omega), hf1 q (by omega)]
  refine g_iload_n rfl rfl ?_
  refine g_tsw (t := 84) rfl (by rfl) ?_
  refine g_iconst rfl ?_
  refine g_istore (l1 := [(4, aI 0), (0, aO (some o)), (1, aI 0), (2, aI ((a : Int))), (3, aI ((b : Int)))]) rfl rfl ?_
  exact l87 V2 (by exact hF2) (by exact p1) (by exact p2) _ 0 _ (by omega) (by exact fun q _ => rfl) (by exact fun y hy => by omega) (by exact fun y _ => rfl) (Nat.lt_succ_self _)
set_option maxRecDepth 100000 in
theorem m_cmb1 {w : aW} {d : Nat} (hd : 25 ≤ d) {h : aH} {o : Nat} (ms : MS h o) (V : Nat → Nat → Int) {S : aS} (mp : MP V o S) (ok : OkP S) (a : Nat) (ha : a < sPn S) (b : Nat) (hb : b < sPn S) : WP w d 359 [aO (some o), aI 1, aI ((a : Int)), aI ((b : Int))] (hw h V) (RI (fun r h1 => ∃ V1, h1 = hw h V1 ∧ FPp V V1 o ∧ r = (match cmbX S 1 a b with | none => (-4, S) | some row => keepPo S row).1 ∧ MP V1 o (match cmbX S 1 a b with | none => (-4, S) | some row => keepPo S row).2)) := by
  obtain ⟨d, rfl⟩ : ∃ d1, d = d1 + 1 := ⟨d - 1, by omega⟩
  refine WP.enter (cd := cd_X12_combine) rfl ?_
  have h60 := ok.1
  have okf : smX (sPc S a) := ok.2 a ha
  have okg : smX (sPc S b) := ok.2 b hb
  have hls : largs 0 [aO (some o), aI 1, aI ((a : Int)), aI ((b : Int))] = [(0, aO (some o)), (1, aI 1), (2, aI ((a : Int))), (3, aI ((b : Int)))] := rfl
  rw [hls]
  clear hls
  have l87 : ∀ (V2 : Nat → Nat → Int), (∀ q, (q < o + 13 ∨ o + 16 < q) → V2 q = vset V o 31 0 q) → (BigR (V2 (o + 13)) (sPc S a)) → (BigR (V2 (o + 15)) (sPc S b)) → ∀ (fuel : Nat) (x : Nat) (V3 : Nat → Nat → Int), (x ≤ 1331) → (∀ q, q ≠ o + 13 → V3 q = V2 q) → (∀ y < x, V3 (o + 13) y = V2 (o + 13) y - V2 (o + 15) y) → (∀ y, x ≤ y → V3 (o + 13) y = V2 (o + 13) y) → 1331 - x < fuel → Wk w d cd_X12_combine 87 [(4, aI ((x : Int))), (0, aO (some o)), (1, aI 1), (2, aI ((a : Int))), (3, aI ((b : Int)))] [] (hw h V3) (RI (fun r h1 => ∃ V1, h1 = hw h V1 ∧ FPp V V1 o ∧ r = (match cmbX S 1 a b with | none => (-4, S) | some row => keepPo S row).1 ∧ MP V1 o (match cmbX S 1 a b with | none => (-4, S) | some row => keepPo S row).2)) := by
    intro V2 hF2 p1 p2 fuel
    induction fuel with
    | zero => intros; omega
    | succ fuel ih87 =>
      intro x V3 hx hf3 ha3 hb3 hfuel
      refine g_iload rfl rfl ?_
      refine g_sipush rfl ?_
      refine g_icmp_ge rfl (fun cq92 => ?_) (fun cq92 => ?_)
      · skip
        have hF3 : ∀ q, (q < o + 13 ∨ o + 16 < q) → V3 q = vset V o 31 0 q := fun q hq => by rw [hf3 q (by omega), hF2 q hq]
        have mp3 : MP V3 o S := (mp.own 0).fr (by rw [hF3 o (by omega)]) (hF3 _ (by omega))
        have pB : BigR (V3 (o + 13)) (fun t => sPc S a t - sPc S b t) := sub_big p1 p2 (fun x1 hx1 => ha3 x1 (by omega))
        refine g_aload_n rfl rfl ?_
        refine g_getR rfl ms.1 (mr_work ms) ?_
        refine g_callSI [aO (some (o + 13))] [] rfl rfl rfl rfl (Nat.le_of_ble_eq_true rfl) (m_pgood (by omega) V3 (o + 13) (mt_work ms)) ?_
        rintro r hx_ ⟨ehx, rfl⟩
        rw [ehx, bt_co pB.sm]
        clear ehx hx_
        refine g_b_eq rfl (fun cq152 => ?_) (fun cq152 => ?_)
        · skip
          have eX : cmbX S 1 a b = none := if_neg cq152
          refine g_bipush rfl ?_
          refine g_iret rfl ?_
          first
            | (obtain ⟨V4, e4, h4, h5, er, hm⟩ := MP_keep mp3 ok.1 pB q; have eM : (match cmbX S 1 a b with | none => (-4, S) | some row => keepPo S row) = keepPo S (fun t => sPc S a t - sPc S b t) := by rw [eX]
               rw [eM]; exact ⟨V4, e4, FPp_of hF3 h4 h5, er, hm⟩)
            | (have eM : (match cmbX S 1 a b with | none => (-4, S) | some row => keepPo S row) = (-4, S) := by rw [eX]
               rw [eM]; exact ⟨V3, rfl, FPp_of hF3 (fun _ _ _ => rfl) (fun _ _ => rfl), rfl, mp3⟩)
        · skip
          have eX : cmbX S 1 a b = some (fun t => sPc S a t - sPc S b t) := if_pos cq152
          refine g_aload_n rfl rfl ?_
          refine g_aload_n rfl rfl ?_
          refine g_getR rfl ms.1 (mr_work ms) ?_
          refine g_callVI [aO (some (o + 13))] [] rfl rfl rfl rfl (Nat.le_of_ble_eq_true rfl) ms.1 (m_keepPoly (by omega) ms V3 (sPn S) mp3.1 ok.1 (o + 13) (mt_work ms) (by omega)) ?_
          rintro r h2 q
          refine g_goto rfl ?_
          refine g_iret rfl ?_
          first
            | (obtain ⟨V4, e4, h4, h5, er, hm⟩ := MP_keep mp3 ok.1 pB q; have eM : (match cmbX S 1 a b with | none => (-4, S) | some row => keepPo S row) = keepPo S (fun t => sPc S a t - sPc S b t) := by rw [eX]
               rw [eM]; exact ⟨V4, e4, FPp_of hF3 h4 h5, er, hm⟩)
            | (have eM : (match cmbX S 1 a b with | none => (-4, S) | some row => keepPo S row) = (-4, S) := by rw [eX]
               rw [eM]; exact ⟨V3, rfl, FPp_of hF3 (fun _ _ _ => rfl) (fun _ _ => rfl), rfl, mp3⟩)
      · skip
        have b1 := (p1.sm.mpr okf) x (by omega)
        have b2 := (p2.sm.mpr okg) x (by omega)
        have b3 := hb3 x (Nat.le_refl _)
        have b4 : V3 (o + 15) x = V2 (o + 15) x := by rw [hf3 _ (by omega)]
        refine g_aload_n rfl rfl ?_
        refine g_getR rfl ms.1 (mr_work ms) ?_
        refine g_iload rfl rfl ?_
        refine g_iload_n rfl rfl ?_
        refine g_if_ne_t rfl (by omega) ?_
        refine g_aload_n rfl rfl ?_
        refine g_getR rfl ms.1 (mr_work ms) ?_
        refine g_iload rfl rfl ?_
        refine g_lald (i := x) rfl (mt_work ms) (by omega) (by omega) ?_
        refine g_top (v2 := aJ (V3 (o + 13) x)) (congrArg aJ (by rfl)) ?_
        refine g_aload_n rfl rfl ?_
        refine g_getR rfl ms.1 (mr_piece ms) ?_
        refine g_iload rfl rfl ?_
        refine g_lald (i := x) rfl (mt_piece ms) (by omega) (by omega) ?_
        refine g_top (v2 := aJ (V3 (o + 15) x)) (congrArg aJ (by rfl)) ?_
        refine g_lsub rfl (by omega) (by omega) ?_
        refine g_last (i := x) rfl (mt_work ms) (by omega) (by omega) ?_
        refine g_hp (h2 := hw h (vset V3 (o + 13) x ((V3 (o + 13) x) - (V3 (o + 15) x)))) rfl ?_
        refine g_iinc (l1 := [(4, aI ((x : Int) + 1)), (0, aO (some o)), (1, aI 1), (2, aI ((a : Int))), (3, aI ((b : Int)))]) rfl rfl (by omega) (by omega) rfl ?_
        refine g_goto rfl ?_
        exact ih87 (x + 1) _ (by omega) (by exact fun q hq => by funext j; rw [vset_ne _ _ _ _ (by omega), hf3 q hq]) (by exact fun y hy => if z : y = x then by (subst z; rw [vset_eq, hb3 _ (Nat.le_refl _), hf3 _ (by omega)]) else by (rw [vset_ne _ _ _ _ (by omega)]; exact ha3 y (by omega))) (by exact fun y hy => by rw [vset_ne _ _ _ _ (by omega)]; exact hb3 y (by omega)) (by omega)
  refine g_aload_n rfl rfl ?_
  refine g_iconst rfl ?_
  refine g_putI rfl ms.1 ?_
  refine g_hp (h2 := hw h (vset V o 31 0)) rfl ?_
  refine g_iload_n rfl rfl ?_
  refine g_i2l rfl ?_
  refine g_lconst0 rfl ?_
  refine g_ldc2 rfl ?_
  refine g_callSI [aJ 1, aJ 0, aJ 4] [] rfl rfl rfl rfl (Nat.le_of_ble_eq_true rfl) (c_in (by omega) _ _ _ _) ?_
  rintro rI hI ⟨ehI, rfl⟩
  rw [ehI, if_pos (by omega)]
  clear ehI hI
  refine g_if_eq_f rfl (by omega) ?_
  refine g_aload_n rfl rfl ?_
  refine g_iload_n rfl rfl ?_
  refine g_callVI [aI ((a : Int))] [] rfl rfl rfl rfl (Nat.le_of_ble_eq_true rfl) ms.1 (m_pIsP (by omega) ms ((vset V o 31 0)) (mp.own 0) ok ((a : Int))) ?_
  rintro r hx ⟨ehx, rfl⟩
  rw [ehx, if_pos (by omega)]
  clear ehx hx
  refine g_if_eq_f rfl (by omega) ?_
  refine g_aload_n rfl rfl ?_
  refine g_iload_n rfl rfl ?_
  refine g_callVI [aI ((b : Int))] [] rfl rfl rfl rfl (Nat.le_of_ble_eq_true rfl) ms.1 (m_pIsP (by omega) ms ((vset V o 31 0)) (mp.own 0) ok ((b : Int))) ?_
  rintro r hx ⟨ehx, rfl⟩
  rw [ehx, if_pos (by omega)]
  clear ehx hx
  refine g_if_ne_t rfl (by omega) ?_
  refine g_aload_n rfl rfl ?_
  refine g_iload_n rfl rfl ?_
  refine g_aload_n rfl rfl ?_
  refine g_getR rfl ms.1 (mr_work ms) ?_
  refine g_callVN [aI ((a : Int)), aO (some (o + 13))] [] rfl rfl rfl rfl (Nat.le_of_ble_eq_true rfl) ms.1 (m_pfetch (by omega) ms (vset V o 31 0) a (by omega) (o + 13) (mt_work ms) (by omega)) ?_
  rintro _ ⟨V1, rfl, hf1, hz1⟩
  have p1a : BigR (V1 (o + 13)) (sPc S a) := fun x1 hx1 => by rw [hz1 x1 hx1]; exact (mp.own 0).2 a ha x1 hx1
  refine g_aload_n rfl rfl ?_
  refine g_iload_n rfl rfl ?_
  refine g_aload_n rfl rfl ?_
  refine g_getR rfl ms.1 (mr_piece ms) ?_
  refine g_callVN [aI ((b : Int)), aO (some (o + 15))] [] rfl rfl rfl rfl (Nat.le_of_ble_eq_true rfl) ms.1 (m_pfetch (by omega) ms V1 b (by omega) (o + 15) (mt_piece ms) (by omega)) ?_
  rintro _ ⟨V2, rfl, hf2, hz2⟩
  have p2 : BigR (V2 (o + 15)) (sPc S b) := fun x1 hx1 => by rw [hz2 x1 hx1, hf1 _ (by omega)]; exact (mp.own 0).2 b hb x1 hx1
  have p1 : BigR (V2 (o + 13)) (sPc S a) := by rw [hf2 _ (by omega)]; exact p1a
  have hF2 : ∀ q, (q < o + 13 ∨ o + 16 < q) → V2 q = vset V o 31 0 q := fun q hq => by rw [hf2 q (by omega), hf1 q (by omega)]
  refine g_iload_n rfl rfl ?_
  refine g_tsw (t := 84) rfl (by rfl) ?_
  refine g_iconst rfl ?_
  refine g_istore (l1 := [(4, aI 0), (0, aO (some o)), (1, aI 1), (2, aI ((a : Int))), (3, aI ((b : Int)))]) rfl rfl ?_
  exact l87 V2 (by exact hF2) (by exact p1) (by exact p2) _ 0 _ (by omega) (by exact fun q _ => rfl) (by exact fun y hy => by omega) (by exact fun y _ => rfl) (Nat.lt_succ_self _)
set_option maxRecDepth 100000 in
theorem m_cmb2 {w : aW} {d : Nat} (hd : 25 ≤ d) {h : aH} {o : Nat} (ms : MS h o) (V : Nat → Nat → Int) {S : aS} (mp : MP V o S) (ok : OkP S) (a : Nat) (ha : a < sPn S) (b : Nat) (hb : b < sPn S) : WP w d 359 [aO (some o), aI 2, aI ((a : Int)), aI ((b : Int))] (hw h V) (RI (fun r h1 => ∃ V1, h1 = hw h V1 ∧ FPp V V1 o ∧ r = (match cmbX S 2 a b with | none => (-4, S) | some row => keepPo S row).1 ∧ MP V1 o (match cmbX S 2 a b with | none => (-4, S) | some row => keepPo S row).2)) := by
  obtain ⟨d, rfl⟩ : ∃ d1, d = d1 + 1 := ⟨d - 1, by omega⟩
  refine WP.enter (cd := cd_X12_combine) rfl ?_
  have h60 := ok.1
  have okf : smX (sPc S a) := ok.2 a ha
  have okg : smX (sPc S b) := ok.2 b hb
  have hls : largs 0 [aO (some o), aI 2, aI ((a : Int)), aI ((b : Int))] = [(0, aO (some o)), (1, aI 2), (2, aI ((a : Int))), (3, aI ((b : Int)))] := rfl
  rw [hls]
  clear hls
  refine g_aload_n rfl rfl ?_
  refine g_iconst rfl ?_
  refine g_putI rfl ms.1 ?_
  refine g_hp (h2 := hw h (vset V o 31 0)) rfl ?_
  refine g_iload_n rfl rfl ?_
  refine g_i2l rfl ?_
  refine g_lconst0 rfl ?_
  refine g_ldc2 rfl ?_
  refine g_callSI [aJ 2, aJ 0, aJ 4] [] rfl rfl rfl rfl (Nat.le_of_ble_eq_true rfl) (c_in (by omega) _ _ _ _) ?_
  rintro rI hI ⟨ehI, rfl⟩
  rw [ehI, if_pos (by omega)]
  clear ehI hI
  refine g_if_eq_f rfl (by omega) ?_
  refine g_aload_n rfl rfl ?_
  refine g_iload_n rfl rfl ?_
  refine g_callVI [aI ((a : Int))] [] rfl rfl rfl rfl (Nat.le_of_ble_eq_true rfl) ms.1 (m_pIsP (by omega) ms ((vset V o 31 0)) (mp.own 0) ok ((a : Int))) ?_
  rintro r hx ⟨ehx, rfl⟩
  rw [ehx, if_pos (by omega)]
  clear ehx hx
  refine g_if_eq_f rfl (by omega) ?_
  refine g_aload_n rfl rfl ?_
  refine g_iload_n rfl rfl ?_
  refine g_callVI [aI ((b : Int))] [] rfl rfl rfl rfl (Nat.le_of_ble_eq_true rfl) ms.1 (m_pIsP (by omega) ms ((vset V o 31 0)) (mp.own 0) ok ((b : Int))) ?_
  rintro r hx ⟨ehx, rfl⟩
  rw [ehx, if_pos (by omega)]
  clear ehx hx
  refine g_if_ne_t rfl (by omega) ?_
  refine g_aload_n rfl rfl ?_
  refine g_iload_n rfl rfl ?_
  refine g_aload_n rfl rfl ?_
  refine g_getR rfl ms.1 (mr_work ms) ?_
  refine g_callVN [aI ((a : Int)), aO (some (o + 13))] [] rfl rfl rfl rfl (Nat.le_of_ble_eq_true rfl) ms.1 (m_pfetch (by omega) ms (vset V o 31 0) a (by omega) (o + 13) (mt_work ms) (by omega)) ?_
  rintro _ ⟨V1, rfl, hf1, hz1⟩
  have p1a : BigR (V1 (o + 13)) (sPc S a) := fun x1 hx1 => by rw [hz1 x1 hx1]; exact (mp.own 0).2 a ha x1 hx1
  refine g_aload_n rfl rfl ?_
  refine g_iload_n rfl rfl ?_
  refine g_aload_n rfl rfl ?_
  refine g_getR rfl ms.1 (mr_piece ms) ?_
  refine g_callVN [aI ((b : Int)), aO (some (o + 15))] [] rfl rfl rfl rfl (Nat.le_of_ble_eq_true rfl) ms.1 (m_pfetch (by omega) ms V1 b (by omega) (o + 15) (mt_piece ms) (by omega)) ?_
  rintro _ ⟨V2, rfl, hf2, hz2⟩
  have p2 : BigR (V2 (o + 15)) (sPc S b) := fun x1 hx1 => by rw [hz2 x1 hx1, hf1 _ (by omega)]; exact (mp.own 0).2 b hb x1 hx1
  have p1 : BigR (V2 (o + 13)) (sPc S a) := by rw [hf2 _ (by omega)]; exact p1a
  have hF2 : ∀ q, (q < o + 13 ∨ o + 16 < q) → V2 q = vset V o 31 0 q := fun q hq => by rw [hf2 q (by omega), hf1 q (by omega)]
  refine g_iload_n rfl rfl ?_
  refine g_tsw (t := 169) rfl (by rfl) ?_
  refine g_aload_n rfl rfl ?_
  refine g_aload_n rfl rfl ?_
  refine g_getR rfl ms.1 (mr_work ms) ?_
  refine g_aload_n rfl rfl ?_
  refine g_getR rfl ms.1 (mr_piece ms) ?_
  refine g_callVI [aO (some (o + 13)), aO (some (o + 15))] [] rfl rfl rfl rfl (Nat.le_of_ble_eq_true rfl) ms.1 (m_pmul (by omega) ms V2 (o + 13) (o + 15) (mt_work ms) (mt_piece ms) (by omega) (by omega) (p1.sm.mpr okf) (p2.sm.mpr okg)) ?_
  rintro r _ ⟨V3, rfl, hf3, hq3⟩
  rw [ok_iff p1 p2] at hq3
  have hF3 : ∀ q, (q < o + 13 ∨ o + 16 < q) → V3 q = vset V o 31 0 q := fun q hq => by rw [hf3 q (by omega), hF2 q hq]
  have mp3 : MP V3 o S := (mp.own 0).fr (by rw [hF3 o (by omega)]) (hF3 _ (by omega))
  refine g_if_eq rfl (fun cq181 => ?_) (fun cq181 => ?_)
  · skip
    have hN : ¬ bt (okX (sPc S a) (sPc S b) ∧ smX (mulX (sPc S a) (sPc S b))) = true := (fun z => by
      have z := bt_iff.mp z
      rcases hq3 with y | y
      · exact y.1 z.1
      · have h9 := y.2.2
        rw [if_pos (bt_iff.mpr ((mul_big p1 p2 y.1).sm.mpr z.2))] at h9
        omega)
    have eX : cmbX S 2 a b = none := if_neg hN
    refine g_bipush rfl ?_
    refine g_iret rfl ?_
    first
      | (obtain ⟨V4, e4, h4, h5, er, hm⟩ := MP_keep mp3 ok.1 pB q; have eM : (match cmbX S 2 a b with | none => (-4, S) | some row => keepPo S row) = keepPo S (mulX (sPc S a) (sPc S b)) := by rw [eX]
         rw [eM]; exact ⟨V4, e4, FPp_of hF3 h4 h5, er, hm⟩)
      | (have eM : (match cmbX S 2 a b with | none => (-4, S) | some row => keepPo S row) = (-4, S) := by rw [eX]
         rw [eM]; exact ⟨V3, rfl, FPp_of hF3 (fun _ _ _ => rfl) (fun _ _ => rfl), rfl, mp3⟩)
  · skip
    have hm := hq3.resolve_left (fun z => by have := z.2; omega)
    have sM : smX (mulX (sPc S a) (sPc S b)) := (mul_big p1 p2 hm.1).sm.mp (bt_iff.mp (Decidable.byContradiction fun z => by have h9 := hm.2.2; rw [if_neg z] at h9; omega))
    have pB : BigR (V3 (o + 16)) (mulX (sPc S a) (sPc S b)) := fun x1 hx1 => by rw [hm.2.1 x1 hx1]; exact mul_big p1 p2 hm.1 x1 hx1
    have eX : cmbX S 2 a b = some (mulX (sPc S a) (sPc S b)) := if_pos (bt_iff.mpr ⟨hm.1, sM⟩)
    refine g_aload_n rfl rfl ?_
    refine g_aload_n rfl rfl ?_
    refine g_getR rfl ms.1 (mr_product ms) ?_
    refine g_callVI [aO (some (o + 16))] [] rfl rfl rfl rfl (Nat.le_of_ble_eq_true rfl) ms.1 (m_keepPoly (by omega) ms V3 (sPn S) mp3.1 ok.1 (o + 16) (mt_product ms) (by omega)) ?_
    rintro r h2 q
    refine g_goto rfl ?_
    refine g_iret rfl ?_
    first
      | (obtain ⟨V4, e4, h4, h5, er, hm⟩ := MP_keep mp3 ok.1 pB q; have eM : (match cmbX S 2 a b with | none => (-4, S) | some row => keepPo S row) = keepPo S (mulX (sPc S a) (sPc S b)) := by rw [eX]
         rw [eM]; exact ⟨V4, e4, FPp_of hF3 h4 h5, er, hm⟩)
      | (have eM : (match cmbX S 2 a b with | none => (-4, S) | some row => keepPo S row) = (-4, S) := by rw [eX]
         rw [eM]; exact ⟨V3, rfl, FPp_of hF3 (fun _ _ _ => rfl) (fun _ _ => rfl), rfl, mp3⟩)
set_option maxRecDepth 100000 in
theorem m_cmb3 {w : aW} {d : Nat} (hd : 25 ≤ d) {h : aH} {o : Nat} (ms : MS h o) (V : Nat → Nat → Int) {S : aS} (mp : MP V o S) (ok : OkP S) (a : Nat) (ha : a < sPn S) (b : Nat) (hb : b < sPn S) : WP w d 359 [aO (some o), aI 3, aI ((a : Int)), aI ((b : Int))] (hw h V) (RI (fun r h1 => ∃ V1, h1 = hw h V1 ∧ FPp V V1 o ∧ r = (match cmbX S 3 a b with | none => (-4, S) | some row => keepPo S row).1 ∧ MP V1 o (match cmbX S 3 a b with | none => (-4, S) | some row => keepPo S row).2)) := by
  obtain ⟨d, rfl⟩ : ∃ d1, d = d1 + 1 := ⟨d - 1, by omega⟩
  refine WP.enter (cd := cd_X12_combine) rfl ?_
  have h60 := ok.1
  have okf : smX (sPc S a) := ok.2 a ha
  have okg : smX (sPc S b) := ok.2 b hb
  have hls : largs 0 [aO (some o), aI 3, aI ((a : Int)), aI ((b : Int))] = [(0, aO (some o)), (1, aI 3), (2, aI ((a : Int))), (3, aI ((b : Int)))] := rfl
  rw [hls]
  clear hls
  refine g_aload_n rfl rfl ?_
  refine g_iconst rfl ?_
  refine g_putI rfl ms.1 ?_
  refine g_hp (h2 := hw h (vset V o 31 0)) rfl ?_
  refine g_iload_n rfl rfl ?_
  refine g_i2l rfl ?_
  refine g_lconst0 rfl ?_
  refine g_ldc2 rfl ?_
  refine g_callSI [aJ 3, aJ 0, aJ 4] [] rfl rfl rfl rfl (Nat.le_of_ble_eq_true rfl) (c_in (by omega) _ _ _ _) ?_
  rintro rI hI ⟨ehI, rfl⟩
  rw [ehI, if_pos (by omega)]
  clear ehI hI
  refine g_if_eq_f rfl (by omega) ?_
  refine g_aload_n rfl rfl ?_
  refine g_iload_n rfl rfl ?_
  refine g_callVI [aI ((a : Int))] [] rfl rfl rfl rfl (Nat.le_of_ble_eq_true rfl) ms.1 (m_pIsP (by omega) ms ((vset V o 31 0)) (mp.own 0) ok ((a : Int))) ?_
  rintro r hx ⟨ehx, rfl⟩
  rw [ehx, if_pos (by omega)]
  clear ehx hx
  refine g_if_eq_f rfl (by omega) ?_
  refine g_aload_n rfl rfl ?_
  refine g_iload_n rfl rfl ?_
  refine g_callVI [aI ((b : Int))] [] rfl rfl rfl rfl (Nat.le_of_ble_eq_true rfl) ms.1 (m_pIsP (by omega) ms ((vset V o 31 0)) (mp.own 0) ok ((b : Int))) ?_
  rintro r hx ⟨ehx, rfl⟩
  rw [ehx, if_pos (by omega)]
  clear ehx hx
  refine g_if_ne_t rfl (by omega) ?_
  refine g_aload_n rfl rfl ?_
  refine g_iload_n rfl rfl ?_
  refine g_aload_n rfl rfl ?_
  refine g_getR rfl ms.1 (mr_work ms) ?_
  refine g_callVN [aI ((a : Int)), aO (some (o + 13))] [] rfl rfl rfl rfl (Nat.le_of_ble_eq_true rfl) ms.1 (m_pfetch (by omega) ms (vset V o 31 0) a (by omega) (o + 13) (mt_work ms) (by omega)) ?_
  rintro _ ⟨V1, rfl, hf1, hz1⟩
  have p1a : BigR (V1 (o + 13)) (sPc S a) := fun x1 hx1 => by rw [hz1 x1 hx1]; exact (mp.own 0).2 a ha x1 hx1
  refine g_aload_n rfl rfl ?_
  refine g_iload_n rfl rfl ?_
  refine g_aload_n rfl rfl ?_
  refine g_getR rfl ms.1 (mr_piece ms) ?_
  refine g_callVN [aI ((b : Int)), aO (some (o + 15))] [] rfl rfl rfl rfl (Nat.le_of_ble_eq_true rfl) ms.1 (m_pfetch (by omega) ms V1 b (by omega) (o + 15) (mt_piece ms) (by omega)) ?_
  rintro _ ⟨V2, rfl, hf2, hz2⟩
  have p2 : BigR (V2 (o + 15)) (sPc S b) := fun x1 hx1 => by rw [hz2 x1 hx1, hf1 _ (by omega)]; exact (mp.own 0).2 b hb x1 hx1
  have p1 : BigR (V2 (o + 13)) (sPc S a) := by rw [hf2 _ (by omega)]; exact p1a
  have hF2 : ∀ q, (q < o + 13 ∨ o + 16 < q) → V2 q = vset V o 31 0 q := fun q hq => by rw [hf2 q (by omega), hf1 q (by omega)]
  refine g_iload_n rfl rfl ?_
  refine g_tsw (t := 198) rfl (by rfl) ?_
  have mp2 : MP V2 o S := (mp.own 0).fr (by rw [hF2 o (by omega)]) (hF2 _ (by omega))
  refine g_aload_n rfl rfl ?_
  refine g_iload_n rfl rfl ?_
  refine g_iload_n rfl rfl ?_
  refine g_callVI [aI ((a : Int)), aI ((b : Int))] [] rfl rfl rfl rfl (Nat.le_of_ble_eq_true rfl) ms.1 (m_repl (by omega) ms V2 mp2 ok a ha b hb) ?_
  rintro r h2 hq
  refine g_iret rfl ?_
  rcases hq with ⟨q1, rfl, V3, rfl, q3⟩ | ⟨q1, V3, q3, pB, q⟩
  · have hN : ¬ (putX (sPc S a) (sPc S b)).1 = true := by rw [q1]; decide
    have eX : cmbX S 3 a b = none := if_neg hN
    have hF3 : ∀ q, (q < o + 13 ∨ o + 16 < q) → V3 q = vset V o 31 0 q := fun q hq => by rw [q3 q hq, hF2 q hq]
    have mp3 : MP V3 o S := (mp.own 0).fr (by rw [hF3 o (by omega)]) (hF3 _ (by omega))
    have eM : (match cmbX S 3 a b with | none => (-4, S) | some row => keepPo S row) = (-4, S) := by rw [eX]
    rw [eM]
    exact ⟨V3, rfl, FPp_of hF3 (fun _ _ _ => rfl) (fun _ _ => rfl), rfl, mp3⟩
  · have eX : cmbX S 3 a b = some (putX (sPc S a) (sPc S b)).2.1 := if_pos q1
    have hF3 : ∀ q, (q < o + 13 ∨ o + 16 < q) → V3 q = vset V o 31 0 q := fun q hq => by rw [q3 q hq, hF2 q hq]
    have mp3 : MP V3 o S := (mp.own 0).fr (by rw [hF3 o (by omega)]) (hF3 _ (by omega))
    obtain ⟨V4, e4, h4, h5, er, hm⟩ := MP_keep mp3 ok.1 pB q
    have eM : (match cmbX S 3 a b with | none => (-4, S) | some row => keepPo S row) = keepPo S (putX (sPc S a) (sPc S b)).2.1 := by rw [eX]
    rw [eM]
    exact ⟨V4, e4, FPp_of hF3 h4 h5, er, hm⟩
set_option maxRecDepth 100000 in
theorem m_cmb4 {w : aW} {d : Nat} (hd : 25 ≤ d) {h : aH} {o : Nat} (ms : MS h o) (V : Nat → Nat → Int) {S : aS} (mp : MP V o S) (ok : OkP S) (a : Nat) (ha : a < sPn S) (b : Nat) (hb : b < sPn S) : WP w d 359 [aO (some o), aI 4, aI ((a : Int)), aI ((b : Int))] (hw h V) (RI (fun r h1 => ∃ V1, h1 = hw h V1 ∧ FPp V V1 o ∧ r = (match cmbX S 4 a b with | none => (-4, S) | some row => keepPo S row).1 ∧ MP V1 o (match cmbX S 4 a b with | none => (-4, S) | some row => keepPo S row).2)) := by
  obtain ⟨d, rfl⟩ : ∃ d1, d = d1 + 1 := ⟨d - 1, by omega⟩
  refine WP.enter (cd := cd_X12_combine) rfl ?_
  have h60 := ok.1
  have okf : smX (sPc S a) := ok.2 a ha
  have okg : smX (sPc S b) := ok.2 b hb
  have hls : largs 0 [aO (some o), aI 4, aI ((a : Int)), aI ((b : Int))] = [(0, aO (some o)), (1, aI 4), (2, aI ((a : Int))), (3, aI ((b : Int)))] := rfl
  rw [hls]
  clear hls
  have l216 : ∀ (V2 : Nat → Nat → Int), (∀ q, (q < o + 13 ∨ o + 16 < q) → V2 q = vset V o 31 0 q) → (BigR (V2 (o + 13)) (sPc S a)) → ∀ (fuel : Nat) (x : Nat) (V3 : Nat → Nat → Int), (x ≤ 1210) → (∀ q, q ≠ o + 15 → V3 q = V2 q) → (∀ y < x, V3 (o + 15) y = V2 (o + 13) (y + 121) * (((y + 121) / 121 : Nat) : Int)) → (∀ y, x ≤ y → y < 1331 → V3 (o + 15) y = 0) → 1210 - x < fuel → Wk w d cd_X12_combine 216 [(4, aI ((x + 121 : Int))), (0, aO (some o)), (1, aI 4), (2, aI ((a : Int))), (3, aI ((b : Int)))] [] (hw h V3) (RI (fun r h1 => ∃ V1, h1 = hw h V1 ∧ FPp V V1 o ∧ r = (match cmbX S 4 a b with | none => (-4, S) | some row => keepPo S row).1 ∧ MP V1 o (match cmbX S 4 a b with | none => (-4, S) | some row => keepPo S row).2)) := by
    intro V2 hF2 p1 fuel
    induction fuel with
    | zero => intros; omega
    | succ fuel ih216 =>
      intro x V3 hx hf3 hc3 hz3 hfuel
      refine g_iload rfl rfl ?_
      refine g_sipush rfl ?_
      refine g_icmp_ge rfl (fun cq221 => ?_) (fun cq221 => ?_)
      · skip
        have hF3 : ∀ q, (q < o + 13 ∨ o + 16 < q) → V3 q = vset V o 31 0 q := fun q hq => by rw [hf3 q (by omega), hF2 q hq]
        have mp3 : MP V3 o S := (mp.own 0).fr (by rw [hF3 o (by omega)]) (hF3 _ (by omega))
        have pB : BigR (V3 (o + 15)) (der (sPc S a)) := der_big p1 (fun x1 hx1 => hc3 x1 (by omega)) (fun x1 h1 hx1 => hz3 x1 (by omega) hx1)
        refine g_aload_n rfl rfl ?_
        refine g_getR rfl ms.1 (mr_piece ms) ?_
        refine g_callSI [aO (some (o + 15))] [] rfl rfl rfl rfl (Nat.le_of_ble_eq_true rfl) (m_pgood (by omega) V3 (o + 15) (mt_piece ms)) ?_
        rintro r hx_ ⟨ehx, rfl⟩
        rw [ehx, bt_co pB.sm]
        clear ehx hx_
        refine g_b_eq rfl (fun cq261 => ?_) (fun cq261 => ?_)
        · skip
          have eX : cmbX S 4 a b = none := if_neg cq261
          refine g_bipush rfl ?_
          refine g_iret rfl ?_
          first
            | (obtain ⟨V4, e4, h4, h5, er, hm⟩ := MP_keep mp3 ok.1 pB q; have eM : (match cmbX S 4 a b with | none => (-4, S) | some row => keepPo S row) = keepPo S (der (sPc S a)) := by rw [eX]
               rw [eM]; exact ⟨V4, e4, FPp_of hF3 h4 h5, er, hm⟩)
            | (have eM : (match cmbX S 4 a b with | none => (-4, S) | some row => keepPo S row) = (-4, S) := by rw [eX]
               rw [eM]; exact ⟨V3, rfl, FPp_of hF3 (fun _ _ _ => rfl) (fun _ _ => rfl), rfl, mp3⟩)
        · skip
          have eX : cmbX S 4 a b = some (der (sPc S a)) := if_pos cq261
          refine g_aload_n rfl rfl ?_
          refine g_aload_n rfl rfl ?_
          refine g_getR rfl ms.1 (mr_piece ms) ?_
          refine g_callVI [aO (some (o + 15))] [] rfl rfl rfl rfl (Nat.le_of_ble_eq_true rfl) ms.1 (m_keepPoly (by omega) ms V3 (sPn S) mp3.1 ok.1 (o + 15) (mt_piece ms) (by omega)) ?_
          rintro r h2 q
          refine g_goto rfl ?_
          refine g_iret rfl ?_
          first
            | (obtain ⟨V4, e4, h4, h5, er, hm⟩ := MP_keep mp3 ok.1 pB q; have eM : (match cmbX S 4 a b with | none => (-4, S) | some row => keepPo S row) = keepPo S (der (sPc S a)) := by rw [eX]
               rw [eM]; exact ⟨V4, e4, FPp_of hF3 h4 h5, er, hm⟩)
            | (have eM : (match cmbX S 4 a b with | none => (-4, S) | some row => keepPo S row) = (-4, S) := by rw [eX]
               rw [eM]; exact ⟨V3, rfl, FPp_of hF3 (fun _ _ _ => rfl) (fun _ _ => rfl), rfl, mp3⟩)
      · skip
        have b1 := (p1.sm.mpr okf) (x + 121) (by omega)
        have b2 : V3 (o + 13) (x + 121) = V2 (o + 13) (x + 121) := by rw [hf3 _ (by omega)]
        have m1 := mulq (a := 67108864) (b := 11) (x := V3 (o + 13) (x + 121)) (y := (((x + 121) / 121 : Nat) : Int)) (by omega) (by omega)
        refine g_aload_n rfl rfl ?_
        refine g_getR rfl ms.1 (mr_piece ms) ?_
        refine g_iload rfl rfl ?_
        refine g_bipush rfl ?_
        refine g_isub rfl (by omega) (by omega) ?_
        refine g_aload_n rfl rfl ?_
        refine g_getR rfl ms.1 (mr_work ms) ?_
        refine g_iload rfl rfl ?_
        refine g_lald (i := x + 121) rfl (mt_work ms) (by omega) (by omega) ?_
        refine g_top (v2 := aJ (V3 (o + 13) (x + 121))) (congrArg aJ (by rfl)) ?_
        refine g_iload rfl rfl ?_
        refine g_bipush rfl ?_
        refine g_idivN (m := 121) (n := (x + 121)) rfl (by omega) (by omega) ?_
        refine g_i2l rfl ?_
        refine g_lmul rfl (by omega) (by omega) ?_
        refine g_last (i := x) rfl (mt_piece ms) (by omega) (by omega) ?_
        refine g_hp (h2 := hw h (vset V3 (o + 15) x ((V3 (o + 13) (x + 121)) * ((((x + 121) / 121 : Nat) : Int))))) rfl ?_
        refine g_iinc (l1 := [(4, aI ((x + 121 : Int) + 1)), (0, aO (some o)), (1, aI 4), (2, aI ((a : Int))), (3, aI ((b : Int)))]) rfl rfl (by omega) (by omega) rfl ?_
        rw [show ((x + 121 : Int) + 1 : Int) = (x + 1 + 121 : Int) by omega]
        refine g_goto rfl ?_
        exact ih216 (x + 1) _ (by omega) (by exact fun q hq => by funext j; rw [vset_ne _ _ _ _ (by omega), hf3 q hq]) (by exact fun y hy => if z : y = x then by (subst z; rw [vset_eq, hf3 _ (by omega)]) else by (rw [vset_ne _ _ _ _ (by omega)]; exact hc3 y (by omega))) (by exact fun y h1 hy => by rw [vset_ne _ _ _ _ (by omega)]; exact hz3 y (by omega) hy) (by omega)
  refine g_aload_n rfl rfl ?_
  refine g_iconst rfl ?_
  refine g_putI rfl ms.1 ?_
  refine g_hp (h2 := hw h (vset V o 31 0)) rfl ?_
  refine g_iload_n rfl rfl ?_
  refine g_i2l rfl ?_
  refine g_lconst0 rfl ?_
  refine g_ldc2 rfl ?_
  refine g_callSI [aJ 4, aJ 0, aJ 4] [] rfl rfl rfl rfl (Nat.le_of_ble_eq_true rfl) (c_in (by omega) _ _ _ _) ?_
  rintro rI hI ⟨ehI, rfl⟩
  rw [ehI, if_pos (by omega)]
  clear ehI hI
  refine g_if_eq_f rfl (by omega) ?_
  refine g_aload_n rfl rfl ?_
  refine g_iload_n rfl rfl ?_
  refine g_callVI [aI ((a : Int))] [] rfl rfl rfl rfl (Nat.le_of_ble_eq_true rfl) ms.1 (m_pIsP (by omega) ms ((vset V o 31 0)) (mp.own 0) ok ((a : Int))) ?_
  rintro r hx ⟨ehx, rfl⟩
  rw [ehx, if_pos (by omega)]
  clear ehx hx
  refine g_if_eq_f rfl (by omega) ?_
  refine g_aload_n rfl rfl ?_
  refine g_iload_n rfl rfl ?_
  refine g_callVI [aI ((b : Int))] [] rfl rfl rfl rfl (Nat.le_of_ble_eq_true rfl) ms.1 (m_pIsP (by omega) ms ((vset V o 31 0)) (mp.own 0) ok ((b : Int))) ?_
  rintro r hx ⟨ehx, rfl⟩
  rw [ehx, if_pos (by omega)]
  clear ehx hx
  refine g_if_ne_t rfl (by omega) ?_
  refine g_aload_n rfl rfl ?_
  refine g_iload_n rfl rfl ?_
  refine g_aload_n rfl rfl ?_
  refine g_getR rfl ms.1 (mr_work ms) ?_
  refine g_callVN [aI ((a : Int)), aO (some (o + 13))] [] rfl rfl rfl rfl (Nat.le_of_ble_eq_true rfl) ms.1 (m_pfetch (by omega) ms (vset V o 31 0) a (by omega) (o + 13) (mt_work ms) (by omega)) ?_
  rintro _ ⟨V1, rfl, hf1, hz1⟩
  have p1a : BigR (V1 (o + 13)) (sPc S a) := fun x1 hx1 => by rw [hz1 x1 hx1]; exact (mp.own 0).2 a ha x1 hx1
  refine g_aload_n rfl rfl ?_
  refine g_iload_n rfl rfl ?_
  refine g_aload_n rfl rfl ?_
  refine g_getR rfl ms.1 (mr_piece ms) ?_
  refine g_callVN [aI ((b : Int)), aO (some (o + 15))] [] rfl rfl rfl rfl (Nat.le_of_ble_eq_true rfl) ms.1 (m_pfetch (by omega) ms V1 b (by omega) (o + 15) (mt_piece ms) (by omega)) ?_
  rintro _ ⟨V2, rfl, hf2, hz2⟩
  have p2 : BigR (V2 (o + 15)) (sPc S b) := fun x1 hx1 => by rw [hz2 x1 hx1, hf1 _ (by omega)]; exact (mp.own 0).2 b hb x1 hx1
  have p1 : BigR (V2 (o + 13)) (sPc S a) := by rw [hf2 _ (by omega)]; exact p1a
  have hF2 : ∀ q, (q < o + 13 ∨ o + 16 < q) → V2 q = vset V o 31 0 q := fun q hq => by rw [hf2 q (by omega), hf1 q (by omega)]
  refine g_iload_n rfl rfl ?_
  refine g_tsw (t := 205) rfl (by rfl) ?_
  refine g_aload_n rfl rfl ?_
  refine g_getR rfl ms.1 (mr_piece ms) ?_
  refine g_callSN [aO (some (o + 15))] [] rfl rfl rfl rfl (Nat.le_of_ble_eq_true rfl) (m_empty (by omega) V2 (o + 15) (mt_piece ms)) ?_
  rintro _ ⟨VE, rfl, hfE, hzE⟩
  refine g_bipush rfl ?_
  refine g_istore (l1 := [(4, aI 121), (0, aO (some o)), (1, aI 4), (2, aI ((a : Int))), (3, aI ((b : Int)))]) rfl rfl ?_
  exact l216 V2 (by exact hF2) (by exact p1) _ 0 _ (by omega) (by exact fun q hq => hfE q hq) (by exact fun y hy => by omega) (by exact fun y _ hy => hzE y hy) (Nat.lt_succ_self _)
set_option maxRecDepth 100000 in
theorem m_cmbR {w : aW} {d : Nat} (hd : 25 ≤ d) {h : aH} {o : Nat} (ms : MS h o) (V : Nat → Nat → Int) {S : aS} (mp : MP V o S) (ok : OkP S) (op a b : Int) (hn : ¬((0 ≤ op ∧ op ≤ 4) ∧ (0 ≤ a ∧ a < sPn S) ∧ 0 ≤ b ∧ b < sPn S)) : WP w d 359 [aO (some o), aI op, aI a, aI b] (hw h V) (RI (fun r h1 => h1 = hw h (vset V o 31 0) ∧ r = -1)) := by
  obtain ⟨d, rfl⟩ : ∃ d1, d = d1 + 1 := ⟨d - 1, by omega⟩
  refine WP.enter (cd := cd_X12_combine) rfl ?_
  have hok := ok.1
  have hls : largs 0 [aO (some o), aI op, aI a, aI b] = [(0, aO (some o)), (1, aI op), (2, aI a), (3, aI b)] := rfl
  rw [hls]
  clear hls
  refine g_aload_n rfl rfl ?_
  refine g_iconst rfl ?_
  refine g_putI rfl ms.1 ?_
  refine g_hp (h2 := hw h (vset V o 31 0)) rfl ?_
  refine g_iload_n rfl rfl ?_
  refine g_i2l rfl ?_
  refine g_lconst0 rfl ?_
  refine g_ldc2 rfl ?_
  refine g_callSI [aJ op, aJ 0, aJ 4] [] rfl rfl rfl rfl (Nat.le_of_ble_eq_true rfl) (c_in (by omega) _ _ _ _) ?_
  rintro rI hI ⟨ehI, rfl⟩
  rw [ehI]
  clear ehI hI
  refine g_b_eq rfl (fun cq14 => ?_) (fun cq14 => ?_)
  · skip
    refine g_iconst rfl ?_
    refine g_iret rfl ?_
    exact ⟨rfl, rfl⟩
  · skip
    refine g_aload_n rfl rfl ?_
    refine g_iload_n rfl rfl ?_
    refine g_callVI [aI a] [] rfl rfl rfl rfl (Nat.le_of_ble_eq_true rfl) ms.1 (m_pIsP (by omega) ms ((vset V o 31 0)) (mp.own 0) ok a) ?_
    rintro r hx ⟨ehx, rfl⟩
    rw [ehx]
    clear ehx hx
    refine g_b_eq rfl (fun cq22 => ?_) (fun cq22 => ?_)
    · skip
      refine g_iconst rfl ?_
      refine g_iret rfl ?_
      exact ⟨rfl, rfl⟩
    · skip
      refine g_aload_n rfl rfl ?_
      refine g_iload_n rfl rfl ?_
      refine g_callVI [aI b] [] rfl rfl rfl rfl (Nat.le_of_ble_eq_true rfl) ms.1 (m_pIsP (by omega) ms ((vset V o 31 0)) (mp.own 0) ok b) ?_
      rintro r hx ⟨ehx, rfl⟩
      rw [ehx]
      clear ehx hx
      refine g_if_ne_f rfl (by exact if_neg (by omega)) ?_
      refine g_iconst rfl ?_
      refine g_iret rfl ?_
      exact ⟨rfl, rfl⟩
theorem m_combine {w : aW} {d : Nat} (hd : 25 ≤ d) {h : aH} {o : Nat} (ms : MS h o) (V : Nat → Nat → Int) {S : aS} (mp : MP V o S) (ok : OkP S) (op a b : Int) : WP w d 359 [aO (some o), aI op, aI a, aI b] (hw h V) (RI (fun r h1 => ∃ V1, h1 = hw h V1 ∧ FPp V V1 o ∧ r = (cmbF S op a b).1 ∧ MP V1 o (cmbF S op a b).2)) := by
  by_cases z : (0 ≤ op ∧ op ≤ 4) ∧ (0 ≤ a ∧ a < sPn S) ∧ 0 ≤ b ∧ b < sPn S
  · obtain ⟨p, rfl⟩ : ∃ p : Nat, a = p := ⟨a.toNat, by omega⟩
    obtain ⟨q, rfl⟩ : ∃ q : Nat, b = q := ⟨b.toNat, by omega⟩
    have eF : cmbF S op p q = (match cmbX S op p q with | none => (-4, S) | some row => keepPo S row) := if_neg (fun y => y z)
    rw [eF]
    rcases (show op = 0 ∨ op = 1 ∨ op = 2 ∨ op = 3 ∨ op = 4 by omega) with y | y | y | y | y
    · subst y
      exact m_cmb0 hd ms V mp ok p (by omega) q (by omega)
    · subst y
      exact m_cmb1 hd ms V mp ok p (by omega) q (by omega)
    · subst y
      exact m_cmb2 hd ms V mp ok p (by omega) q (by omega)
    · subst y
      exact m_cmb3 hd ms V mp ok p (by omega) q (by omega)
    · subst y
      exact m_cmb4 hd ms V mp ok p (by omega) q (by omega)
  · have eF : cmbF S op a b = (-1, S) := if_pos z
    rw [eF]
    exact (m_cmbR hd ms V mp ok op a b z).imp (by
      rintro _ _ ⟨x, ex, rfl, rfl⟩
      exact ⟨-1, ex, vset V o 31 0, rfl, FPp_of (fun q _ => rfl) (fun _ _ _ => rfl) (fun _ _ => rfl), rfl, mp.own 0⟩)
