/-! boards with the room counted, thing: printed by wip/whole/gt_.py -/
/-- room that is yet wanted for the rows of ways -/
def tmC (h : aH) (c : Nat) : Nat := if hR h (c + 27) 0 = none then 13122 else 0
theorem tm_A {h g : aH} {c wa nb A B : Nat} (h0 : hR h (c + 27) 0 = some wa) (lr : LRef h g c wa nb A B) (V2 : Nat → Nat → Int) : hs (hw g V2) + tmC (hw g V2) c ≤ hs h + tmC h c := by
  have e1 : hR (hw g V2) (c + 27) 0 = some A := lr.r0
  have e2 : hs (hw g V2) = hs h := by
    show hs g = hs h
    rw [lr.1, hs_put, hs_put]
  unfold tmC
  rw [e1, e2, h0, if_neg (by simp), if_neg (by simp)]
  omega
theorem tm_B {h g : aH} {c A B : Nat} (h0 : hR h (c + 27) 0 = none) (lr : LRef (hG h c) g c (hz h) (hz h + 1) A B) (V2 : Nat → Nat → Int) : hs (hw g V2) + tmC (hw g V2) c ≤ hs h + tmC h c := by
  have e1 : hR (hw g V2) (c + 27) 0 = some A := lr.r0
  have e2 : hs (hw g V2) = hs h + 13122 := by
    show hs g = _
    rw [lr.1, hs_put, hs_put, hG_s]
  unfold tmC
  rw [e1, e2, h0, if_neg (by simp), if_pos rfl]
  omega
set_option maxRecDepth 100000 in
theorem x_waysA2 {w : aW} {d : Nat} (hd : 4 ≤ d) {h : aH} {c : Nat} (cs : CS h c) (V : Nat → Nat → Int) (w1 l : Nat) (n : Int) (hw8 : w1 ≤ 8) (hl8 : l ≤ 8) (S : Nat) (hS2 : 2 ≤ S) (hS3 : S ≤ 3) (wa nb : Nat) (hn0 : hR h (c + 27) 0 = some wa) (hn1 : hR h (c + 27) 1 = some nb) (ta : hT h wa = (2, 6561)) (tn : hT h nb = (2, 6561)) (hwn : wa ≠ nb) (haa : c + 67 ≤ wa) (hna : c + 67 ≤ nb) (hwz : wa < hz h) (hnz : nb < hz h) : WP w d 2 [aO (some (c + 27)), aI ((w1 : Int)), aI ((l : Int)), aJ n, aI ((S : Int))] (hw h V) (RJ (fun r h1 => (WPost h V c h1 ∧ hs h1 + tmC h1 c ≤ hs h + tmC h c) ∧ r = w64 (tFc S w1 l n (w1 * l) 0 0))) := by
  obtain ⟨d, rfl⟩ : ∃ d1, d = d1 + 1 := ⟨d - 1, by omega⟩
  refine WP.enter (cd := cd_X0_waysToLay) rfl ?_
  have hls : largs 0 [aO (some (c + 27)), aI ((w1 : Int)), aI ((l : Int)), aJ n, aI ((S : Int))] = [(0, aO (some (c + 27))), (1, aI ((w1 : Int))), (2, aI ((l : Int))), (3, aJ n), (5, aI ((S : Int)))] := rfl
  rw [hls]
  clear hls
  refine g_aload_n rfl rfl ?_
  refine g_iload_n rfl rfl ?_
  refine g_putI rfl (by (repeat (first | rw [hT_hw] | rw [hT_set] | rw [hT_put] | rw [hT_new, if_neg (by simp only [hz_put, hz_new, hz_hw, hz_set]; omega)])); exact cs.kd 27 (by omega) rfl) ?_
  refine g_aload_n rfl rfl ?_
  refine g_iload_n rfl rfl ?_
  refine g_putI rfl (by (repeat (first | rw [hT_hw] | rw [hT_set] | rw [hT_put] | rw [hT_new, if_neg (by simp only [hz_put, hz_new, hz_hw, hz_set]; omega)])); exact cs.kd 27 (by omega) rfl) ?_
  refine g_aload_n rfl rfl ?_
  refine g_lload_n rfl rfl ?_
  refine g_putJ rfl (by (repeat (first | rw [hT_hw] | rw [hT_set] | rw [hT_put] | rw [hT_new, if_neg (by simp only [hz_put, hz_new, hz_hw, hz_set]; omega)])); exact cs.kd 27 (by omega) rfl) ?_
  refine g_aload_n rfl rfl ?_
  refine g_iload rfl rfl ?_
  refine g_putI rfl (by (repeat (first | rw [hT_hw] | rw [hT_set] | rw [hT_put] | rw [hT_new, if_neg (by simp only [hz_put, hz_new, hz_hw, hz_set]; omega)])); exact cs.kd 27 (by omega) rfl) ?_
  refine g_aload_n rfl rfl ?_
  refine g_getR rfl (by (repeat (first | rw [hT_hw] | rw [hT_set] | rw [hT_put] | rw [hT_new, if_neg (by simp only [hz_put, hz_new, hz_hw, hz_set]; omega)])); exact cs.kd 27 (by omega) rfl) hn0 ?_
  refine g_ifnull_f rfl ?_
  refine g_aload_n rfl rfl ?_
  refine g_getR rfl (by (repeat (first | rw [hT_hw] | rw [hT_set] | rw [hT_put] | rw [hT_new, if_neg (by simp only [hz_put, hz_new, hz_hw, hz_set]; omega)])); exact cs.kd 27 (by omega) rfl) hn1 ?_
  refine g_ifnonnull_t rfl ?_
  refine (x_ways53 hd cs (vset (vset (vset (vset V (c + 27) 2 w1) (c + 27) 3 l) (c + 27) 4 n) (c + 27) 5 S) nb hn1 tn wa hn0 ta hwn (by omega) (by omega) w1 l n (by rw [vset_ne _ _ _ _ (by omega), vset_ne _ _ _ _ (by omega), vset_ne _ _ _ _ (by omega), vset_eq]) (by rw [vset_ne _ _ _ _ (by omega), vset_ne _ _ _ _ (by omega), vset_eq]) (by rw [vset_ne _ _ _ _ (by omega), vset_eq]) hw8 hl8 S (by rw [vset_eq]) hS2 hS3).imp ?_
  rintro _ _ ⟨r, rfl, ⟨g, A, B, V2, rfl, lr, hf⟩, rfl⟩
  exact ⟨_, rfl, ⟨wp_ways cs lr rfl hf (by intro a ha; funext j; rw [vset_ne _ _ _ _ (by omega), vset_ne _ _ _ _ (by omega), vset_ne _ _ _ _ (by omega), vset_ne _ _ _ _ (by omega)]) ta tn hwn (by omega) (by omega) hwz hnz, tm_A hn0 lr V2⟩, rfl⟩
set_option maxRecDepth 100000 in
theorem x_waysB2 {w : aW} {d : Nat} (hd : 4 ≤ d) {h : aH} {c : Nat} (cs : CS h c) (V : Nat → Nat → Int) (w1 l : Nat) (n : Int) (hw8 : w1 ≤ 8) (hl8 : l ≤ 8) (S : Nat) (hS2 : 2 ≤ S) (hS3 : S ≤ 3) (hn0 : hR h (c + 27) 0 = none) (hn1 : hR h (c + 27) 1 = none) (hc : c + 34 ≤ hz h) (hc2 : c + 67 ≤ hz h) : WP w d 2 [aO (some (c + 27)), aI ((w1 : Int)), aI ((l : Int)), aJ n, aI ((S : Int))] (hw h V) (RJ (fun r h1 => (WPost h V c h1 ∧ hs h1 + tmC h1 c ≤ hs h + tmC h c) ∧ r = w64 (tFc S w1 l n (w1 * l) 0 0))) := by
  obtain ⟨d, rfl⟩ : ∃ d1, d = d1 + 1 := ⟨d - 1, by omega⟩
  refine WP.enter (cd := cd_X0_waysToLay) rfl ?_
  have hls : largs 0 [aO (some (c + 27)), aI ((w1 : Int)), aI ((l : Int)), aJ n, aI ((S : Int))] = [(0, aO (some (c + 27))), (1, aI ((w1 : Int))), (2, aI ((l : Int))), (3, aJ n), (5, aI ((S : Int)))] := rfl
  rw [hls]
  clear hls
  refine g_aload_n rfl rfl ?_
  refine g_iload_n rfl rfl ?_
  refine g_putI rfl (by (repeat (first | rw [hT_hw] | rw [hT_set] | rw [hT_put] | rw [hT_new, if_neg (by simp only [hz_put, hz_new, hz_hw, hz_set]; omega)])); exact cs.kd 27 (by omega) rfl) ?_
  refine g_aload_n rfl rfl ?_
  refine g_iload_n rfl rfl ?_
  refine g_putI rfl (by (repeat (first | rw [hT_hw] | rw [hT_set] | rw [hT_put] | rw [hT_new, if_neg (by simp only [hz_put, hz_new, hz_hw, hz_set]; omega)])); exact cs.kd 27 (by omega) rfl) ?_
  refine g_aload_n rfl rfl ?_
  refine g_lload_n rfl rfl ?_
  refine g_putJ rfl (by (repeat (first | rw [hT_hw] | rw [hT_set] | rw [hT_put] | rw [hT_new, if_neg (by simp only [hz_put, hz_new, hz_hw, hz_set]; omega)])); exact cs.kd 27 (by omega) rfl) ?_
  refine g_aload_n rfl rfl ?_
  refine g_iload rfl rfl ?_
  refine g_putI rfl (by (repeat (first | rw [hT_hw] | rw [hT_set] | rw [hT_put] | rw [hT_new, if_neg (by simp only [hz_put, hz_new, hz_hw, hz_set]; omega)])); exact cs.kd 27 (by omega) rfl) ?_
  refine g_aload_n rfl rfl ?_
  refine g_getR rfl (by (repeat (first | rw [hT_hw] | rw [hT_set] | rw [hT_put] | rw [hT_new, if_neg (by simp only [hz_put, hz_new, hz_hw, hz_set]; omega)])); exact cs.kd 27 (by omega) rfl) hn0 ?_
  refine g_ifnull_t rfl ?_
  refine g_aload_n rfl rfl ?_
  refine g_sipush rfl ?_
  refine g_newarray (m := 6561) rfl (by omega) (by omega) (by rfl) ?_
  refine g_putR rfl (by (repeat (first | rw [hT_hw] | rw [hT_set] | rw [hT_put] | rw [hT_new, if_neg (by simp only [hz_put, hz_new, hz_hw, hz_set]; omega)])); exact cs.kd 27 (by omega) rfl) ?_
  refine g_aload_n rfl rfl ?_
  refine g_sipush rfl ?_
  refine g_newarray (m := 6561) rfl (by omega) (by omega) (by rfl) ?_
  refine g_putR rfl (by (repeat (first | rw [hT_hw] | rw [hT_set] | rw [hT_put] | rw [hT_new, if_neg (by simp only [hz_put, hz_new, hz_hw, hz_set]; omega)])); exact cs.kd 27 (by omega) rfl) ?_
  refine g_hp (h2 := hw (hG h c) (fun a j => if a = hz h + 1 then 0 else if a = hz h then 0 else (vset (vset (vset (vset V (c + 27) 2 w1) (c + 27) 3 l) (c + 27) 4 n) (c + 27) 5 S) a j)) rfl ?_
  refine (x_ways53 hd (hG_cs cs hc) (fun a j => if a = hz h + 1 then 0 else if a = hz h then 0 else (vset (vset (vset (vset V (c + 27) 2 w1) (c + 27) 3 l) (c + 27) 4 n) (c + 27) 5 S) a j) (hz h + 1) (by rw [hG_r (by omega) _ _ (by omega), if_pos ⟨rfl, rfl⟩]) (by rw [hG_t, if_pos (Or.inr rfl)]) (hz h) (by rw [hG_r (by omega) _ _ (by omega), if_neg (by omega), if_pos ⟨rfl, rfl⟩]) (by rw [hG_t, if_pos (Or.inl rfl)]) (by omega) (by omega) (by omega) w1 l n (by show (if c + 27 = hz h + 1 then (0 : Int) else if c + 27 = hz h then 0 else _) = _; rw [if_neg (by omega), if_neg (by omega), vset_ne _ _ _ _ (by omega), vset_ne _ _ _ _ (by omega), vset_ne _ _ _ _ (by omega), vset_eq]) (by show (if c + 27 = hz h + 1 then (0 : Int) else if c + 27 = hz h then 0 else _) = _; rw [if_neg (by omega), if_neg (by omega), vset_ne _ _ _ _ (by omega), vset_ne _ _ _ _ (by omega), vset_eq]) (by show (if c + 27 = hz h + 1 then (0 : Int) else if c + 27 = hz h then 0 else _) = _; rw [if_neg (by omega), if_neg (by omega), vset_ne _ _ _ _ (by omega), vset_eq]) hw8 hl8 S (by show (if c + 27 = hz h + 1 then (0 : Int) else if c + 27 = hz h then 0 else _) = _; rw [if_neg (by omega), if_neg (by omega), vset_eq]) hS2 hS3).imp ?_
  rintro _ _ ⟨r, rfl, ⟨g, A, B, V2, rfl, lr, hf⟩, rfl⟩
  refine ⟨_, rfl, ⟨wp_waysB cs hc (by omega) lr rfl (fun a ha h1 => ?_), tm_B hn0 lr V2⟩, rfl⟩
  rw [hf a (by omega) (by omega)]
  funext j
  show (if a = hz h + 1 then (0 : Int) else if a = hz h then 0 else _) = _
  rw [if_neg (by omega), if_neg (by omega), vset_ne _ _ _ _ (by omega), vset_ne _ _ _ _ (by omega), vset_ne _ _ _ _ (by omega), vset_ne _ _ _ _ (by omega)]
theorem x_ways2 {w : aW} {d : Nat} (hd : 4 ≤ d) {h : aH} {c : Nat} (cs : CS h c) (V : Nat → Nat → Int) (w1 l : Nat) (n : Int) (hw8 : w1 ≤ 8) (hl8 : l ≤ 8) (S : Nat) (hS2 : 2 ≤ S) (hS3 : S ≤ 3) (cw : CW h c) (hc2 : c + 67 ≤ hz h) : WP w d 2 [aO (some (c + 27)), aI (w1 : Int), aI (l : Int), aJ n, aI (S : Int)] (hw h V) (RJ (fun r h1 => (WPost h V c h1 ∧ hs h1 + tmC h1 c ≤ hs h + tmC h c) ∧ r = w64 (tFc S w1 l n (w1 * l) 0 0))) := by
  rcases cw with ⟨h0, h1⟩ | ⟨wa, nb, h0, h1, t0, t1, h2, h3, h4, h5, h6⟩
  · exact x_waysB2 hd cs V w1 l n hw8 hl8 S hS2 hS3 h0 h1 (by omega) hc2
  · exact x_waysA2 hd cs V w1 l n hw8 hl8 S hS2 hS3 wa nb h0 h1 t0 t1 h2 h3 h4 h5 h6
noncomputable def tileF (S : Nat) (a l n : Int) : Int := if (1 ≤ a ∧ a ≤ 8) ∧ 1 ≤ l ∧ l ≤ 8 then w64 (tFc S a.toNat l.toNat n (a.toNat * l.toNat) 0 0) else -2
set_option maxRecDepth 100000 in
theorem x_isBoard {w : aW} {d : Nat} (hd : 1 ≤ d) (a l : Int) (h : aH) : WP w d 224 [aI a, aI l] h (RI (fun r h1 => h1 = h ∧ r = if (1 ≤ a ∧ a ≤ 8) ∧ 1 ≤ l ∧ l ≤ 8 then 1 else 0)) := by
  obtain ⟨d, rfl⟩ : ∃ d1, d = d1 + 1 := ⟨d - 1, by omega⟩
  refine WP.enter (cd := cd_X11_isBoard) rfl ?_
  have hls : largs 0 [aI a, aI l] = [(0, aI a), (1, aI l)] := rfl
  rw [hls]
  clear hls
  refine g_iload_n rfl rfl ?_
  refine g_iconst rfl ?_
  refine g_icmp_lt rfl (fun cq2 => ?_) (fun cq2 => ?_)
  · skip
    refine g_iconst rfl ?_
    refine g_zret rfl (by omega) ?_
    refine ⟨rfl, ?_⟩
    first
      | (rw [if_pos (by omega)]; done)
      | (rw [if_neg (by omega)]; done)
  · skip
    refine g_iload_n rfl rfl ?_
    refine g_bipush rfl ?_
    refine g_icmp_gt rfl (fun cq8 => ?_) (fun cq8 => ?_)
    · skip
      refine g_iconst rfl ?_
      refine g_zret rfl (by omega) ?_
      refine ⟨rfl, ?_⟩
      first
        | (rw [if_pos (by omega)]; done)
        | (rw [if_neg (by omega)]; done)
    · skip
      refine g_iload_n rfl rfl ?_
      refine g_iconst rfl ?_
      refine g_icmp_lt rfl (fun cq13 => ?_) (fun cq13 => ?_)
      · skip
        refine g_iconst rfl ?_
        refine g_zret rfl (by omega) ?_
        refine ⟨rfl, ?_⟩
        first
          | (rw [if_pos (by omega)]; done)
          | (rw [if_neg (by omega)]; done)
      · skip
        refine g_iload_n rfl rfl ?_
        refine g_bipush rfl ?_
        refine g_icmp_gt rfl (fun cq19 => ?_) (fun cq19 => ?_)
        · skip
          refine g_iconst rfl ?_
          refine g_zret rfl (by omega) ?_
          refine ⟨rfl, ?_⟩
          first
            | (rw [if_pos (by omega)]; done)
            | (rw [if_neg (by omega)]; done)
        · skip
          refine g_iconst rfl ?_
          refine g_goto rfl ?_
          refine g_zret rfl (by omega) ?_
          refine ⟨rfl, ?_⟩
          first
            | (rw [if_pos (by omega)]; done)
            | (rw [if_neg (by omega)]; done)
set_option maxRecDepth 100000 in
theorem m_isBoard {w : aW} {d : Nat} (hd : 2 ≤ d) (a l : Int) (h : aH) : WP w d 365 [aI a, aI l] h (RI (fun r h1 => h1 = h ∧ r = if (1 ≤ a ∧ a ≤ 8) ∧ 1 ≤ l ∧ l ≤ 8 then 1 else 0)) := by
  obtain ⟨d, rfl⟩ : ∃ d1, d = d1 + 1 := ⟨d - 1, by omega⟩
  refine WP.enter (cd := cd_X12_isBoard) rfl ?_
  have hls : largs 0 [aI a, aI l] = [(0, aI a), (1, aI l)] := rfl
  rw [hls]
  clear hls
  refine g_iload_n rfl rfl ?_
  refine g_i2l rfl ?_
  refine g_lconst1 rfl ?_
  refine g_ldc2 rfl ?_
  refine g_callSI [aJ a, aJ 1, aJ 8] [] rfl rfl rfl rfl (Nat.le_of_ble_eq_true rfl) (c_in (by omega) _ _ _ _) ?_
  rintro r1 _ ⟨rfl, rfl⟩
  refine g_b_eq rfl (fun cq9 => ?_) (fun cq9 => ?_)
  · skip
    refine g_iconst rfl ?_
    refine g_zret rfl (by omega) ?_
    refine ⟨rfl, ?_⟩
    first
      | (rw [if_pos (by omega)]; done)
      | (rw [if_neg (by omega)]; done)
  · skip
    refine g_iload_n rfl rfl ?_
    refine g_i2l rfl ?_
    refine g_lconst1 rfl ?_
    refine g_ldc2 rfl ?_
    refine g_callSI [aJ l, aJ 1, aJ 8] [] rfl rfl rfl rfl (Nat.le_of_ble_eq_true rfl) (c_in (by omega) _ _ _ _) ?_
    rintro r2 _ ⟨rfl, rfl⟩
    refine g_b_eq rfl (fun cq21 => ?_) (fun cq21 => ?_)
    · skip
      refine g_iconst rfl ?_
      refine g_zret rfl (by omega) ?_
      refine ⟨rfl, ?_⟩
      first
        | (rw [if_pos (by omega)]; done)
        | (rw [if_neg (by omega)]; done)
    · skip
      refine g_iconst rfl ?_
      refine g_goto rfl ?_
      refine g_zret rfl (by omega) ?_
      refine ⟨rfl, ?_⟩
      first
        | (rw [if_pos (by omega)]; done)
        | (rw [if_neg (by omega)]; done)
set_option maxRecDepth 100000 in
theorem x_tile {w : aW} {d : Nat} (hd : 30 ≤ d) {h : aH} {c : Nat} (cs : CS h c) (V : Nat → Nat → Int) (cw : CW h c) (hc : c + 67 ≤ hz h) (a l n : Int) : WP w d 220 [aO (some c), aI a, aI l, aJ n] (hw h V) (RJ (fun r h1 => (h1 = hw h V ∨ (WPost h V c h1 ∧ hs h1 + tmC h1 c ≤ hs h + tmC h c)) ∧ r = tileF 2 a l n)) := by
  obtain ⟨d, rfl⟩ : ∃ d1, d = d1 + 1 := ⟨d - 1, by omega⟩
  refine WP.enter (cd := cd_X11_tile) rfl ?_
  have hls : largs 0 [aO (some c), aI a, aI l, aJ n] = [(0, aO (some c)), (1, aI a), (2, aI l), (3, aJ n)] := rfl
  rw [hls]
  clear hls
  refine g_iload_n rfl rfl ?_
  refine g_iload_n rfl rfl ?_
  refine g_callSI [aI a, aI l] [] rfl rfl rfl rfl (Nat.le_of_ble_eq_true rfl) (x_isBoard (by omega) a l _) ?_
  rintro r hx ⟨ehx, rfl⟩
  rw [ehx]
  clear ehx hx
  refine g_b_eq rfl (fun cq5 => ?_) (fun cq5 => ?_)
  · skip
    refine g_ldc2 rfl ?_
    refine g_lret rfl ?_
    first
      | (refine ⟨Or.inl rfl, ?_⟩
         exact (if_neg cq5).symm)
      | (refine ⟨Or.inr hq.1, ?_⟩
         rw [hq.2]
         unfold tileF
         rw [if_pos cq5]
         rfl)
  · skip
    obtain ⟨p, ep⟩ : ∃ p : Nat, a = (p : Int) := ⟨a.toNat, by omega⟩
    obtain ⟨q, eq⟩ : ∃ q : Nat, l = (q : Int) := ⟨l.toNat, by omega⟩
    subst ep
    subst eq
    refine g_aload_n rfl rfl ?_
    refine g_getR rfl (cs.kd 0 (by omega) rfl) (cs.rf 38 (by omega) rfl) ?_
    refine g_iload_n rfl rfl ?_
    refine g_iload_n rfl rfl ?_
    refine g_lload_n rfl rfl ?_
    refine g_iconst rfl ?_
    refine g_callVJ [aI ((p : Int)), aI ((q : Int)), aJ n, aI 2] [] rfl rfl rfl rfl (Nat.le_of_ble_eq_true rfl) (cs.kd 27 (by omega) rfl) (x_ways2 (by omega) cs V p q n (by omega) (by omega) 2 (by omega) (by omega) cw hc) ?_
    rintro r h2 hq
    refine g_goto rfl ?_
    refine g_lret rfl ?_
    first
      | (refine ⟨Or.inl rfl, ?_⟩
         exact (if_neg cq5).symm)
      | (refine ⟨Or.inr hq.1, ?_⟩
         rw [hq.2]
         unfold tileF
         rw [if_pos cq5]
         rfl)
set_option maxRecDepth 100000 in
theorem x_rows {w : aW} {d : Nat} (hd : 30 ≤ d) {h : aH} {c : Nat} (cs : CS h c) (V : Nat → Nat → Int) (cw : CW h c) (hc : c + 67 ≤ hz h) (a l n : Int) : WP w d 221 [aO (some c), aI a, aI l, aJ n] (hw h V) (RJ (fun r h1 => (h1 = hw h V ∨ (WPost h V c h1 ∧ hs h1 + tmC h1 c ≤ hs h + tmC h c)) ∧ r = tileF 3 a l n)) := by
  obtain ⟨d, rfl⟩ : ∃ d1, d = d1 + 1 := ⟨d - 1, by omega⟩
  refine WP.enter (cd := cd_X11_rows) rfl ?_
  have hls : largs 0 [aO (some c), aI a, aI l, aJ n] = [(0, aO (some c)), (1, aI a), (2, aI l), (3, aJ n)] := rfl
  rw [hls]
  clear hls
  refine g_iload_n rfl rfl ?_
  refine g_iload_n rfl rfl ?_
  refine g_callSI [aI a, aI l] [] rfl rfl rfl rfl (Nat.le_of_ble_eq_true rfl) (x_isBoard (by omega) a l _) ?_
  rintro r hx ⟨ehx, rfl⟩
  rw [ehx]
  clear ehx hx
  refine g_b_eq rfl (fun cq5 => ?_) (fun cq5 => ?_)
  · skip
    refine g_ldc2 rfl ?_
    refine g_lret rfl ?_
    first
      | (refine ⟨Or.inl rfl, ?_⟩
         exact (if_neg cq5).symm)
      | (refine ⟨Or.inr hq.1, ?_⟩
         rw [hq.2]
         unfold tileF
         rw [if_pos cq5]
         rfl)
  · skip
    obtain ⟨p, ep⟩ : ∃ p : Nat, a = (p : Int) := ⟨a.toNat, by omega⟩
    obtain ⟨q, eq⟩ : ∃ q : Nat, l = (q : Int) := ⟨l.toNat, by omega⟩
    subst ep
    subst eq
    refine g_aload_n rfl rfl ?_
    refine g_getR rfl (cs.kd 0 (by omega) rfl) (cs.rf 38 (by omega) rfl) ?_
    refine g_iload_n rfl rfl ?_
    refine g_iload_n rfl rfl ?_
    refine g_lload_n rfl rfl ?_
    refine g_iconst rfl ?_
    refine g_callVJ [aI ((p : Int)), aI ((q : Int)), aJ n, aI 3] [] rfl rfl rfl rfl (Nat.le_of_ble_eq_true rfl) (cs.kd 27 (by omega) rfl) (x_ways2 (by omega) cs V p q n (by omega) (by omega) 3 (by omega) (by omega) cw hc) ?_
    rintro r h2 hq
    refine g_goto rfl ?_
    refine g_lret rfl ?_
    first
      | (refine ⟨Or.inl rfl, ?_⟩
         exact (if_neg cq5).symm)
      | (refine ⟨Or.inr hq.1, ?_⟩
         rw [hq.2]
         unfold tileF
         rw [if_pos cq5]
         rfl)
set_option maxRecDepth 100000 in
theorem m_tile {w : aW} {d : Nat} (hd : 30 ≤ d) {h : aH} {o : Nat} (ms : MS h o) (V : Nat → Nat → Int) (a l n : Int) : WP w d 366 [aO (some o), aI a, aI l, aJ n] (hw h V) (RJ (fun r h1 => (∃ V2, h1 = hw h V2 ∧ ∀ x i, ¬(x = o ∧ i = 31) → x ≠ o + 17 → x ≠ o + 18 → V2 x i = V x i) ∧ r = tileF 2 a l n)) := by
  obtain ⟨d, rfl⟩ : ∃ d1, d = d1 + 1 := ⟨d - 1, by omega⟩
  refine WP.enter (cd := cd_X12_tile) rfl ?_
  have hls : largs 0 [aO (some o), aI a, aI l, aJ n] = [(0, aO (some o)), (1, aI a), (2, aI l), (3, aJ n)] := rfl
  rw [hls]
  clear hls
  refine g_aload_n rfl rfl ?_
  refine g_iconst rfl ?_
  refine g_putI rfl ms.1 ?_
  refine g_hp (h2 := hw h (vset V o 31 0)) rfl ?_
  refine g_iload_n rfl rfl ?_
  refine g_iload_n rfl rfl ?_
  refine g_callSI [aI a, aI l] [] rfl rfl rfl rfl (Nat.le_of_ble_eq_true rfl) (m_isBoard (by omega) a l _) ?_
  rintro r hx ⟨ehx, rfl⟩
  rw [ehx]
  clear ehx hx
  refine g_b_eq rfl (fun cq10 => ?_) (fun cq10 => ?_)
  · skip
    refine g_ldc2 rfl ?_
    refine g_lret rfl ?_
    first
      | (refine ⟨⟨_, rfl, fun x i h1 h2 h3 => vset_ne _ _ _ _ (by omega)⟩, ?_⟩
         exact (if_neg cq10).symm)
      | (refine ⟨⟨V2, rfl, fun x i h1 h2 h3 => by rw [hf2 x h2 h3, vset_ne _ _ _ _ (by omega)]⟩, ?_⟩
         rw [hq, ways_same _ _ _ _ (by omega) (by omega)]
         unfold tileF
         rw [if_pos cq10]
         rfl)
  · skip
    obtain ⟨p, ep⟩ : ∃ p : Nat, a = (p : Int) := ⟨a.toNat, by omega⟩
    obtain ⟨q, eq⟩ : ∃ q : Nat, l = (q : Int) := ⟨l.toNat, by omega⟩
    subst ep
    subst eq
    refine g_aload_n rfl rfl ?_
    refine g_iload_n rfl rfl ?_
    refine g_iload_n rfl rfl ?_
    refine g_lload_n rfl rfl ?_
    refine g_iconst rfl ?_
    refine g_callVJ [aI ((p : Int)), aI ((q : Int)), aJ n, aI 2] [] rfl rfl rfl rfl (Nat.le_of_ble_eq_true rfl) ms.1 (m_lay (by omega) ms (vset V o 31 0) p q n (by omega) (by omega) (by omega) 2 (by omega) (by omega)) ?_
    rintro r h2 ⟨⟨V2, rfl, hf2⟩, hq⟩
    refine g_goto rfl ?_
    refine g_lret rfl ?_
    first
      | (refine ⟨⟨_, rfl, fun x i h1 h2 h3 => vset_ne _ _ _ _ (by omega)⟩, ?_⟩
         exact (if_neg cq10).symm)
      | (refine ⟨⟨V2, rfl, fun x i h1 h2 h3 => by rw [hf2 x h2 h3, vset_ne _ _ _ _ (by omega)]⟩, ?_⟩
         rw [hq, ways_same _ _ _ _ (by omega) (by omega)]
         unfold tileF
         rw [if_pos cq10]
         rfl)
set_option maxRecDepth 100000 in
theorem m_rowsB {w : aW} {d : Nat} (hd : 30 ≤ d) {h : aH} {o : Nat} (ms : MS h o) (V : Nat → Nat → Int) (a l n : Int) : WP w d 367 [aO (some o), aI a, aI l, aJ n] (hw h V) (RJ (fun r h1 => (∃ V2, h1 = hw h V2 ∧ ∀ x i, ¬(x = o ∧ i = 31) → x ≠ o + 17 → x ≠ o + 18 → V2 x i = V x i) ∧ r = tileF 3 a l n)) := by
  obtain ⟨d, rfl⟩ : ∃ d1, d = d1 + 1 := ⟨d - 1, by omega⟩
  refine WP.enter (cd := cd_X12_rows_) rfl ?_
  have hls : largs 0 [aO (some o), aI a, aI l, aJ n] = [(0, aO (some o)), (1, aI a), (2, aI l), (3, aJ n)] := rfl
  rw [hls]
  clear hls
  refine g_aload_n rfl rfl ?_
  refine g_iconst rfl ?_
  refine g_putI rfl ms.1 ?_
  refine g_hp (h2 := hw h (vset V o 31 0)) rfl ?_
  refine g_iload_n rfl rfl ?_
  refine g_iload_n rfl rfl ?_
  refine g_callSI [aI a, aI l] [] rfl rfl rfl rfl (Nat.le_of_ble_eq_true rfl) (m_isBoard (by omega) a l _) ?_
  rintro r hx ⟨ehx, rfl⟩
  rw [ehx]
  clear ehx hx
  refine g_b_eq rfl (fun cq10 => ?_) (fun cq10 => ?_)
  · skip
    refine g_ldc2 rfl ?_
    refine g_lret rfl ?_
    first
      | (refine ⟨⟨_, rfl, fun x i h1 h2 h3 => vset_ne _ _ _ _ (by omega)⟩, ?_⟩
         exact (if_neg cq10).symm)
      | (refine ⟨⟨V2, rfl, fun x i h1 h2 h3 => by rw [hf2 x h2 h3, vset_ne _ _ _ _ (by omega)]⟩, ?_⟩
         rw [hq, ways_same _ _ _ _ (by omega) (by omega)]
         unfold tileF
         rw [if_pos cq10]
         rfl)
  · skip
    obtain ⟨p, ep⟩ : ∃ p : Nat, a = (p : Int) := ⟨a.toNat, by omega⟩
    obtain ⟨q, eq⟩ : ∃ q : Nat, l = (q : Int) := ⟨l.toNat, by omega⟩
    subst ep
    subst eq
    refine g_aload_n rfl rfl ?_
    refine g_iload_n rfl rfl ?_
    refine g_iload_n rfl rfl ?_
    refine g_lload_n rfl rfl ?_
    refine g_iconst rfl ?_
    refine g_callVJ [aI ((p : Int)), aI ((q : Int)), aJ n, aI 3] [] rfl rfl rfl rfl (Nat.le_of_ble_eq_true rfl) ms.1 (m_lay (by omega) ms (vset V o 31 0) p q n (by omega) (by omega) (by omega) 3 (by omega) (by omega)) ?_
    rintro r h2 ⟨⟨V2, rfl, hf2⟩, hq⟩
    refine g_goto rfl ?_
    refine g_lret rfl ?_
    first
      | (refine ⟨⟨_, rfl, fun x i h1 h2 h3 => vset_ne _ _ _ _ (by omega)⟩, ?_⟩
         exact (if_neg cq10).symm)
      | (refine ⟨⟨V2, rfl, fun x i h1 h2 h3 => by rw [hf2 x h2 h3, vset_ne _ _ _ _ (by omega)]⟩, ?_⟩
         rw [hq, ways_same _ _ _ _ (by omega) (by omega)]
         unfold tileF
         rw [if_pos cq10]
         rfl)
def thingF (S : aS) (t k : Int) : Int := if 0 ≤ t ∧ t < sT S then (if k = 0 then sTs S t.toNat else if 1 ≤ k ∧ k ≤ (if sTs S t.toNat = 2 then 4 else 3) then sTp S t.toNat (k - 1).toNat else 0) else if k = 0 then -1 else 0
theorem thing_0 {S : aS} {t k : Int} (h : ¬(0 ≤ t ∧ t < sT S)) : thingF S t k = if k = 0 then -1 else 0 := if_neg h
theorem thing_1 {S : aS} {t k : Int} (h : 0 ≤ t ∧ t < sT S) : thingF S t k = if k = 0 then sTs S t.toNat else if 1 ≤ k ∧ k ≤ (if sTs S t.toNat = 2 then 4 else 3) then sTp S t.toNat (k - 1).toNat else 0 := if_pos h
set_option maxRecDepth 100000 in
theorem x_thing1 {w : aW} {d : Nat} (hd : 8 ≤ d) {h : aH} {c : Nat} (ci : CI h c) {S : aS} (xt : XT h c S) (ok : OkT S) (t k : Int) (ht : 0 ≤ t ∧ t < sT S) : WP w d 207 [aO (some c), aI t, aI k] h (RI (fun r h1 => h1 = h ∧ r = thingF S t k)) := by
  obtain ⟨d, rfl⟩ : ∃ d1, d = d1 + 1 := ⟨d - 1, by omega⟩
  refine WP.enter (cd := cd_X11_thing) rfl ?_
  have hs3 := (ok.2 t.toNat (by omega)).1
  have hls : largs 0 [aO (some c), aI t, aI k] = [(0, aO (some c)), (1, aI t), (2, aI k)] := rfl
  rw [hls]
  clear hls
  refine g_aload_n rfl rfl ?_
  refine g_getR rfl (ci.1.kd 0 (by omega) rfl) (ci.1.rf 11 (by omega) rfl) ?_
  refine g_iload_n rfl rfl ?_
  refine g_callVI [aI t] [] rfl rfl rfl rfl (Nat.le_of_ble_eq_true rfl) (ci.1.kd 7 (by omega) rfl) (t_sortOf (by omega) ci xt ok t) ?_
  rintro r hx ⟨ehx, rfl⟩
  rw [ehx, if_pos ht]
  clear ehx hx
  refine g_istore_n (l1 := [(3, aI ((sTs S t.toNat))), (0, aO (some c)), (1, aI t), (2, aI k)]) rfl rfl ?_
  refine g_iload_n rfl rfl ?_
  refine g_if_ne rfl (fun cq10 => ?_) (fun cq10 => ?_)
  · skip
    refine g_iload_n rfl rfl ?_
    refine g_iconst rfl ?_
    refine g_icmp_ne rfl (fun cq17 => ?_) (fun cq17 => ?_)
    · skip
      refine g_iconst rfl ?_
      refine g_istore (l1 := [(4, aI 3), (3, aI ((sTs S t.toNat))), (0, aO (some c)), (1, aI t), (2, aI k)]) rfl rfl ?_
      refine g_iload_n rfl rfl ?_
      refine g_if_lt rfl (fun cq28 => ?_) (fun cq28 => ?_)
      · skip
        refine g_iconst rfl ?_
        refine g_goto rfl ?_
        refine g_iret rfl ?_
        refine ⟨rfl, ?_⟩
        rw [thing_1 ht]
        first
          | (rw [if_pos (show k = 0 by omega)]; done)
          | (rw [if_neg (show ¬ k = 0 by omega), if_pos (show sTs S t.toNat = 2 by omega), if_pos (by omega)]; done)
          | (rw [if_neg (show ¬ k = 0 by omega), if_pos (show sTs S t.toNat = 2 by omega), if_neg (by omega)]; done)
          | (rw [if_neg (show ¬ k = 0 by omega), if_neg (show ¬ sTs S t.toNat = 2 by omega), if_pos (by omega)]; done)
          | (rw [if_neg (show ¬ k = 0 by omega), if_neg (show ¬ sTs S t.toNat = 2 by omega), if_neg (by omega)]; done)
          | (exfalso; omega)
      · skip
        refine g_iload_n rfl rfl ?_
        refine g_if_lt rfl (fun cq32 => ?_) (fun cq32 => ?_)
        · skip
          refine g_iconst rfl ?_
          refine g_goto rfl ?_
          refine g_iret rfl ?_
          refine ⟨rfl, ?_⟩
          rw [thing_1 ht]
          first
            | (rw [if_pos (show k = 0 by omega)]; done)
            | (rw [if_neg (show ¬ k = 0 by omega), if_pos (show sTs S t.toNat = 2 by omega), if_pos (by omega)]; done)
            | (rw [if_neg (show ¬ k = 0 by omega), if_pos (show sTs S t.toNat = 2 by omega), if_neg (by omega)]; done)
            | (rw [if_neg (show ¬ k = 0 by omega), if_neg (show ¬ sTs S t.toNat = 2 by omega), if_pos (by omega)]; done)
            | (rw [if_neg (show ¬ k = 0 by omega), if_neg (show ¬ sTs S t.toNat = 2 by omega), if_neg (by omega)]; done)
            | (exfalso; omega)
        · skip
          refine g_iload_n rfl rfl ?_
          refine g_iload rfl rfl ?_
          refine g_icmp_le rfl (fun cq38 => ?_) (fun cq38 => ?_)
          · skip
            refine g_aload_n rfl rfl ?_
            refine g_getR rfl (ci.1.kd 0 (by omega) rfl) (ci.1.rf 11 (by omega) rfl) ?_
            refine g_iload_n rfl rfl ?_
            refine g_iload_n rfl rfl ?_
            refine g_iconst rfl ?_
            refine g_isub rfl (by omega) (by omega) ?_
            refine g_top (v2 := aI ((((k - 1).toNat : Nat) : Int))) (congrArg aI (by omega)) ?_
            refine g_callVJ [aI t, aI ((((k - 1).toNat : Nat) : Int))] [] rfl rfl rfl rfl (Nat.le_of_ble_eq_true rfl) (ci.1.kd 7 (by omega) rfl) (t_partOf (by omega) ci xt ok t ht (k - 1).toNat (by omega)) ?_
            rintro r hx ⟨ehx, rfl⟩
            rw [ehx]
            clear ehx hx
            have hp3 := ok.p ht (k := (k - 1).toNat) (by omega)
            have e20 : (2 : Int) ^ 20 = 1048576 := by decide
            rw [e20] at hp3
            refine g_l2i2 rfl (by omega) (by omega) ?_
            refine g_iret rfl ?_
            refine ⟨rfl, ?_⟩
            rw [thing_1 ht]
            first
              | (rw [if_pos (show k = 0 by omega)]; done)
              | (rw [if_neg (show ¬ k = 0 by omega), if_pos (show sTs S t.toNat = 2 by omega), if_pos (by omega)]; done)
              | (rw [if_neg (show ¬ k = 0 by omega), if_pos (show sTs S t.toNat = 2 by omega), if_neg (by omega)]; done)
              | (rw [if_neg (show ¬ k = 0 by omega), if_neg (show ¬ sTs S t.toNat = 2 by omega), if_pos (by omega)]; done)
              | (rw [if_neg (show ¬ k = 0 by omega), if_neg (show ¬ sTs S t.toNat = 2 by omega), if_neg (by omega)]; done)
              | (exfalso; omega)
          · skip
            refine g_iconst rfl ?_
            refine g_goto rfl ?_
            refine g_iret rfl ?_
            refine ⟨rfl, ?_⟩
            rw [thing_1 ht]
            first
              | (rw [if_pos (show k = 0 by omega)]; done)
              | (rw [if_neg (show ¬ k = 0 by omega), if_pos (show sTs S t.toNat = 2 by omega), if_pos (by omega)]; done)
              | (rw [if_neg (show ¬ k = 0 by omega), if_pos (show sTs S t.toNat = 2 by omega), if_neg (by omega)]; done)
              | (rw [if_neg (show ¬ k = 0 by omega), if_neg (show ¬ sTs S t.toNat = 2 by omega), if_pos (by omega)]; done)
              | (rw [if_neg (show ¬ k = 0 by omega), if_neg (show ¬ sTs S t.toNat = 2 by omega), if_neg (by omega)]; done)
              | (exfalso; omega)
    · skip
      refine g_iconst rfl ?_
      refine g_goto rfl ?_
      refine g_istore (l1 := [(4, aI 4), (3, aI ((sTs S t.toNat))), (0, aO (some c)), (1, aI t), (2, aI k)]) rfl rfl ?_
      refine g_iload_n rfl rfl ?_
      refine g_if_lt rfl (fun cq28 => ?_) (fun cq28 => ?_)
      · skip
        refine g_iconst rfl ?_
        refine g_goto rfl ?_
        refine g_iret rfl ?_
        refine ⟨rfl, ?_⟩
        rw [thing_1 ht]
        first
          | (rw [if_pos (show k = 0 by omega)]; done)
          | (rw [if_neg (show ¬ k = 0 by omega), if_pos (show sTs S t.toNat = 2 by omega), if_pos (by omega)]; done)
          | (rw [if_neg (show ¬ k = 0 by omega), if_pos (show sTs S t.toNat = 2 by omega), if_neg (by omega)]; done)
          | (rw [if_neg (show ¬ k = 0 by omega), if_neg (show ¬ sTs S t.toNat = 2 by omega), if_pos (by omega)]; done)
          | (rw [if_neg (show ¬ k = 0 by omega), if_neg (show ¬ sTs S t.toNat = 2 by omega), if_neg (by omega)]; done)
          | (exfalso; omega)
      · skip
        refine g_iload_n rfl rfl ?_
        refine g_if_lt rfl (fun cq32 => ?_) (fun cq32 => ?_)
        · skip
          refine g_iconst rfl ?_
          refine g_goto rfl ?_
          refine g_iret rfl ?_
          refine ⟨rfl, ?_⟩
          rw [thing_1 ht]
          first
            | (rw [if_pos (show k = 0 by omega)]; done)
            | (rw [if_neg (show ¬ k = 0 by omega), if_pos (show sTs S t.toNat = 2 by omega), if_pos (by omega)]; done)
            | (rw [if_neg (show ¬ k = 0 by omega), if_pos (show sTs S t.toNat = 2 by omega), if_neg (by omega)]; done)
            | (rw [if_neg (show ¬ k = 0 by omega), if_neg (show ¬ sTs S t.toNat = 2 by omega), if_pos (by omega)]; done)
            | (rw [if_neg (show ¬ k = 0 by omega), if_neg (show ¬ sTs S t.toNat = 2 by omega), if_neg (by omega)]; done)
            | (exfalso; omega)
        · skip
          refine g_iload_n rfl rfl ?_
          refine g_iload rfl rfl ?_
          refine g_icmp_le rfl (fun cq38 => ?_) (fun cq38 => ?_)
          · skip
            refine g_aload_n rfl rfl ?_
            refine g_getR rfl (ci.1.kd 0 (by omega) rfl) (ci.1.rf 11 (by omega) rfl) ?_
            refine g_iload_n rfl rfl ?_
            refine g_iload_n rfl rfl ?_
            refine g_iconst rfl ?_
            refine g_isub rfl (by omega) (by omega) ?_
            refine g_top (v2 := aI ((((k - 1).toNat : Nat) : Int))) (congrArg aI (by omega)) ?_
            refine g_callVJ [aI t, aI ((((k - 1).toNat : Nat) : Int))] [] rfl rfl rfl rfl (Nat.le_of_ble_eq_true rfl) (ci.1.kd 7 (by omega) rfl) (t_partOf (by omega) ci xt ok t ht (k - 1).toNat (by omega)) ?_
            rintro r hx ⟨ehx, rfl⟩
            rw [ehx]
            clear ehx hx
            have hp3 := ok.p ht (k := (k - 1).toNat) (by omega)
            have e20 : (2 : Int) ^ 20 = 1048576 := by decide
            rw [e20] at hp3
            refine g_l2i2 rfl (by omega) (by omega) ?_
            refine g_iret rfl ?_
            refine ⟨rfl, ?_⟩
            rw [thing_1 ht]
            first
              | (rw [if_pos (show k = 0 by omega)]; done)
              | (rw [if_neg (show ¬ k = 0 by omega), if_pos (show sTs S t.toNat = 2 by omega), if_pos (by omega)]; done)
              | (rw [if_neg (show ¬ k = 0 by omega), if_pos (show sTs S t.toNat = 2 by omega), if_neg (by omega)]; done)
              | (rw [if_neg (show ¬ k = 0 by omega), if_neg (show ¬ sTs S t.toNat = 2 by omega), if_pos (by omega)]; done)
              | (rw [if_neg (show ¬ k = 0 by omega), if_neg (show ¬ sTs S t.toNat = 2 by omega), if_neg (by omega)]; done)
              | (exfalso; omega)
          · skip
            refine g_iconst rfl ?_
            refine g_goto rfl ?_
            refine g_iret rfl ?_
            refine ⟨rfl, ?_⟩
            rw [thing_1 ht]
            first
              | (rw [if_pos (show k = 0 by omega)]; done)
              | (rw [if_neg (show ¬ k = 0 by omega), if_pos (show sTs S t.toNat = 2 by omega), if_pos (by omega)]; done)
              | (rw [if_neg (show ¬ k = 0 by omega), if_pos (show sTs S t.toNat = 2 by omega), if_neg (by omega)]; done)
              | (rw [if_neg (show ¬ k = 0 by omega), if_neg (show ¬ sTs S t.toNat = 2 by omega), if_pos (by omega)]; done)
              | (rw [if_neg (show ¬ k = 0 by omega), if_neg (show ¬ sTs S t.toNat = 2 by omega), if_neg (by omega)]; done)
              | (exfalso; omega)
  · skip
    refine g_iload_n rfl rfl ?_
    refine g_iret rfl ?_
    refine ⟨rfl, ?_⟩
    rw [thing_1 ht]
    first
      | (rw [if_pos (show k = 0 by omega)]; done)
      | (rw [if_neg (show ¬ k = 0 by omega), if_pos (show sTs S t.toNat = 2 by omega), if_pos (by omega)]; done)
      | (rw [if_neg (show ¬ k = 0 by omega), if_pos (show sTs S t.toNat = 2 by omega), if_neg (by omega)]; done)
      | (rw [if_neg (show ¬ k = 0 by omega), if_neg (show ¬ sTs S t.toNat = 2 by omega), if_pos (by omega)]; done)
      | (rw [if_neg (show ¬ k = 0 by omega), if_neg (show ¬ sTs S t.toNat = 2 by omega), if_neg (by omega)]; done)
      | (exfalso; omega)
set_option maxRecDepth 100000 in
theorem x_thing0 {w : aW} {d : Nat} (hd : 8 ≤ d) {h : aH} {c : Nat} (ci : CI h c) {S : aS} (xt : XT h c S) (ok : OkT S) (t k : Int) (ht : ¬(0 ≤ t ∧ t < sT S)) : WP w d 207 [aO (some c), aI t, aI k] h (RI (fun r h1 => h1 = h ∧ r = thingF S t k)) := by
  obtain ⟨d, rfl⟩ : ∃ d1, d = d1 + 1 := ⟨d - 1, by omega⟩
  refine WP.enter (cd := cd_X11_thing) rfl ?_
  have hls : largs 0 [aO (some c), aI t, aI k] = [(0, aO (some c)), (1, aI t), (2, aI k)] := rfl
  rw [hls]
  clear hls
  refine g_aload_n rfl rfl ?_
  refine g_getR rfl (ci.1.kd 0 (by omega) rfl) (ci.1.rf 11 (by omega) rfl) ?_
  refine g_iload_n rfl rfl ?_
  refine g_callVI [aI t] [] rfl rfl rfl rfl (Nat.le_of_ble_eq_true rfl) (ci.1.kd 7 (by omega) rfl) (t_sortOf (by omega) ci xt ok t) ?_
  rintro r hx ⟨ehx, rfl⟩
  rw [ehx, if_neg ht]
  clear ehx hx
  refine g_istore_n (l1 := [(3, aI ((-1))), (0, aO (some c)), (1, aI t), (2, aI k)]) rfl rfl ?_
  refine g_iload_n rfl rfl ?_
  refine g_if_ne rfl (fun cq10 => ?_) (fun cq10 => ?_)
  · skip
    refine g_iload_n rfl rfl ?_
    refine g_iconst rfl ?_
    refine g_icmp_ne_t rfl (by omega) ?_
    refine g_iconst rfl ?_
    refine g_istore (l1 := [(4, aI 3), (3, aI ((-1))), (0, aO (some c)), (1, aI t), (2, aI k)]) rfl rfl ?_
    refine g_iload_n rfl rfl ?_
    refine g_if_lt_t rfl (by omega) ?_
    refine g_iconst rfl ?_
    refine g_goto rfl ?_
    refine g_iret rfl ?_
    refine ⟨rfl, ?_⟩
    rw [thing_0 ht]
    first
      | (rw [if_pos (by omega)]; done)
      | (rw [if_neg (by omega)]; done)
  · skip
    refine g_iload_n rfl rfl ?_
    refine g_iret rfl ?_
    refine ⟨rfl, ?_⟩
    rw [thing_0 ht]
    first
      | (rw [if_pos (by omega)]; done)
      | (rw [if_neg (by omega)]; done)
set_option maxRecDepth 100000 in
theorem m_isThing2 {w : aW} {d : Nat} (hd : 2 ≤ d) {h : aH} {o : Nat} (ms : MS h o) (V : Nat → Nat → Int) {S : aS} (ok : OkT S) (n : V o 7 = (sT S : Int)) (t : Int) : WP w d 281 [aO (some o), aI t] (hw h V) (RI (fun r h1 => h1 = hw h V ∧ r = if 0 ≤ t ∧ t < sT S then 1 else 0)) := by
  obtain ⟨d, rfl⟩ : ∃ d1, d = d1 + 1 := ⟨d - 1, by omega⟩
  refine WP.enter (cd := cd_X12_isThing) rfl ?_
  have hok := ok.1
  have hls : largs 0 [aO (some o), aI t] = [(0, aO (some o)), (1, aI t)] := rfl
  rw [hls]
  clear hls
  refine g_iload_n rfl rfl ?_
  refine g_i2l rfl ?_
  refine g_lconst0 rfl ?_
  refine g_aload_n rfl rfl ?_
  refine g_getI rfl ms.1 ?_
  refine g_top (v2 := aI ((sT S : Int))) (congrArg aI (by exact n)) ?_
  refine g_iconst rfl ?_
  refine g_isub rfl (by omega) (by omega) ?_
  refine g_i2l rfl ?_
  refine g_callSI [aJ t, aJ 0, aJ (((sT S : Int)) - 1)] [] rfl rfl rfl rfl (Nat.le_of_ble_eq_true rfl) (c_in (by omega) _ _ _ _) ?_
  rintro r1 _ ⟨rfl, rfl⟩
  refine g_zret rfl (by omega) ?_
  refine ⟨rfl, ?_⟩
  split <;> split <;> omega
set_option maxRecDepth 100000 in
theorem m_thing1 {w : aW} {d : Nat} (hd : 8 ≤ d) {h : aH} {o : Nat} (ms : MS h o) (V : Nat → Nat → Int) {S : aS} (ok : OkT S) (mt : MT V o S) (t k : Int) (ht : 0 ≤ t ∧ t < sT S) : WP w d 319 [aO (some o), aI t, aI k] (hw h V) (RI (fun r h1 => h1 = hw h (vset V o 31 0) ∧ r = thingF S t k)) := by
  obtain ⟨d, rfl⟩ : ∃ d1, d = d1 + 1 := ⟨d - 1, by omega⟩
  refine WP.enter (cd := cd_X12_thing) rfl ?_
  have hs3 := (ok.2 t.toNat (by omega)).1
  have hok := ok.1
  have hls : largs 0 [aO (some o), aI t, aI k] = [(0, aO (some o)), (1, aI t), (2, aI k)] := rfl
  rw [hls]
  clear hls
  refine g_aload_n rfl rfl ?_
  refine g_iconst rfl ?_
  refine g_putI rfl ms.1 ?_
  refine g_hp (h2 := hw h (vset V o 31 0)) rfl ?_
  refine g_aload_n rfl rfl ?_
  refine g_iload_n rfl rfl ?_
  refine g_callVI [aI t] [] rfl rfl rfl rfl (Nat.le_of_ble_eq_true rfl) ms.1 (m_isThing2 (by omega) ms (vset V o 31 0) ok (by rw [vset_ne _ _ _ _ (by omega)]; exact mt.1) t) ?_
  rintro r hx ⟨ehx, rfl⟩
  rw [ehx, if_pos ht]
  clear ehx hx
  refine g_if_ne_t rfl (by omega) ?_
  refine g_iload_n rfl rfl ?_
  refine g_if_ne rfl (fun cq24 => ?_) (fun cq24 => ?_)
  · skip
    refine g_iload_n rfl rfl ?_
    refine g_i2l rfl ?_
    refine g_lconst1 rfl ?_
    refine g_aload_n rfl rfl ?_
    refine g_getR rfl ms.1 (mr_sort ms) ?_
    refine g_iload_n rfl rfl ?_
    refine g_iald (i := t.toNat) rfl (mt_sort ms) (by omega) (by omega) ?_
    refine g_top (v2 := aI ((sTs S t.toNat))) (congrArg aI (by show vset V o 31 0 (o + 4) t.toNat = _; rw [vset_ne _ _ _ _ (by omega)]; exact (mt.2 t.toNat (by omega)).1)) ?_
    refine g_iconst rfl ?_
    refine g_icmp_ne rfl (fun cq46 => ?_) (fun cq46 => ?_)
    · skip
      refine g_ldc2 rfl ?_
      refine g_callSI [aJ k, aJ 1, aJ 3] [] rfl rfl rfl rfl (Nat.le_of_ble_eq_true rfl) (c_in (by omega) _ _ _ _) ?_
      rintro r1 _ ⟨rfl, rfl⟩
      refine g_b_eq rfl (fun cq61 => ?_) (fun cq61 => ?_)
      · skip
        refine g_iconst rfl ?_
        refine g_iret rfl ?_
        refine ⟨rfl, ?_⟩
        rw [thing_1 ht]
        first
          | (rw [if_pos (show k = 0 by omega)]; done)
          | (rw [if_neg (show ¬ k = 0 by omega), if_pos (show sTs S t.toNat = 2 by omega), if_pos (by omega)]; done)
          | (rw [if_neg (show ¬ k = 0 by omega), if_pos (show sTs S t.toNat = 2 by omega), if_neg (by omega)]; done)
          | (rw [if_neg (show ¬ k = 0 by omega), if_neg (show ¬ sTs S t.toNat = 2 by omega), if_pos (by omega)]; done)
          | (rw [if_neg (show ¬ k = 0 by omega), if_neg (show ¬ sTs S t.toNat = 2 by omega), if_neg (by omega)]; done)
          | (exfalso; omega)
      · skip
        refine g_aload_n rfl rfl ?_
        refine g_getR rfl ms.1 (mr_part ms) ?_
        refine g_iconst rfl ?_
        refine g_iload_n rfl rfl ?_
        refine g_imul rfl (by omega) (by omega) ?_
        refine g_iload_n rfl rfl ?_
        refine g_iadd rfl (by omega) (by omega) ?_
        refine g_iconst rfl ?_
        refine g_isub rfl (by omega) (by omega) ?_
        refine g_iald (i := 4 * t.toNat + (k - 1).toNat) rfl (mt_part ms) (by omega) (by omega) ?_
        refine g_top (v2 := aI ((sTp S t.toNat (k - 1).toNat))) (congrArg aI (by show vset V o 31 0 (o + 5) (4 * t.toNat + (k - 1).toNat) = _; rw [vset_ne _ _ _ _ (by omega)]; exact (mt.2 t.toNat (by omega)).2 (k - 1).toNat (by omega))) ?_
        refine g_goto rfl ?_
        refine g_iret rfl ?_
        refine ⟨rfl, ?_⟩
        rw [thing_1 ht]
        first
          | (rw [if_pos (show k = 0 by omega)]; done)
          | (rw [if_neg (show ¬ k = 0 by omega), if_pos (show sTs S t.toNat = 2 by omega), if_pos (by omega)]; done)
          | (rw [if_neg (show ¬ k = 0 by omega), if_pos (show sTs S t.toNat = 2 by omega), if_neg (by omega)]; done)
          | (rw [if_neg (show ¬ k = 0 by omega), if_neg (show ¬ sTs S t.toNat = 2 by omega), if_pos (by omega)]; done)
          | (rw [if_neg (show ¬ k = 0 by omega), if_neg (show ¬ sTs S t.toNat = 2 by omega), if_neg (by omega)]; done)
          | (exfalso; omega)
    · skip
      refine g_ldc2 rfl ?_
      refine g_goto rfl ?_
      refine g_callSI [aJ k, aJ 1, aJ 4] [] rfl rfl rfl rfl (Nat.le_of_ble_eq_true rfl) (c_in (by omega) _ _ _ _) ?_
      rintro r2 _ ⟨rfl, rfl⟩
      refine g_b_eq rfl (fun cq61 => ?_) (fun cq61 => ?_)
      · skip
        refine g_iconst rfl ?_
        refine g_iret rfl ?_
        refine ⟨rfl, ?_⟩
        rw [thing_1 ht]
        first
          | (rw [if_pos (show k = 0 by omega)]; done)
          | (rw [if_neg (show ¬ k = 0 by omega), if_pos (show sTs S t.toNat = 2 by omega), if_pos (by omega)]; done)
          | (rw [if_neg (show ¬ k = 0 by omega), if_pos (show sTs S t.toNat = 2 by omega), if_neg (by omega)]; done)
          | (rw [if_neg (show ¬ k = 0 by omega), if_neg (show ¬ sTs S t.toNat = 2 by omega), if_pos (by omega)]; done)
          | (rw [if_neg (show ¬ k = 0 by omega), if_neg (show ¬ sTs S t.toNat = 2 by omega), if_neg (by omega)]; done)
          | (exfalso; omega)
      · skip
        refine g_aload_n rfl rfl ?_
        refine g_getR rfl ms.1 (mr_part ms) ?_
        refine g_iconst rfl ?_
        refine g_iload_n rfl rfl ?_
        refine g_imul rfl (by omega) (by omega) ?_
        refine g_iload_n rfl rfl ?_
        refine g_iadd rfl (by omega) (by omega) ?_
        refine g_iconst rfl ?_
        refine g_isub rfl (by omega) (by omega) ?_
        refine g_iald (i := 4 * t.toNat + (k - 1).toNat) rfl (mt_part ms) (by omega) (by omega) ?_
        refine g_top (v2 := aI ((sTp S t.toNat (k - 1).toNat))) (congrArg aI (by show vset V o 31 0 (o + 5) (4 * t.toNat + (k - 1).toNat) = _; rw [vset_ne _ _ _ _ (by omega)]; exact (mt.2 t.toNat (by omega)).2 (k - 1).toNat (by omega))) ?_
        refine g_goto rfl ?_
        refine g_iret rfl ?_
        refine ⟨rfl, ?_⟩
        rw [thing_1 ht]
        first
          | (rw [if_pos (show k = 0 by omega)]; done)
          | (rw [if_neg (show ¬ k = 0 by omega), if_pos (show sTs S t.toNat = 2 by omega), if_pos (by omega)]; done)
          | (rw [if_neg (show ¬ k = 0 by omega), if_pos (show sTs S t.toNat = 2 by omega), if_neg (by omega)]; done)
          | (rw [if_neg (show ¬ k = 0 by omega), if_neg (show ¬ sTs S t.toNat = 2 by omega), if_pos (by omega)]; done)
          | (rw [if_neg (show ¬ k = 0 by omega), if_neg (show ¬ sTs S t.toNat = 2 by omega), if_neg (by omega)]; done)
          | (exfalso; omega)
  · skip
    refine g_aload_n rfl rfl ?_
    refine g_getR rfl ms.1 (mr_sort ms) ?_
    refine g_iload_n rfl rfl ?_
    refine g_iald (i := t.toNat) rfl (mt_sort ms) (by omega) (by omega) ?_
    refine g_top (v2 := aI ((sTs S t.toNat))) (congrArg aI (by show vset V o 31 0 (o + 4) t.toNat = _; rw [vset_ne _ _ _ _ (by omega)]; exact (mt.2 t.toNat (by omega)).1)) ?_
    refine g_goto rfl ?_
    refine g_iret rfl ?_
    refine ⟨rfl, ?_⟩
    rw [thing_1 ht]
    first
      | (rw [if_pos (show k = 0 by omega)]; done)
      | (rw [if_neg (show ¬ k = 0 by omega), if_pos (show sTs S t.toNat = 2 by omega), if_pos (by omega)]; done)
      | (rw [if_neg (show ¬ k = 0 by omega), if_pos (show sTs S t.toNat = 2 by omega), if_neg (by omega)]; done)
      | (rw [if_neg (show ¬ k = 0 by omega), if_neg (show ¬ sTs S t.toNat = 2 by omega), if_pos (by omega)]; done)
      | (rw [if_neg (show ¬ k = 0 by omega), if_neg (show ¬ sTs S t.toNat = 2 by omega), if_neg (by omega)]; done)
      | (exfalso; omega)
set_option maxRecDepth 100000 in
theorem m_thing0 {w : aW} {d : Nat} (hd : 8 ≤ d) {h : aH} {o : Nat} (ms : MS h o) (V : Nat → Nat → Int) {S : aS} (ok : OkT S) (mt : MT V o S) (t k : Int) (ht : ¬(0 ≤ t ∧ t < sT S)) : WP w d 319 [aO (some o), aI t, aI k] (hw h V) (RI (fun r h1 => h1 = hw h (vset V o 31 0) ∧ r = thingF S t k)) := by
  obtain ⟨d, rfl⟩ : ∃ d1, d = d1 + 1 := ⟨d - 1, by omega⟩
  refine WP.enter (cd := cd_X12_thing) rfl ?_
  have hls : largs 0 [aO (some o), aI t, aI k] = [(0, aO (some o)), (1, aI t), (2, aI k)] := rfl
  rw [hls]
  clear hls
  refine g_aload_n rfl rfl ?_
  refine g_iconst rfl ?_
  refine g_putI rfl ms.1 ?_
  refine g_hp (h2 := hw h (vset V o 31 0)) rfl ?_
  refine g_aload_n rfl rfl ?_
  refine g_iload_n rfl rfl ?_
  refine g_callVI [aI t] [] rfl rfl rfl rfl (Nat.le_of_ble_eq_true rfl) ms.1 (m_isThing2 (by omega) ms (vset V o 31 0) ok (by rw [vset_ne _ _ _ _ (by omega)]; exact mt.1) t) ?_
  rintro r hx ⟨ehx, rfl⟩
  rw [ehx, if_neg ht]
  clear ehx hx
  refine g_if_ne_f rfl (by omega) ?_
  refine g_iload_n rfl rfl ?_
  refine g_if_ne rfl (fun cq14 => ?_) (fun cq14 => ?_)
  · skip
    refine g_iconst rfl ?_
    refine g_iret rfl ?_
    refine ⟨rfl, ?_⟩
    rw [thing_0 ht]
    first
      | (rw [if_pos (by omega)]; done)
      | (rw [if_neg (by omega)]; done)
  · skip
    refine g_iconst rfl ?_
    refine g_goto rfl ?_
    refine g_iret rfl ?_
    refine ⟨rfl, ?_⟩
    rw [thing_0 ht]
    first
      | (rw [if_pos (by omega)]; done)
      | (rw [if_neg (by omega)]; done)
