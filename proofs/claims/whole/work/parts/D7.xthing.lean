/-! the class's things: printed by wip/whole/d7.py -/
theorem t_sortOf {w : aW} {d : Nat} (hd : 1 ≤ d) {h : aH} {c : Nat} (ci : CI h c) {S : aS} (xt : XT h c S) (ok : OkT S) (t : Int) : WP w d 189 [aO (some (c + 7)), aI t] h (RI (fun r h1 => h1 = h ∧ r = if 0 ≤ t ∧ t < sT S then sTs S t.toNat else -1)) := by
  obtain ⟨d, rfl⟩ : ∃ d1, d = d1 + 1 := ⟨d - 1, by omega⟩
  refine WP.enter (cd := cd_X8_sortOf) rfl ?_
  have G0 := Gr.refl ci
  have hn := ok.1
  have hls : largs 0 [aO (some (c + 7)), aI t] = [(0, aO (some (c + 7))), (1, aI t)] := rfl
  rw [hls]
  clear hls
  refine g_iload_n rfl rfl ?_
  refine g_if_lt rfl (fun c1 => ?_) (fun c1 => ?_)
  · skip
    refine g_iconst rfl ?_
    refine g_goto rfl ?_
    refine g_iret rfl ?_
    refine ⟨rfl, ?_⟩
    first
      | (rw [if_neg (by omega)])
      | (rw [if_pos (by omega)]
         exact (xt.2 t.toNat (by omega)).1)
  · skip
    refine g_iload_n rfl rfl ?_
    refine g_aload_n rfl rfl ?_
    refine g_getI rfl (G0.cs.kd 7 (by omega) rfl) ?_
    refine g_top (v2 := aI ((sT S : Int))) (congrArg aI (by exact xt.1)) ?_
    refine g_icmp_ge rfl (fun c9 => ?_) (fun c9 => ?_)
    · skip
      refine g_iconst rfl ?_
      refine g_goto rfl ?_
      refine g_iret rfl ?_
      refine ⟨rfl, ?_⟩
      first
        | (rw [if_neg (by omega)])
        | (rw [if_pos (by omega)]
           exact (xt.2 t.toNat (by omega)).1)
    · skip
      refine g_iload_n rfl rfl ?_
      refine g_bipush rfl ?_
      refine g_icmp_lt rfl (fun c15 => ?_) (fun c15 => ?_)
      · skip
        refine g_aload_n rfl rfl ?_
        refine g_getR rfl (G0.cs.kd 7 (by omega) rfl) (G0.cs.rf 9 (by omega) rfl) ?_
        refine g_iload_n rfl rfl ?_
        refine g_iald (i := t.toNat) rfl (G0.cs.ar 8 (by omega) rfl) (by omega) (by omega) ?_
        refine g_top (v2 := aI (hV h (c + 8) t.toNat)) (congrArg aI (by rfl)) ?_
        refine g_iret rfl ?_
        refine ⟨rfl, ?_⟩
        first
          | (rw [if_neg (by omega)])
          | (rw [if_pos (by omega)]
             exact (xt.2 t.toNat (by omega)).1)
      · skip
        refine g_iconst rfl ?_
        refine g_goto rfl ?_
        refine g_iret rfl ?_
        refine ⟨rfl, ?_⟩
        first
          | (rw [if_neg (by omega)])
          | (rw [if_pos (by omega)]
             exact (xt.2 t.toNat (by omega)).1)
theorem t_partOf {w : aW} {d : Nat} (hd : 2 ≤ d) {h : aH} {c : Nat} (ci : CI h c) {S : aS} (xt : XT h c S) (ok : OkT S) (t : Int) (ht : 0 ≤ t ∧ t < sT S) (i : Nat) (hi : i < 4) : WP w d 190 [aO (some (c + 7)), aI t, aI ((i : Int))] h (RJ (fun r h1 => h1 = h ∧ r = sTp S t.toNat i)) := by
  obtain ⟨d, rfl⟩ : ∃ d1, d = d1 + 1 := ⟨d - 1, by omega⟩
  refine WP.enter (cd := cd_X8_partOf) rfl ?_
  have G0 := Gr.refl ci
  have hn := ok.1
  have hs := (ok.2 t.toNat (by omega)).1
  have hls : largs 0 [aO (some (c + 7)), aI t, aI ((i : Int))] = [(0, aO (some (c + 7))), (1, aI t), (2, aI ((i : Int)))] := rfl
  rw [hls]
  clear hls
  refine g_aload_n rfl rfl ?_
  refine g_iload_n rfl rfl ?_
  refine g_callVI [aI t] [] rfl rfl rfl rfl (Nat.le_of_ble_eq_true rfl) (G0.cs.kd 7 (by omega) rfl) (t_sortOf (by omega) ci xt ok t) ?_
  rintro _ hx ⟨ehx, rfl⟩
  rw [ehx]
  clear ehx hx
  rw [if_pos ht]
  refine g_if_lt_f rfl (by omega) ?_
  refine g_iload_n rfl rfl ?_
  refine g_if_lt_f rfl (by omega) ?_
  refine g_iload_n rfl rfl ?_
  refine g_iconst rfl ?_
  refine g_icmp_le_t rfl (by omega) ?_
  refine g_aload_n rfl rfl ?_
  refine g_getR rfl (G0.cs.kd 7 (by omega) rfl) (G0.cs.rf 10 (by omega) rfl) ?_
  refine g_iconst rfl ?_
  refine g_iload_n rfl rfl ?_
  refine g_imul rfl (by omega) (by omega) ?_
  refine g_iload_n rfl rfl ?_
  refine g_iadd rfl (by omega) (by omega) ?_
  refine g_lald (i := (4 * t.toNat + i)) rfl (G0.cs.ar 9 (by omega) rfl) (by omega) (by omega) ?_
  refine g_top (v2 := aJ (hV h (c + 9) ((4 * t.toNat + i)))) (congrArg aJ (by rfl)) ?_
  refine g_lret rfl ?_
  exact ⟨rfl, (xt.2 t.toNat (by omega)).2 i hi⟩
theorem t_wholeAt {w : aW} {d : Nat} (hd : 4 ≤ d) {h : aH} {c : Nat} (ci : CI h c) {S : aS} (xt : XT h c S) (ok : OkT S) (t : Int) (ht : 0 ≤ t ∧ t < sT S) (i : Nat) (hi : i < 4) : WP w d 191 [aO (some (c + 7)), aI t, aI ((i : Int))] h (RO (fun r h1 => ∃ p, r = some p ∧ Gr h h1 c 1 ∧ WB h1 c p (sTp S t.toNat i) 20)) := by
  obtain ⟨d, rfl⟩ : ∃ d1, d = d1 + 1 := ⟨d - 1, by omega⟩
  refine WP.enter (cd := cd_X8_wholeAt) rfl ?_
  have G0 := Gr.refl ci
  have hb := ok.p ht hi
  have hls : largs 0 [aO (some (c + 7)), aI t, aI ((i : Int))] = [(0, aO (some (c + 7))), (1, aI t), (2, aI ((i : Int)))] := rfl
  rw [hls]
  clear hls
  refine g_aload_n rfl rfl ?_
  refine g_getR rfl (G0.cs.kd 7 (by omega) rfl) (G0.cs.rf 7 (by omega) rfl) ?_
  refine g_aload_n rfl rfl ?_
  refine g_iload_n rfl rfl ?_
  refine g_iload_n rfl rfl ?_
  refine g_callVJ [aI t, aI ((i : Int))] [aO (some (c + 1))] rfl rfl rfl rfl (Nat.le_of_ble_eq_true rfl) (G0.cs.kd 7 (by omega) rfl) (t_partOf (by omega) G0.ci xt ok t ht i (by omega)) ?_
  rintro _ hx ⟨ehx, rfl⟩
  rw [ehx]
  clear ehx hx
  refine g_callVO [aJ (sTp S t.toNat i)] [] rfl rfl rfl rfl (Nat.le_of_ble_eq_true rfl) (G0.cs.kd 1 (by omega) rfl) (s_of (by omega) G0.ci (sTp S t.toNat i) (by (unfold r64; omega)) 20 (by exact hb) (by omega)) ?_
  rintro _ h1 ⟨p1, rfl, g1, wp1⟩
  have G1 := G0.trans g1
  refine g_aret rfl ?_
  exact ⟨p1, rfl, G1.mono (by omega), (wp1.up (by omega))⟩
theorem t_triple {w : aW} {d : Nat} (hd : 5 ≤ d) {h : aH} {c : Nat} (ci : CI h c) {S : aS} (xt : XT h c S) (ok : OkT S) (t : Int) (ht : 0 ≤ t ∧ t < sT S) : WP w d 192 [aO (some (c + 7)), aI t] h (RO (fun r h1 => ∃ p, r = some p ∧ Gr h h1 c 4 ∧ TB h1 c p (tpT S t) 20)) := by
  obtain ⟨d, rfl⟩ : ∃ d1, d = d1 + 1 := ⟨d - 1, by omega⟩
  refine WP.enter (cd := cd_X8_tripleOf) rfl ?_
  have G0 := Gr.refl ci
  have hls : largs 0 [aO (some (c + 7)), aI t] = [(0, aO (some (c + 7))), (1, aI t)] := rfl
  rw [hls]
  clear hls
  refine g_new rfl ?_
  obtain ⟨g1, ob1⟩ := Gr.mk (k := 19) (m := 3) G0.ci (by decide) (by decide)
  obtain ⟨t1, et1⟩ : ∃ t, t = hz h := ⟨_, rfl⟩
  obtain ⟨h1, eh1⟩ : ∃ hq9, hq9 = hnew h 19 3 := ⟨_, rfl⟩
  rw [← eh1, ← et1] at ob1
  rw [← eh1] at g1
  refine g_hp (h2 := h1) eh1.symm ?_
  refine g_top (v2 := aO (some t1)) (by rw [et1]) ?_
  have G1 := G0.trans g1
  refine g_dup rfl rfl ?_
  refine g_aload_n rfl rfl ?_
  refine g_iload_n rfl rfl ?_
  refine g_iconst rfl ?_
  refine g_callVO [aI t, aI 0] [aO (some t1), aO (some t1)] rfl rfl rfl rfl (Nat.le_of_ble_eq_true rfl) (G1.cs.kd 7 (by omega) rfl) (t_wholeAt (by omega) G1.ci (g1.xt G0.ci xt) ok t ht 0 (by omega)) ?_
  rintro _ h2 ⟨p2, rfl, g2, wp2⟩
  have G2 := G1.trans g2
  refine g_aload_n rfl rfl ?_
  refine g_iload_n rfl rfl ?_
  refine g_iconst rfl ?_
  refine g_callVO [aI t, aI 1] [aO (some p2), aO (some t1), aO (some t1)] rfl rfl rfl rfl (Nat.le_of_ble_eq_true rfl) (G2.cs.kd 7 (by omega) rfl) (t_wholeAt (by omega) G2.ci (g2.xt G1.ci (g1.xt G0.ci xt)) ok t ht 1 (by omega)) ?_
  rintro _ h3 ⟨p3, rfl, g3, wp3⟩
  have G3 := G2.trans g3
  refine g_aload_n rfl rfl ?_
  refine g_iload_n rfl rfl ?_
  refine g_iconst rfl ?_
  refine g_callVO [aI t, aI 2] [aO (some p3), aO (some p2), aO (some t1), aO (some t1)] rfl rfl rfl rfl (Nat.le_of_ble_eq_true rfl) (G3.cs.kd 7 (by omega) rfl) (t_wholeAt (by omega) G3.ci (g3.xt G2.ci (g2.xt G1.ci (g1.xt G0.ci xt))) ok t ht 2 (by omega)) ?_
  rintro _ h4 ⟨p4, rfl, g4, wp4⟩
  have G4 := G3.trans g4
  refine g_callIN [aO (some p2), aO (some p3), aO (some p4)] [aO (some t1)] rfl (by decide) rfl rfl rfl (Nat.le_of_ble_eq_true rfl) (g4.ob (g3.ob (g2.ob ob1))).2.2 (k_Triple (by omega) (g4.ob (g3.ob (g2.ob ob1))).2.2 (g4.ob (g3.ob (g2.ob ob1))).1 p2 p3 p4) ?_
  rintro _ rfl
  have c5 := ct3 (P := (sTp S t.toNat 0, sTp S t.toNat 1, sTp S t.toNat 2)) (k := 20) G4 (g4.ob (g3.ob (g2.ob ob1))) (by have := G0.2.1.1; omega) ((g4.wb (g3.wb wp2)).up (by omega)) ((g4.wb wp3).up (by omega)) (wp4.up (by omega))
  obtain ⟨h5, eh5⟩ : ∃ hq9, hq9 = pt3 h4 t1 p2 p3 p4 := ⟨_, rfl⟩
  refine g_hp (h2 := h5) (by rw [eh5]; rfl) ?_
  rw [← eh5] at c5
  have G5 := c5.1
  obtain ⟨q5x, q5y, q5w, f5, wq5x, wq5y, wq5w⟩ := c5.2.1
  refine g_aret rfl ?_
  exact ⟨t1, rfl, G5.mono (by omega), _, _, _, f5, (wq5x.up (by omega)), (wq5y.up (by omega)), (wq5w.up (by omega))⟩
theorem t_ring {w : aW} {d : Nat} (hd : 5 ≤ d) {h : aH} {c : Nat} (ci : CI h c) {S : aS} (xt : XT h c S) (ok : OkT S) (t : Int) (ht : 0 ≤ t ∧ t < sT S) : WP w d 193 [aO (some (c + 7)), aI t] h (RO (fun r h1 => ∃ p, r = some p ∧ Gr h h1 c 5 ∧ QB h1 c p (tpR S t) 20)) := by
  obtain ⟨d, rfl⟩ : ∃ d1, d = d1 + 1 := ⟨d - 1, by omega⟩
  refine WP.enter (cd := cd_X8_ringOf) rfl ?_
  have G0 := Gr.refl ci
  have hls : largs 0 [aO (some (c + 7)), aI t] = [(0, aO (some (c + 7))), (1, aI t)] := rfl
  rw [hls]
  clear hls
  refine g_new rfl ?_
  obtain ⟨g1, ob1⟩ := Gr.mk (k := 15) (m := 4) G0.ci (by decide) (by decide)
  obtain ⟨t1, et1⟩ : ∃ t, t = hz h := ⟨_, rfl⟩
  obtain ⟨h1, eh1⟩ : ∃ hq9, hq9 = hnew h 15 4 := ⟨_, rfl⟩
  rw [← eh1, ← et1] at ob1
  rw [← eh1] at g1
  refine g_hp (h2 := h1) eh1.symm ?_
  refine g_top (v2 := aO (some t1)) (by rw [et1]) ?_
  have G1 := G0.trans g1
  refine g_dup rfl rfl ?_
  refine g_aload_n rfl rfl ?_
  refine g_iload_n rfl rfl ?_
  refine g_iconst rfl ?_
  refine g_callVO [aI t, aI 0] [aO (some t1), aO (some t1)] rfl rfl rfl rfl (Nat.le_of_ble_eq_true rfl) (G1.cs.kd 7 (by omega) rfl) (t_wholeAt (by omega) G1.ci (g1.xt G0.ci xt) ok t ht 0 (by omega)) ?_
  rintro _ h2 ⟨p2, rfl, g2, wp2⟩
  have G2 := G1.trans g2
  refine g_aload_n rfl rfl ?_
  refine g_iload_n rfl rfl ?_
  refine g_iconst rfl ?_
  refine g_callVO [aI t, aI 1] [aO (some p2), aO (some t1), aO (some t1)] rfl rfl rfl rfl (Nat.le_of_ble_eq_true rfl) (G2.cs.kd 7 (by omega) rfl) (t_wholeAt (by omega) G2.ci (g2.xt G1.ci (g1.xt G0.ci xt)) ok t ht 1 (by omega)) ?_
  rintro _ h3 ⟨p3, rfl, g3, wp3⟩
  have G3 := G2.trans g3
  refine g_aload_n rfl rfl ?_
  refine g_iload_n rfl rfl ?_
  refine g_iconst rfl ?_
  refine g_callVO [aI t, aI 2] [aO (some p3), aO (some p2), aO (some t1), aO (some t1)] rfl rfl rfl rfl (Nat.le_of_ble_eq_true rfl) (G3.cs.kd 7 (by omega) rfl) (t_wholeAt (by omega) G3.ci (g3.xt G2.ci (g2.xt G1.ci (g1.xt G0.ci xt))) ok t ht 2 (by omega)) ?_
  rintro _ h4 ⟨p4, rfl, g4, wp4⟩
  have G4 := G3.trans g4
  refine g_aload_n rfl rfl ?_
  refine g_iload_n rfl rfl ?_
  refine g_iconst rfl ?_
  refine g_callVO [aI t, aI 3] [aO (some p4), aO (some p3), aO (some p2), aO (some t1), aO (some t1)] rfl rfl rfl rfl (Nat.le_of_ble_eq_true rfl) (G4.cs.kd 7 (by omega) rfl) (t_wholeAt (by omega) G4.ci (g4.xt G3.ci (g3.xt G2.ci (g2.xt G1.ci (g1.xt G0.ci xt)))) ok t ht 3 (by omega)) ?_
  rintro _ h5 ⟨p5, rfl, g5, wp5⟩
  have G5 := G4.trans g5
  refine g_callIN [aO (some p2), aO (some p3), aO (some p4), aO (some p5)] [aO (some t1)] rfl (by decide) rfl rfl rfl (Nat.le_of_ble_eq_true rfl) (g5.ob (g4.ob (g3.ob (g2.ob ob1)))).2.2 (k_Ring (by omega) (g5.ob (g4.ob (g3.ob (g2.ob ob1)))).2.2 (g5.ob (g4.ob (g3.ob (g2.ob ob1)))).1 p2 p3 p4 p5) ?_
  rintro _ rfl
  have c6 := ct4 (R := (sTp S t.toNat 0, sTp S t.toNat 1, sTp S t.toNat 2, sTp S t.toNat 3)) (k := 20) G5 (g5.ob (g4.ob (g3.ob (g2.ob ob1)))) (by have := G0.2.1.1; omega) ((g5.wb (g4.wb (g3.wb wp2))).up (by omega)) ((g5.wb (g4.wb wp3)).up (by omega)) ((g5.wb wp4).up (by omega)) (wp5.up (by omega))
  obtain ⟨h6, eh6⟩ : ∃ hq9, hq9 = pt4 h5 t1 p2 p3 p4 p5 := ⟨_, rfl⟩
  refine g_hp (h2 := h6) (by rw [eh6]; rfl) ?_
  rw [← eh6] at c6
  have G6 := c6.1
  obtain ⟨q6k, q6a, q6b, q6e, f6, wq6k, wq6a, wq6b, wq6e⟩ := c6.2.1
  refine g_aret rfl ?_
  exact ⟨t1, rfl, G6.mono (by omega), _, _, _, _, f6, (wq6k.up (by omega)), (wq6a.up (by omega)), (wq6b.up (by omega)), (wq6e.up (by omega))⟩
set_option maxHeartbeats 4000000 in
theorem t_keep {w : aW} {d : Nat} (hd : 5 ≤ d) {h : aH} {c : Nat} (ci : CI h c) {S : aS} (xt : XT h c S) (ok : OkT S) (s : Int) {a : Nat} {za : Int} {ja : Nat} (wa : WB h c a za ja) (hja : ja ≤ 382) {b : Nat} {zb : Int} {jb : Nat} (wb : WB h c b zb jb) (hjb : jb ≤ 382) {e : Nat} {ze : Int} {je : Nat} (we : WB h c e ze je) (hje : je ≤ 382) {f : Nat} {zf : Int} {jf : Nat} (wf : WB h c f zf jf) (hjf : jf ≤ 382) : WP w d 196 [aO (some (c + 7)), aI s, aO (some a), aO (some b), aO (some e), aO (some f)] h (RI (fun r h1 => KT h h1 c 8 ∧ r = (keepT S s (za, zb, ze, zf)).1 ∧ XT h1 c (keepT S s (za, zb, ze, zf)).2)) := by
  obtain ⟨d, rfl⟩ : ∃ d1, d = d1 + 1 := ⟨d - 1, by omega⟩
  refine WP.enter (cd := cd_X8_keep) rfl ?_
  have G0 := Gr.refl ci
  have hn := ok.1
  have hls : largs 0 [aO (some (c + 7)), aI s, aO (some a), aO (some b), aO (some e), aO (some f)] = [(0, aO (some (c + 7))), (1, aI s), (2, aO (some a)), (3, aO (some b)), (4, aO (some e)), (5, aO (some f))] := rfl
  rw [hls]
  clear hls
  refine g_aload_n rfl rfl ?_
  refine g_getR rfl (G0.cs.kd 7 (by omega) rfl) (G0.cs.rf 7 (by omega) rfl) ?_
  refine g_aload_n rfl rfl ?_
  refine g_ldc2 rfl ?_
  refine g_callVI [aO (some a), aJ 1048576] [] rfl rfl rfl rfl (Nat.le_of_ble_eq_true rfl) (G0.cs.kd 1 (by omega) rfl) (s_isWithin (by omega) G0.ci wa hja 1048576 (by omega)) ?_
  rintro _ h1 ⟨g1, rfl⟩
  have G1 := G0.trans g1
  refine g_b_eq rfl (fun c11 => ?_) (fun c11 => ?_)
  · skip
    refine g_bipush rfl ?_
    refine g_iret rfl ?_
    unfold keepT
    have hneg : ¬((sml za ∧ sml zb ∧ sml ze ∧ sml zf) ∧ sT S < 100) := by unfold sml; omega
    rw [if_neg hneg]
    exact ⟨⟨h1, hV h1, G1.mono (by omega), rfl, fun _ _ _ _ => rfl⟩, rfl, (g1.xt G0.ci xt)⟩
  · skip
    refine g_aload_n rfl rfl ?_
    refine g_getR rfl (G1.cs.kd 7 (by omega) rfl) (G1.cs.rf 7 (by omega) rfl) ?_
    refine g_aload_n rfl rfl ?_
    refine g_ldc2 rfl ?_
    refine g_callVI [aO (some b), aJ 1048576] [] rfl rfl rfl rfl (Nat.le_of_ble_eq_true rfl) (G1.cs.kd 1 (by omega) rfl) (s_isWithin (by omega) G1.ci (g1.wb wb) hjb 1048576 (by omega)) ?_
    rintro _ h2 ⟨g2, rfl⟩
    have G2 := G1.trans g2
    refine g_b_eq rfl (fun c25 => ?_) (fun c25 => ?_)
    · skip
      refine g_bipush rfl ?_
      refine g_iret rfl ?_
      unfold keepT
      have hneg : ¬((sml za ∧ sml zb ∧ sml ze ∧ sml zf) ∧ sT S < 100) := by unfold sml; omega
      rw [if_neg hneg]
      exact ⟨⟨h2, hV h2, G2.mono (by omega), rfl, fun _ _ _ _ => rfl⟩, rfl, (g2.xt G1.ci (g1.xt G0.ci xt))⟩
    · skip
      refine g_aload_n rfl rfl ?_
      refine g_getR rfl (G2.cs.kd 7 (by omega) rfl) (G2.cs.rf 7 (by omega) rfl) ?_
      refine g_aload rfl rfl ?_
      refine g_ldc2 rfl ?_
      refine g_callVI [aO (some e), aJ 1048576] [] rfl rfl rfl rfl (Nat.le_of_ble_eq_true rfl) (G2.cs.kd 1 (by omega) rfl) (s_isWithin (by omega) G2.ci (g2.wb (g1.wb we)) hje 1048576 (by omega)) ?_
      rintro _ h3 ⟨g3, rfl⟩
      have G3 := G2.trans g3
      refine g_b_eq rfl (fun c40 => ?_) (fun c40 => ?_)
      · skip
        refine g_bipush rfl ?_
        refine g_iret rfl ?_
        unfold keepT
        have hneg : ¬((sml za ∧ sml zb ∧ sml ze ∧ sml zf) ∧ sT S < 100) := by unfold sml; omega
        rw [if_neg hneg]
        exact ⟨⟨h3, hV h3, G3.mono (by omega), rfl, fun _ _ _ _ => rfl⟩, rfl, (g3.xt G2.ci (g2.xt G1.ci (g1.xt G0.ci xt)))⟩
      · skip
        refine g_aload_n rfl rfl ?_
        refine g_getR rfl (G3.cs.kd 7 (by omega) rfl) (G3.cs.rf 7 (by omega) rfl) ?_
        refine g_aload rfl rfl ?_
        refine g_ldc2 rfl ?_
        refine g_callVI [aO (some f), aJ 1048576] [] rfl rfl rfl rfl (Nat.le_of_ble_eq_true rfl) (G3.cs.kd 1 (by omega) rfl) (s_isWithin (by omega) G3.ci (g3.wb (g2.wb (g1.wb wf))) hjf 1048576 (by omega)) ?_
        rintro _ h4 ⟨g4, rfl⟩
        have G4 := G3.trans g4
        refine g_b_eq rfl (fun c55 => ?_) (fun c55 => ?_)
        · skip
          refine g_bipush rfl ?_
          refine g_iret rfl ?_
          unfold keepT
          have hneg : ¬((sml za ∧ sml zb ∧ sml ze ∧ sml zf) ∧ sT S < 100) := by unfold sml; omega
          rw [if_neg hneg]
          exact ⟨⟨h4, hV h4, G4.mono (by omega), rfl, fun _ _ _ _ => rfl⟩, rfl, (g4.xt G3.ci (g3.xt G2.ci (g2.xt G1.ci (g1.xt G0.ci xt))))⟩
        · skip
          refine g_aload_n rfl rfl ?_
          refine g_getI rfl (G4.cs.kd 7 (by omega) rfl) ?_
          refine g_top (v2 := aI ((sT S : Int))) (congrArg aI (by exact (g4.xt G3.ci (g3.xt G2.ci (g2.xt G1.ci (g1.xt G0.ci xt)))).1)) ?_
          refine g_if_lt_f rfl (by omega) ?_
          refine g_aload_n rfl rfl ?_
          refine g_getI rfl (G4.cs.kd 7 (by omega) rfl) ?_
          refine g_top (v2 := aI ((sT S : Int))) (congrArg aI (by exact (g4.xt G3.ci (g3.xt G2.ci (g2.xt G1.ci (g1.xt G0.ci xt)))).1)) ?_
          refine g_bipush rfl ?_
          refine g_icmp_lt rfl (fun c71 => ?_) (fun c71 => ?_)
          · skip
            refine g_aload_n rfl rfl ?_
            refine g_getR rfl (G4.cs.kd 7 (by omega) rfl) (G4.cs.rf 9 (by omega) rfl) ?_
            refine g_aload_n rfl rfl ?_
            refine g_getI rfl (G4.cs.kd 7 (by omega) rfl) ?_
            refine g_top (v2 := aI ((sT S : Int))) (congrArg aI (by exact (g4.xt G3.ci (g3.xt G2.ci (g2.xt G1.ci (g1.xt G0.ci xt)))).1)) ?_
            refine g_iload_n rfl rfl ?_
            refine g_iast (i := (sT S)) rfl (G4.cs.ar 8 (by omega) rfl) (by omega) (by omega) ?_
            refine g_hp (h2 := hw h4 (vset (hV h4) (c + 8) ((sT S)) s)) rfl ?_
            refine g_aload_n rfl rfl ?_
            refine g_getR rfl (G4.cs.kd 7 (by omega) rfl) (G4.cs.rf 10 (by omega) rfl) ?_
            refine g_iconst rfl ?_
            refine g_aload_n rfl rfl ?_
            refine g_getI rfl (G4.cs.kd 7 (by omega) rfl) ?_
            refine g_top (v2 := aI ((sT S : Int))) (congrArg aI (by show (vset (hV h4) (c + 8) ((sT S)) s) (c + 7) 4 = (sT S : Int); rw [vset_ne _ _ _ _ (by omega)]; exact (g4.xt G3.ci (g3.xt G2.ci (g2.xt G1.ci (g1.xt G0.ci xt)))).1)) ?_
            refine g_imul rfl (by omega) (by omega) ?_
            refine g_aload_n rfl rfl ?_
            refine g_getR rfl (G4.cs.kd 7 (by omega) rfl) (G4.cs.rf 7 (by omega) rfl) ?_
            refine g_aload_n rfl rfl ?_
            refine g_callVJ [aO (some a)] [aI (4 * ((sT S : Int))), aO (some (c + 9))] rfl rfl rfl rfl (Nat.le_of_ble_eq_true rfl) (G4.cs.kd 1 (by omega) rfl) (x_longOf (by omega) G4.cs (vset (hV h4) (c + 8) ((sT S)) s) a (g4.wb (g3.wb (g2.wb (g1.wb wa)))).1.1 (z := za) (by rw [show (vset (hV h4) (c + 8) ((sT S)) s) (a + 1) = hV h4 (a + 1) from funext fun j => by rw [vset_ne _ _ _ _ (by have := wa.1.2.1; omega)]]; exact (g4.wb (g3.wb (g2.wb (g1.wb wa)))).1.l) (by unfold r64; omega)) ?_
            rintro r5 hx ⟨ehx, e5⟩
            rw [ehx, e5]
            clear ehx hx e5 r5
            refine g_last (i := (4 * sT S)) rfl (G4.cs.ar 9 (by omega) rfl) (by omega) (by omega) ?_
            refine g_hp (h2 := hw h4 (vset (vset (hV h4) (c + 8) ((sT S)) s) (c + 9) ((4 * sT S)) za)) rfl ?_
            refine g_aload_n rfl rfl ?_
            refine g_getR rfl (G4.cs.kd 7 (by omega) rfl) (G4.cs.rf 10 (by omega) rfl) ?_
            refine g_iconst rfl ?_
            refine g_aload_n rfl rfl ?_
            refine g_getI rfl (G4.cs.kd 7 (by omega) rfl) ?_
            refine g_top (v2 := aI ((sT S : Int))) (congrArg aI (by show (vset (vset (hV h4) (c + 8) ((sT S)) s) (c + 9) ((4 * sT S)) za) (c + 7) 4 = (sT S : Int); rw [vset_ne _ _ _ _ (by omega), vset_ne _ _ _ _ (by omega)]; exact (g4.xt G3.ci (g3.xt G2.ci (g2.xt G1.ci (g1.xt G0.ci xt)))).1)) ?_
            refine g_imul rfl (by omega) (by omega) ?_
            refine g_iconst rfl ?_
            refine g_iadd rfl (by omega) (by omega) ?_
            refine g_aload_n rfl rfl ?_
            refine g_getR rfl (G4.cs.kd 7 (by omega) rfl) (G4.cs.rf 7 (by omega) rfl) ?_
            refine g_aload_n rfl rfl ?_
            refine g_callVJ [aO (some b)] [aI ((4 * ((sT S : Int))) + 1), aO (some (c + 9))] rfl rfl rfl rfl (Nat.le_of_ble_eq_true rfl) (G4.cs.kd 1 (by omega) rfl) (x_longOf (by omega) G4.cs (vset (vset (hV h4) (c + 8) ((sT S)) s) (c + 9) ((4 * sT S)) za) b (g4.wb (g3.wb (g2.wb (g1.wb wb)))).1.1 (z := zb) (by rw [show (vset (vset (hV h4) (c + 8) ((sT S)) s) (c + 9) ((4 * sT S)) za) (b + 1) = hV h4 (b + 1) from funext fun j => by rw [vset_ne _ _ _ _ (by have := wb.1.2.1; omega), vset_ne _ _ _ _ (by have := wb.1.2.1; omega)]]; exact (g4.wb (g3.wb (g2.wb (g1.wb wb)))).1.l) (by unfold r64; omega)) ?_
            rintro r5 hx ⟨ehx, e5⟩
            rw [ehx, e5]
            clear ehx hx e5 r5
            refine g_last (i := (4 * sT S + 1)) rfl (G4.cs.ar 9 (by omega) rfl) (by omega) (by omega) ?_
            refine g_hp (h2 := hw h4 (vset (vset (vset (hV h4) (c + 8) ((sT S)) s) (c + 9) ((4 * sT S)) za) (c + 9) ((4 * sT S + 1)) zb)) rfl ?_
            refine g_aload_n rfl rfl ?_
            refine g_getR rfl (G4.cs.kd 7 (by omega) rfl) (G4.cs.rf 10 (by omega) rfl) ?_
            refine g_iconst rfl ?_
            refine g_aload_n rfl rfl ?_
            refine g_getI rfl (G4.cs.kd 7 (by omega) rfl) ?_
            refine g_top (v2 := aI ((sT S : Int))) (congrArg aI (by show (vset (vset (vset (hV h4) (c + 8) ((sT S)) s) (c + 9) ((4 * sT S)) za) (c + 9) ((4 * sT S + 1)) zb) (c + 7) 4 = (sT S : Int); rw [vset_ne _ _ _ _ (by omega), vset_ne _ _ _ _ (by omega), vset_ne _ _ _ _ (by omega)]; exact (g4.xt G3.ci (g3.xt G2.ci (g2.xt G1.ci (g1.xt G0.ci xt)))).1)) ?_
            refine g_imul rfl (by omega) (by omega) ?_
            refine g_iconst rfl ?_
            refine g_iadd rfl (by omega) (by omega) ?_
            refine g_aload_n rfl rfl ?_
            refine g_getR rfl (G4.cs.kd 7 (by omega) rfl) (G4.cs.rf 7 (by omega) rfl) ?_
            refine g_aload rfl rfl ?_
            refine g_callVJ [aO (some e)] [aI ((4 * ((sT S : Int))) + 2), aO (some (c + 9))] rfl rfl rfl rfl (Nat.le_of_ble_eq_true rfl) (G4.cs.kd 1 (by omega) rfl) (x_longOf (by omega) G4.cs (vset (vset (vset (hV h4) (c + 8) ((sT S)) s) (c + 9) ((4 * sT S)) za) (c + 9) ((4 * sT S + 1)) zb) e (g4.wb (g3.wb (g2.wb (g1.wb we)))).1.1 (z := ze) (by rw [show (vset (vset (vset (hV h4) (c + 8) ((sT S)) s) (c + 9) ((4 * sT S)) za) (c + 9) ((4 * sT S + 1)) zb) (e + 1) = hV h4 (e + 1) from funext fun j => by rw [vset_ne _ _ _ _ (by have := we.1.2.1; omega), vset_ne _ _ _ _ (by have := we.1.2.1; omega), vset_ne _ _ _ _ (by have := we.1.2.1; omega)]]; exact (g4.wb (g3.wb (g2.wb (g1.wb we)))).1.l) (by unfold r64; omega)) ?_
            rintro r5 hx ⟨ehx, e5⟩
            rw [ehx, e5]
            clear ehx hx e5 r5
            refine g_last (i := (4 * sT S + 2)) rfl (G4.cs.ar 9 (by omega) rfl) (by omega) (by omega) ?_
            refine g_hp (h2 := hw h4 (vset (vset (vset (vset (hV h4) (c + 8) ((sT S)) s) (c + 9) ((4 * sT S)) za) (c + 9) ((4 * sT S + 1)) zb) (c + 9) ((4 * sT S + 2)) ze)) rfl ?_
            refine g_aload_n rfl rfl ?_
            refine g_getR rfl (G4.cs.kd 7 (by omega) rfl) (G4.cs.rf 10 (by omega) rfl) ?_
            refine g_iconst rfl ?_
            refine g_aload_n rfl rfl ?_
            refine g_getI rfl (G4.cs.kd 7 (by omega) rfl) ?_
            refine g_top (v2 := aI ((sT S : Int))) (congrArg aI (by show (vset (vset (vset (vset (hV h4) (c + 8) ((sT S)) s) (c + 9) ((4 * sT S)) za) (c + 9) ((4 * sT S + 1)) zb) (c + 9) ((4 * sT S + 2)) ze) (c + 7) 4 = (sT S : Int); rw [vset_ne _ _ _ _ (by omega), vset_ne _ _ _ _ (by omega), vset_ne _ _ _ _ (by omega), vset_ne _ _ _ _ (by omega)]; exact (g4.xt G3.ci (g3.xt G2.ci (g2.xt G1.ci (g1.xt G0.ci xt)))).1)) ?_
            refine g_imul rfl (by omega) (by omega) ?_
            refine g_iconst rfl ?_
            refine g_iadd rfl (by omega) (by omega) ?_
            refine g_aload_n rfl rfl ?_
            refine g_getR rfl (G4.cs.kd 7 (by omega) rfl) (G4.cs.rf 7 (by omega) rfl) ?_
            refine g_aload rfl rfl ?_
            refine g_callVJ [aO (some f)] [aI ((4 * ((sT S : Int))) + 3), aO (some (c + 9))] rfl rfl rfl rfl (Nat.le_of_ble_eq_true rfl) (G4.cs.kd 1 (by omega) rfl) (x_longOf (by omega) G4.cs (vset (vset (vset (vset (hV h4) (c + 8) ((sT S)) s) (c + 9) ((4 * sT S)) za) (c + 9) ((4 * sT S + 1)) zb) (c + 9) ((4 * sT S + 2)) ze) f (g4.wb (g3.wb (g2.wb (g1.wb wf)))).1.1 (z := zf) (by rw [show (vset (vset (vset (vset (hV h4) (c + 8) ((sT S)) s) (c + 9) ((4 * sT S)) za) (c + 9) ((4 * sT S + 1)) zb) (c + 9) ((4 * sT S + 2)) ze) (f + 1) = hV h4 (f + 1) from funext fun j => by rw [vset_ne _ _ _ _ (by have := wf.1.2.1; omega), vset_ne _ _ _ _ (by have := wf.1.2.1; omega), vset_ne _ _ _ _ (by have := wf.1.2.1; omega), vset_ne _ _ _ _ (by have := wf.1.2.1; omega)]]; exact (g4.wb (g3.wb (g2.wb (g1.wb wf)))).1.l) (by unfold r64; omega)) ?_
            rintro r5 hx ⟨ehx, e5⟩
            rw [ehx, e5]
            clear ehx hx e5 r5
            refine g_last (i := (4 * sT S + 3)) rfl (G4.cs.ar 9 (by omega) rfl) (by omega) (by omega) ?_
            refine g_hp (h2 := hw h4 (vset (vset (vset (vset (vset (hV h4) (c + 8) ((sT S)) s) (c + 9) ((4 * sT S)) za) (c + 9) ((4 * sT S + 1)) zb) (c + 9) ((4 * sT S + 2)) ze) (c + 9) ((4 * sT S + 3)) zf)) rfl ?_
            refine g_aload_n rfl rfl ?_
            refine g_dup rfl rfl ?_
            refine g_getI rfl (G4.cs.kd 7 (by omega) rfl) ?_
            refine g_top (v2 := aI ((sT S : Int))) (congrArg aI (by show (vset (vset (vset (vset (vset (hV h4) (c + 8) ((sT S)) s) (c + 9) ((4 * sT S)) za) (c + 9) ((4 * sT S + 1)) zb) (c + 9) ((4 * sT S + 2)) ze) (c + 9) ((4 * sT S + 3)) zf) (c + 7) 4 = (sT S : Int); rw [vset_ne _ _ _ _ (by omega), vset_ne _ _ _ _ (by omega), vset_ne _ _ _ _ (by omega), vset_ne _ _ _ _ (by omega), vset_ne _ _ _ _ (by omega)]; exact (g4.xt G3.ci (g3.xt G2.ci (g2.xt G1.ci (g1.xt G0.ci xt)))).1)) ?_
            refine g_iconst rfl ?_
            refine g_iadd rfl (by omega) (by omega) ?_
            refine g_putI rfl (G4.cs.kd 7 (by omega) rfl) ?_
            refine g_hp (h2 := hw h4 (vset (vset (vset (vset (vset (vset (hV h4) (c + 8) ((sT S)) s) (c + 9) ((4 * sT S)) za) (c + 9) ((4 * sT S + 1)) zb) (c + 9) ((4 * sT S + 2)) ze) (c + 9) ((4 * sT S + 3)) zf) (c + 7) 4 (((sT S : Int)) + 1))) rfl ?_
            refine g_aload_n rfl rfl ?_
            refine g_getI rfl (G4.cs.kd 7 (by omega) rfl) ?_
            refine g_top (v2 := aI ((sT S : Int) + 1)) (congrArg aI (by exact vset_eq _ _ _ _)) ?_
            refine g_iconst rfl ?_
            refine g_isub rfl (by omega) (by omega) ?_
            refine g_iret rfl ?_
            unfold keepT
            have hpos : (sml za ∧ sml zb ∧ sml ze ∧ sml zf) ∧ sT S < 100 := by unfold sml; omega
            rw [if_pos hpos]
            exact ⟨⟨h4, _, G4.mono (by omega), rfl, keepV_fr c (sT S) (hV h4) s (za, zb, ze, zf)⟩, by show _ = (sT S : Int); omega, XT.keep (h := h4) (g4.xt G3.ci (g3.xt G2.ci (g2.xt G1.ci (g1.xt G0.ci xt)))) rfl⟩
          · skip
            refine g_bipush rfl ?_
            refine g_iret rfl ?_
            unfold keepT
            have hneg : ¬((sml za ∧ sml zb ∧ sml ze ∧ sml zf) ∧ sT S < 100) := by unfold sml; omega
            rw [if_neg hneg]
            exact ⟨⟨h4, hV h4, G4.mono (by omega), rfl, fun _ _ _ _ => rfl⟩, rfl, (g4.xt G3.ci (g3.xt G2.ci (g2.xt G1.ci (g1.xt G0.ci xt))))⟩
