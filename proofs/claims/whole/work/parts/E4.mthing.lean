/-! the reference's things: printed by wip/whole/e4.py -/
def MT (V : Nat → Nat → Int) (o : Nat) (S : aS) : Prop := V o 7 = sT S ∧ ∀ i < sT S, V (o + 4) i = sTs S i ∧ ∀ k < 4, V (o + 5) (4 * i + k) = sTp S i k
theorem Gm.mt {V V1 : Nat → Nat → Int} {o n : Nat} (g : Gm V V1 o n) {S : aS} (x : MT V o S) : MT V1 o S := by
  unfold MT
  rw [g.2.1 7 (by omega), g.1 (o + 4) (by omega) (by omega), g.1 (o + 5) (by omega) (by omega)]
  exact x
theorem Gs.mt {V V1 : Nat → Nat → Int} {o n : Nat} {T : Nat → Prop} (g : Gs V V1 o n T) (h4 : ¬ T (o + 4)) (h5 : ¬ T (o + 5)) {S : aS} (x : MT V o S) : MT V1 o S := by
  unfold MT
  rw [g.2.1 7 (by omega), g.1 (o + 4) (by omega) (by omega) h4, g.1 (o + 5) (by omega) (by omega) h5]
  exact x
set_option maxRecDepth 100000 in
set_option maxHeartbeats 4000000 in
theorem m_of {w : aW} {d : Nat} (hd : 4 ≤ d) {h : aH} {o : Nat} (ms : MS h o) (V : Nat → Nat → Int) {S : aS} (ok : OkT S) (mt : MT V o S) (hF : 0 ≤ V o 1 ∧ V o 1 + 1 ≤ 700) (t : Int) (ht : 0 ≤ t ∧ t < sT S) (i : Nat) (hi : i < 4)  : WP w d 282 [aO (some o), aI t, aI ((i : Int))] (hw h V) (RI (fun r h1 => ∃ p : Nat, r = p ∧ ∃ V1, h1 = hw h V1 ∧ Gm V V1 o 1 ∧ RB V1 o p (sTp S t.toNat i) (20))) := by
  obtain ⟨d, rfl⟩ : ∃ d1, d = d1 + 1 := ⟨d - 1, by omega⟩
  refine WP.enter (cd := cd_X12_of) rfl ?_
  have G0 := Gs.refl V o (fun _ => False)
  have hn := ok.1
  have hb := ok.p ht hi
  have hls : largs 0 [aO (some o), aI t, aI ((i : Int))] = [(0, aO (some o)), (1, aI t), (2, aI ((i : Int)))] := rfl
  rw [hls]
  clear hls
  refine g_aload_n rfl rfl ?_
  refine g_aload_n rfl rfl ?_
  refine g_getR rfl ms.1 (mr_part ms) ?_
  refine g_iconst rfl ?_
  refine g_iload_n rfl rfl ?_
  refine g_imul rfl (by omega) (by omega) ?_
  refine g_iload_n rfl rfl ?_
  refine g_iadd rfl (by omega) (by omega) ?_
  refine g_iald (i := (4 * t.toNat + i)) rfl (mt_part ms) (by omega) (by omega) ?_
  refine g_top (v2 := aI (sTp S t.toNat i)) (congrArg aI (by exact (mt.2 t.toNat (by omega)).2 i hi)) ?_
  refine g_i2l rfl ?_
  refine g_callVI [aJ (sTp S t.toNat i)] [] rfl rfl rfl rfl (Nat.le_of_ble_eq_true rfl) ms.1 (r_num (by omega) ms V (by have := G0.2.2.1; omega) (sTp S t.toNat i) (by omega) 20 (by exact hb)) ?_
  rintro _ _ ⟨p1, rfl, V1, rfl, g1, xp1⟩
  have G_2 := G0.trans (g1.gs _)
  refine g_iret rfl ?_
  exact ⟨p1, rfl, V1, rfl, (G_2.mono (by omega)).gm, (xp1.up (by omega))⟩
set_option maxRecDepth 100000 in
set_option maxHeartbeats 4000000 in
theorem m_load {w : aW} {d : Nat} (hd : 5 ≤ d) {h : aH} {o : Nat} (ms : MS h o) (V : Nat → Nat → Int) {S : aS} (ok : OkT S) (mt : MT V o S) (hF : 0 ≤ V o 1 ∧ V o 1 + 4 ≤ 700) (aU : Nat) (hU : SLa o aU) (t : Int) (ht : 0 ≤ t ∧ t < sT S)  : WP w d 287 [aO (some o), aO (some aU), aI t] (hw h V) (RN (fun h1 => ∃ V1, h1 = hw h V1 ∧ Gs V V1 o 4 (fun q => q = aU) ∧ SB V1 o aU (tpR S t) (20))) := by
  obtain ⟨d, rfl⟩ : ∃ d1, d = d1 + 1 := ⟨d - 1, by omega⟩
  refine WP.enter (cd := cd_X12_load) rfl ?_
  have G0 := Gs.refl V o (fun q => q = aU)
  have hs_U := hU
  unfold SLa at hs_U
  have hls : largs 0 [aO (some o), aO (some aU), aI t] = [(0, aO (some o)), (1, aO (some aU)), (2, aI t)] := rfl
  rw [hls]
  clear hls
  refine g_iconst rfl ?_
  refine g_istore_n (l1 := [(3, aI 0), (0, aO (some o)), (1, aO (some aU)), (2, aI t)]) rfl rfl ?_
  refine g_iload_n rfl rfl ?_
  refine g_iconst rfl ?_
  refine g_icmp_ge_f rfl (by omega) ?_
  refine g_aload_n rfl rfl ?_
  refine g_iload_n rfl rfl ?_
  refine g_aload_n rfl rfl ?_
  refine g_iload_n rfl rfl ?_
  refine g_iload_n rfl rfl ?_
  refine g_callVI [aI t, aI 0] [aI 0, aO (some aU)] rfl rfl rfl rfl (Nat.le_of_ble_eq_true rfl) ms.1 (m_of (by omega) ms V ok mt (by have := G0.2.2.1; omega) t ht 0 (by omega)) ?_
  rintro _ _ ⟨p1, rfl, V1, rfl, g1, xp1⟩
  have G_2 := G0.trans (g1.gs _)
  refine g_iast (i := 0) rfl (ms.slot hU) (by omega) (by omega) ?_
  obtain ⟨V3, eV3⟩ : ∃ W, W = vset V1 aU 0 (p1 : Int) := ⟨_, rfl⟩
  refine g_hp (h2 := hw h V3) (by rw [eV3]; rfl) ?_
  have g3 : Gs V1 V3 o 0 (fun q => q = aU) := by rw [eV3]; exact Gs.cell hU
  have c3_0 : V3 aU 0 = (p1 : Int) := by rw [eV3]; exact vset_eq _ _ _ _
  have G_4 := G_2.trans (g3.wide (fun q hq => by have hq : q = aU := hq; show q = aU; omega))
  refine g_iinc (l1 := [(3, aI 1), (0, aO (some o)), (1, aO (some aU)), (2, aI t)]) rfl rfl (by omega) (by omega) rfl ?_
  refine g_goto rfl ?_
  refine g_iload_n rfl rfl ?_
  refine g_iconst rfl ?_
  refine g_icmp_ge_f rfl (by omega) ?_
  refine g_aload_n rfl rfl ?_
  refine g_iload_n rfl rfl ?_
  refine g_aload_n rfl rfl ?_
  refine g_iload_n rfl rfl ?_
  refine g_iload_n rfl rfl ?_
  refine g_callVI [aI t, aI 1] [aI 1, aO (some aU)] rfl rfl rfl rfl (Nat.le_of_ble_eq_true rfl) ms.1 (m_of (by omega) ms V3 ok (g3.mt (show ¬((o + 4) = aU) by omega) (show ¬((o + 5) = aU) by omega) (g1.mt mt)) (by have := G_4.2.2.1; omega) t ht 1 (by omega)) ?_
  rintro _ _ ⟨p5, rfl, V5, rfl, g5, xp5⟩
  have G_6 := G_4.trans (g5.gs _)
  refine g_iast (i := 1) rfl (ms.slot hU) (by omega) (by omega) ?_
  obtain ⟨V7, eV7⟩ : ∃ W, W = vset V5 aU 1 (p5 : Int) := ⟨_, rfl⟩
  refine g_hp (h2 := hw h V7) (by rw [eV7]; rfl) ?_
  have g7 : Gs V5 V7 o 0 (fun q => q = aU) := by rw [eV7]; exact Gs.cell hU
  have c7_0 : V7 aU 0 = (p1 : Int) := by rw [eV7, vset_ne _ _ _ _ (by omega)]; exact (g5.sc hU c3_0)
  have c7_1 : V7 aU 1 = (p5 : Int) := by rw [eV7]; exact vset_eq _ _ _ _
  have G_8 := G_6.trans (g7.wide (fun q hq => by have hq : q = aU := hq; show q = aU; omega))
  refine g_iinc (l1 := [(3, aI 2), (0, aO (some o)), (1, aO (some aU)), (2, aI t)]) rfl rfl (by omega) (by omega) rfl ?_
  refine g_goto rfl ?_
  refine g_iload_n rfl rfl ?_
  refine g_iconst rfl ?_
  refine g_icmp_ge_f rfl (by omega) ?_
  refine g_aload_n rfl rfl ?_
  refine g_iload_n rfl rfl ?_
  refine g_aload_n rfl rfl ?_
  refine g_iload_n rfl rfl ?_
  refine g_iload_n rfl rfl ?_
  refine g_callVI [aI t, aI 2] [aI 2, aO (some aU)] rfl rfl rfl rfl (Nat.le_of_ble_eq_true rfl) ms.1 (m_of (by omega) ms V7 ok (g7.mt (show ¬((o + 4) = aU) by omega) (show ¬((o + 5) = aU) by omega) (g5.mt (g3.mt (show ¬((o + 4) = aU) by omega) (show ¬((o + 5) = aU) by omega) (g1.mt mt)))) (by have := G_8.2.2.1; omega) t ht 2 (by omega)) ?_
  rintro _ _ ⟨p9, rfl, V9, rfl, g9, xp9⟩
  have G_10 := G_8.trans (g9.gs _)
  refine g_iast (i := 2) rfl (ms.slot hU) (by omega) (by omega) ?_
  obtain ⟨V11, eV11⟩ : ∃ W, W = vset V9 aU 2 (p9 : Int) := ⟨_, rfl⟩
  refine g_hp (h2 := hw h V11) (by rw [eV11]; rfl) ?_
  have g11 : Gs V9 V11 o 0 (fun q => q = aU) := by rw [eV11]; exact Gs.cell hU
  have c11_0 : V11 aU 0 = (p1 : Int) := by rw [eV11, vset_ne _ _ _ _ (by omega)]; exact (g9.sc hU c7_0)
  have c11_1 : V11 aU 1 = (p5 : Int) := by rw [eV11, vset_ne _ _ _ _ (by omega)]; exact (g9.sc hU c7_1)
  have c11_2 : V11 aU 2 = (p9 : Int) := by rw [eV11]; exact vset_eq _ _ _ _
  have G_12 := G_10.trans (g11.wide (fun q hq => by have hq : q = aU := hq; show q = aU; omega))
  refine g_iinc (l1 := [(3, aI 3), (0, aO (some o)), (1, aO (some aU)), (2, aI t)]) rfl rfl (by omega) (by omega) rfl ?_
  refine g_goto rfl ?_
  refine g_iload_n rfl rfl ?_
  refine g_iconst rfl ?_
  refine g_icmp_ge_f rfl (by omega) ?_
  refine g_aload_n rfl rfl ?_
  refine g_iload_n rfl rfl ?_
  refine g_aload_n rfl rfl ?_
  refine g_iload_n rfl rfl ?_
  refine g_iload_n rfl rfl ?_
  refine g_callVI [aI t, aI 3] [aI 3, aO (some aU)] rfl rfl rfl rfl (Nat.le_of_ble_eq_true rfl) ms.1 (m_of (by omega) ms V11 ok (g11.mt (show ¬((o + 4) = aU) by omega) (show ¬((o + 5) = aU) by omega) (g9.mt (g7.mt (show ¬((o + 4) = aU) by omega) (show ¬((o + 5) = aU) by omega) (g5.mt (g3.mt (show ¬((o + 4) = aU) by omega) (show ¬((o + 5) = aU) by omega) (g1.mt mt)))))) (by have := G_12.2.2.1; omega) t ht 3 (by omega)) ?_
  rintro _ _ ⟨p13, rfl, V13, rfl, g13, xp13⟩
  have G_14 := G_12.trans (g13.gs _)
  refine g_iast (i := 3) rfl (ms.slot hU) (by omega) (by omega) ?_
  obtain ⟨V15, eV15⟩ : ∃ W, W = vset V13 aU 3 (p13 : Int) := ⟨_, rfl⟩
  refine g_hp (h2 := hw h V15) (by rw [eV15]; rfl) ?_
  have g15 : Gs V13 V15 o 0 (fun q => q = aU) := by rw [eV15]; exact Gs.cell hU
  have c15_0 : V15 aU 0 = (p1 : Int) := by rw [eV15, vset_ne _ _ _ _ (by omega)]; exact (g13.sc hU c11_0)
  have c15_1 : V15 aU 1 = (p5 : Int) := by rw [eV15, vset_ne _ _ _ _ (by omega)]; exact (g13.sc hU c11_1)
  have c15_2 : V15 aU 2 = (p9 : Int) := by rw [eV15, vset_ne _ _ _ _ (by omega)]; exact (g13.sc hU c11_2)
  have c15_3 : V15 aU 3 = (p13 : Int) := by rw [eV15]; exact vset_eq _ _ _ _
  have G_16 := G_14.trans (g15.wide (fun q hq => by have hq : q = aU := hq; show q = aU; omega))
  have s15 : SA V15 aU p1 p5 p9 p13 := ⟨c15_0, c15_1, c15_2, c15_3⟩
  refine g_iinc (l1 := [(3, aI 4), (0, aO (some o)), (1, aO (some aU)), (2, aI t)]) rfl rfl (by omega) (by omega) rfl ?_
  refine g_goto rfl ?_
  refine g_iload_n rfl rfl ?_
  refine g_iconst rfl ?_
  refine g_icmp_ge_t rfl (by omega) ?_
  refine g_vret rfl ?_
  exact ⟨V15, rfl, G_16.mono (by omega), _, _, _, _, s15, ((g15.rb (g13.rb (g11.rb (g9.rb (g7.rb (g5.rb (g3.rb xp1))))))).up (by omega)), ((g15.rb (g13.rb (g11.rb (g9.rb (g7.rb xp5))))).up (by omega)), ((g15.rb (g13.rb (g11.rb xp9))).up (by omega)), ((g15.rb xp13).up (by omega))⟩
set_option maxRecDepth 100000 in
set_option maxHeartbeats 4000000 in
theorem m_isFar {w : aW} {d : Nat} (hd : 2 ≤ d) {h : aH} {o : Nat} (ms : MS h o) (V : Nat → Nat → Int) {S : aS} (ok : OkT S) (mt : MT V o S) (t : Int) (ht : 0 ≤ t ∧ t < sT S)  : WP w d 283 [aO (some o), aI t] (hw h V) (RI (fun r h1 => h1 = hw h V ∧ r = if sTp S t.toNat 2 = 0 then 1 else 0)) := by
  obtain ⟨d, rfl⟩ : ∃ d1, d = d1 + 1 := ⟨d - 1, by omega⟩
  refine WP.enter (cd := cd_X12_isFar) rfl ?_
  have G0 := Gs.refl V o (fun _ => False)
  have hn := ok.1
  have hls : largs 0 [aO (some o), aI t] = [(0, aO (some o)), (1, aI t)] := rfl
  rw [hls]
  clear hls
  refine g_aload_n rfl rfl ?_
  refine g_getR rfl ms.1 (mr_part ms) ?_
  refine g_iconst rfl ?_
  refine g_iload_n rfl rfl ?_
  refine g_imul rfl (by omega) (by omega) ?_
  refine g_iconst rfl ?_
  refine g_iadd rfl (by omega) (by omega) ?_
  refine g_iald (i := (4 * t.toNat + 2)) rfl (mt_part ms) (by omega) (by omega) ?_
  refine g_top (v2 := aI (sTp S t.toNat 2)) (congrArg aI (by exact (mt.2 t.toNat (by omega)).2 2 (by omega))) ?_
  refine g_if_ne rfl (fun c10 => ?_) (fun c10 => ?_)
  · skip
    refine g_iconst rfl ?_
    refine g_zret rfl (by omega) ?_
    refine ⟨rfl, ?_⟩
    first
      | rw [if_pos (by omega)]
      | rw [if_neg (by omega)]
  · skip
    refine g_iconst rfl ?_
    refine g_goto rfl ?_
    refine g_zret rfl (by omega) ?_
    refine ⟨rfl, ?_⟩
    first
      | rw [if_pos (by omega)]
      | rw [if_neg (by omega)]
set_option maxRecDepth 100000 in
set_option maxHeartbeats 4000000 in
theorem m_isRim {w : aW} {d : Nat} (hd : 2 ≤ d) {h : aH} {o : Nat} (ms : MS h o) (V : Nat → Nat → Int) {S : aS} (ok : OkT S) (mt : MT V o S) (t : Int) (ht : 0 ≤ t ∧ t < sT S)  : WP w d 284 [aO (some o), aI t] (hw h V) (RI (fun r h1 => h1 = hw h V ∧ r = if sTp S t.toNat 0 = 0 ∧ sTp S t.toNat 1 = 0 then 1 else 0)) := by
  obtain ⟨d, rfl⟩ : ∃ d1, d = d1 + 1 := ⟨d - 1, by omega⟩
  refine WP.enter (cd := cd_X12_isRim) rfl ?_
  have G0 := Gs.refl V o (fun _ => False)
  have hn := ok.1
  have hls : largs 0 [aO (some o), aI t] = [(0, aO (some o)), (1, aI t)] := rfl
  rw [hls]
  clear hls
  refine g_aload_n rfl rfl ?_
  refine g_getR rfl ms.1 (mr_part ms) ?_
  refine g_iconst rfl ?_
  refine g_iload_n rfl rfl ?_
  refine g_imul rfl (by omega) (by omega) ?_
  refine g_iald (i := (4 * t.toNat)) rfl (mt_part ms) (by omega) (by omega) ?_
  refine g_top (v2 := aI (sTp S t.toNat 0)) (congrArg aI (by exact (mt.2 t.toNat (by omega)).2 0 (by omega))) ?_
  refine g_if_ne rfl (fun c8 => ?_) (fun c8 => ?_)
  · skip
    refine g_iconst rfl ?_
    refine g_zret rfl (by omega) ?_
    refine ⟨rfl, ?_⟩
    first
      | rw [if_pos (by omega)]
      | rw [if_neg (by omega)]
  · skip
    refine g_aload_n rfl rfl ?_
    refine g_getR rfl ms.1 (mr_part ms) ?_
    refine g_iconst rfl ?_
    refine g_iload_n rfl rfl ?_
    refine g_imul rfl (by omega) (by omega) ?_
    refine g_iconst rfl ?_
    refine g_iadd rfl (by omega) (by omega) ?_
    refine g_iald (i := (4 * t.toNat + 1)) rfl (mt_part ms) (by omega) (by omega) ?_
    refine g_top (v2 := aI (sTp S t.toNat 1)) (congrArg aI (by exact (mt.2 t.toNat (by omega)).2 1 (by omega))) ?_
    refine g_if_ne rfl (fun c21 => ?_) (fun c21 => ?_)
    · skip
      refine g_iconst rfl ?_
      refine g_zret rfl (by omega) ?_
      refine ⟨rfl, ?_⟩
      first
        | rw [if_pos (by omega)]
        | rw [if_neg (by omega)]
    · skip
      refine g_iconst rfl ?_
      refine g_goto rfl ?_
      refine g_zret rfl (by omega) ?_
      refine ⟨rfl, ?_⟩
      first
        | rw [if_pos (by omega)]
        | rw [if_neg (by omega)]
