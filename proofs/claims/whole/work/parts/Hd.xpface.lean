/-! the class's polynomials, faces: printed by wip/whole/hd.py -/
theorem gtX_co {f f2 : Nat → Int} (h : ∀ t < 286, f t = f2 t) : gtX f 286 = gtX f2 286 := by
  refine itN_co 286 (fun t ht u => ?_)
  dsimp only
  rw [h t ht]
theorem prt_co {f f2 : Nat → Int} (h : ∀ t < 286, f t = f2 t) (e : Nat) : prt f e = prt f2 e := by
  funext t
  unfold prt
  by_cases g : (pE t).1 = 0 ∧ e + (pE t).2.1 + (pE t).2.2 ≤ 10
  · rw [if_pos g, if_pos g, h _ (pI_lt g.2)]
  · rw [if_neg g, if_neg g]
theorem der_co {f f2 : Nat → Int} (h : ∀ t < 286, f t = f2 t) : der f = der f2 := by
  funext t
  unfold der
  by_cases g : pD t ≤ 9
  · rw [if_pos g, if_pos g, h _ (pI_lt (by unfold pD at g; omega))]
  · rw [if_neg g, if_neg g]
theorem putX_co {f f2 g g2 : Nat → Int} (h : ∀ t < 286, f t = f2 t) (hg : ∀ t < 286, g t = g2 t) : putX f g = putX f2 g2 := by
  unfold putX putI
  rw [gtX_co h]
  refine itN_co _ (fun e he u => ?_)
  unfold putS putG
  rw [prt_co h, mul_sm (f := u.2.2) (f2 := u.2.2) (g := g) (g2 := g2) (fun t _ => rfl) hg, okX_co (f := u.2.2) (f2 := u.2.2) (g := g) (g2 := g2) (fun t _ => rfl) hg]
/-- one more polynomial -/
def addP (S : aS) (row : Nat → Int) : aS := (S.1, S.2.1, S.2.2.1, (sPn S + 1, fun a => if a = sPn S then row else sPc S a))
def keepPo (S : aS) (row : Nat → Int) : Int × aS := if sPn S < 60 then ((sPn S : Int), addP S row) else (-4, S)
/-- what a face of polynomials leaves -/
def PX (h : aH) (V : Nat → Nat → Int) (c : Nat) (S S1 : aS) (h1 : aH) : Prop := (S1 = S ∧ ∃ V1, h1 = hw h V1 ∧ ∀ a, (a < c + 23 ∨ c + 26 < a) → V1 a = V a) ∨ ∃ row V1, S1 = addP S row ∧ sPn S < 60 ∧ (∀ a, (a < c + 23 ∨ c + 26 < a) → V1 a = V a) ∧ (∀ t < 286, V1 (c + 23) t = row t) ∧ KPost h V1 c (sPn S) h1
theorem PX.keep {h h1 : aH} {V V1 : Nat → Nat → Int} {c : Nat} {S : aS} {row : Nat → Int} {r : Int} (hn : sPn S ≤ 60) (hf : ∀ a, (a < c + 23 ∨ c + 26 < a) → V1 a = V a) (hr : ∀ t < 286, V1 (c + 23) t = row t) (q : (sPn S = 60 → h1 = hw h V1 ∧ r = -4) ∧ (sPn S < 60 → KPost h V1 c (sPn S) h1 ∧ r = sPn S)) : r = (keepPo S row).1 ∧ PX h V c S (keepPo S row).2 h1 := by
  unfold keepPo
  by_cases z : sPn S < 60
  · rw [if_pos z]
    obtain ⟨k, e⟩ := q.2 z
    exact ⟨e, Or.inr ⟨row, V1, rfl, z, hf, hr, k⟩⟩
  · rw [if_neg z]
    obtain ⟨k, e⟩ := q.1 (by omega)
    exact ⟨e, Or.inl ⟨rfl, V1, k, hf⟩⟩
noncomputable def cmbX (S : aS) (op : Int) (a b : Nat) : Option (Nat → Int) :=
  if op = 0 then (if bt (smX (fun t => sPc S a t + sPc S b t)) = true then some (fun t => sPc S a t + sPc S b t) else none)
  else if op = 1 then (if bt (smX (fun t => sPc S a t - sPc S b t)) = true then some (fun t => sPc S a t - sPc S b t) else none)
  else if op = 2 then (if bt (okX (sPc S a) (sPc S b) ∧ smX (mulX (sPc S a) (sPc S b))) = true then some (mulX (sPc S a) (sPc S b)) else none)
  else if op = 3 then (if (putX (sPc S a) (sPc S b)).1 = true then some (putX (sPc S a) (sPc S b)).2.1 else none)
  else (if bt (smX (der (sPc S a))) = true then some (der (sPc S a)) else none)
noncomputable def cmbF (S : aS) (op a b : Int) : Int × aS := if ¬((0 ≤ op ∧ op ≤ 4) ∧ (0 ≤ a ∧ a < sPn S) ∧ 0 ≤ b ∧ b < sPn S) then (-1, S) else match cmbX S op a.toNat b.toNat with
  | none => (-4, S)
  | some row => keepPo S row
set_option maxRecDepth 100000 in
theorem x_pcmb0 {w : aW} {d : Nat} (hd : 24 ≤ d) {h : aH} {c : Nat} (cs : CS h c) (V : Nat → Nat → Int) (xe : XE V c) {S : aS} {ρ : Nat → Nat} (xp : XP h V c S ρ) (ok : OkP S) (hc : c + 67 ≤ hz h) (a : Nat) (ha : a < sPn S) (b : Nat) (hb : b < sPn S) : WP w d 134 [aO (some (c + 17)), aI 0, aI ((a : Int)), aI ((b : Int))] (hw h V) (RI (fun r h1 => r = (match cmbX S 0 a b with | none => (-4, S) | some row => keepPo S row).1 ∧ PX h V c S (match cmbX S 0 a b with | none => (-4, S) | some row => keepPo S row).2 h1)) := by
  obtain ⟨d, rfl⟩ : ∃ d1, d = d1 + 1 := ⟨d - 1, by omega⟩
  refine WP.enter (cd := cd_X4_keepCombined) rfl ?_
  have ea : ∀ t < 286, V (ρ a) t = sPc S a t := (xp.2 a ha).2.2.2.2
  have eb : ∀ t < 286, V (ρ b) t = sPc S b t := (xp.2 b hb).2.2.2.2
  have ta := (xp.2 a ha).2.1
  have tb := (xp.2 b hb).2.1
  have ra := (xp.2 a ha).2.2.1
  have rb := (xp.2 b hb).2.2.1
  have hok := ok.1
  have sa : smX (V (ρ a)) := (smX_co ea).mpr (ok.2 a ha)
  have sb : smX (V (ρ b)) := (smX_co eb).mpr (ok.2 b hb)
  have hls : largs 0 [aO (some (c + 17)), aI 0, aI ((a : Int)), aI ((b : Int))] = [(0, aO (some (c + 17))), (1, aI 0), (2, aI ((a : Int))), (3, aI ((b : Int)))] := rfl
  rw [hls]
  clear hls
  refine g_aload_n rfl rfl ?_
  refine g_iload_n rfl rfl ?_
  refine g_callVI [aI ((a : Int))] [] rfl rfl rfl rfl (Nat.le_of_ble_eq_true rfl) (cs.kd 17 (by omega) rfl) (x_pHas (by omega) cs V xe xp ok ((a : Int))) ?_
  rintro r hx ⟨ehx, rfl⟩
  rw [ehx, if_pos (by omega)]
  clear ehx hx
  refine g_if_eq_f rfl (by omega) ?_
  refine g_aload_n rfl rfl ?_
  refine g_iload_n rfl rfl ?_
  refine g_callVI [aI ((b : Int))] [] rfl rfl rfl rfl (Nat.le_of_ble_eq_true rfl) (cs.kd 17 (by omega) rfl) (x_pHas (by omega) cs V xe xp ok ((b : Int))) ?_
  rintro r hx ⟨ehx, rfl⟩
  rw [ehx, if_pos (by omega)]
  clear ehx hx
  refine g_if_ne_t rfl (by omega) ?_
  refine g_iload_n rfl rfl ?_
  refine g_iconst rfl ?_
  refine g_icmp_ge_f rfl (by omega) ?_
  refine g_aload_n rfl rfl ?_
  refine g_aload_n rfl rfl ?_
  refine g_getR rfl (cs.kd 17 (by omega) rfl) (cs.rf 26 (by omega) rfl) ?_
  refine g_iload_n rfl rfl ?_
  refine g_aald (i := a) rfl (cs.ar 22 (by omega) rfl) (by decide) (by omega) (by omega) ((xp.2 a (by omega)).1) ?_
  refine g_aload_n rfl rfl ?_
  refine g_getR rfl (cs.kd 17 (by omega) rfl) (cs.rf 27 (by omega) rfl) ?_
  refine g_callVN [aO (some ((ρ a))), aO (some (c + 23))] [] rfl rfl rfl rfl (Nat.le_of_ble_eq_true rfl) (cs.kd 17 (by omega) rfl) (x_copy (by omega) cs V (ρ a) (c + 23) ta (cs.ar 23 (by omega) rfl) (by omega)) ?_
  rintro _ ⟨V1, rfl, hf, hz1⟩
  have b1 : V1 (ρ b) = V (ρ b) := hf _ (by omega)
  have r1 : ∀ t < 286, V1 (c + 23) t = sPc S a t := fun t ht => by rw [hz1 t ht]; exact ea t ht
  refine g_aload_n rfl rfl ?_
  refine g_aload_n rfl rfl ?_
  refine g_getR rfl (cs.kd 17 (by omega) rfl) (cs.rf 27 (by omega) rfl) ?_
  refine g_aload_n rfl rfl ?_
  refine g_getR rfl (cs.kd 17 (by omega) rfl) (cs.rf 26 (by omega) rfl) ?_
  refine g_iload_n rfl rfl ?_
  refine g_aald (i := b) rfl (cs.ar 22 (by omega) rfl) (by decide) (by omega) (by omega) ((xp.2 b (by omega)).1) ?_
  refine g_iload_n rfl rfl ?_
  refine g_if_ne_f rfl (by omega) ?_
  refine g_iconst rfl ?_
  refine g_goto rfl ?_
  refine g_callVI [aO (some (c + 23)), aO (some ((ρ b))), aI 1] [] rfl rfl rfl rfl (Nat.le_of_ble_eq_true rfl) (cs.kd 17 (by omega) rfl) (x_padd (by omega) cs V1 (c + 23) (ρ b) (cs.ar 23 (by omega) rfl) tb (by omega) (1) (by omega) ((smX_co r1).mpr (ok.2 a ha)) (by rw [b1]; exact sb)) ?_
  rintro r5 hx5 ⟨V2, rfl, hf2, hz2, ehx5⟩
  have r2 : ∀ t < 286, V2 (c + 23) t = sPc S a t + sPc S b t := fun t ht => by rw [hz2 t ht, r1 t ht, b1, eb t ht]; omega
  rw [ehx5, bt_co (smX_co (g := fun t => sPc S a t + sPc S b t) r2)]
  clear ehx5
  have hf3 : ∀ a, (a < c + 23 ∨ c + 26 < a) → V2 a = V a := fun a ha => by rw [hf2 _ (by omega), hf _ (by omega)]
  have k2 : V2 (c + 17) 9 = (sPn S : Int) := by rw [hf3 _ (by omega)]; exact xp.1
  refine g_istore (l1 := [(4, aI (if bt (smX (fun t => sPc S a t + sPc S b t)) = true then 1 else 0)), (0, aO (some (c + 17))), (1, aI 0), (2, aI ((a : Int))), (3, aI ((b : Int)))]) rfl rfl ?_
  refine g_goto rfl ?_
  refine g_iload rfl rfl ?_
  refine g_b_eq rfl (fun cq135 => ?_) (fun cq135 => ?_)
  · skip
    have eX : cmbX S 0 a b = none := if_neg cq135
    refine g_bipush rfl ?_
    refine g_iret rfl ?_
    rw [eX]
    first
      | (exact hK)
      | (exact ⟨rfl, Or.inl ⟨rfl, V2, rfl, hf3⟩⟩)
  · skip
    refine g_aload_n rfl rfl ?_
    refine g_callVI [] [] rfl rfl rfl rfl (Nat.le_of_ble_eq_true rfl) (cs.kd 17 (by omega) rfl) (x_keepResult (by omega) cs V2 (sPn S) k2 (by omega) (by omega)) ?_
    intro r h2 q
    have eX : cmbX S 0 a b = some (fun t => sPc S a t + sPc S b t) := if_pos cq135
    have hK := PX.keep (row := (fun t => sPc S a t + sPc S b t)) (by omega) hf3 r2 q
    refine g_goto rfl ?_
    refine g_iret rfl ?_
    rw [eX]
    first
      | (exact hK)
      | (exact ⟨rfl, Or.inl ⟨rfl, V2, rfl, hf3⟩⟩)
set_option maxRecDepth 100000 in
theorem x_pcmb1 {w : aW} {d : Nat} (hd : 24 ≤ d) {h : aH} {c : Nat} (cs : CS h c) (V : Nat → Nat → Int) (xe : XE V c) {S : aS} {ρ : Nat → Nat} (xp : XP h V c S ρ) (ok : OkP S) (hc : c + 67 ≤ hz h) (a : Nat) (ha : a < sPn S) (b : Nat) (hb : b < sPn S) : WP w d 134 [aO (some (c + 17)), aI 1, aI ((a : Int)), aI ((b : Int))] (hw h V) (RI (fun r h1 => r = (match cmbX S 1 a b with | none => (-4, S) | some row => keepPo S row).1 ∧ PX h V c S (match cmbX S 1 a b with | none => (-4, S) | some row => keepPo S row).2 h1)) := by
  obtain ⟨d, rfl⟩ : ∃ d1, d = d1 + 1 := ⟨d - 1, by omega⟩
  refine WP.enter (cd := cd_X4_keepCombined) rfl ?_
  have ea : ∀ t < 286, V (ρ a) t = sPc S a t := (xp.2 a ha).2.2.2.2
  have eb : ∀ t < 286, V (ρ b) t = sPc S b t := (xp.2 b hb).2.2.2.2
  have ta := (xp.2 a ha).2.1
  have tb := (xp.2 b hb).2.1
  have ra := (xp.2 a ha).2.2.1
  have rb := (xp.2 b hb).2.2.1
  have hok := ok.1
  have sa : smX (V (ρ a)) := (smX_co ea).mpr (ok.2 a ha)
  have sb : smX (V (ρ b)) := (smX_co eb).mpr (ok.2 b hb)
  have hls : largs 0 [aO (some (c + 17)), aI 1, aI ((a : Int)), aI ((b : Int))] = [(0, aO (some (c + 17))), (1, aI 1), (2, aI ((a : Int))), (3, aI ((b : Int)))] := rfl
  rw [hls]
  clear hls
  refine g_aload_n rfl rfl ?_
  refine g_iload_n rfl rfl ?_
  refine g_callVI [aI ((a : Int))] [] rfl rfl rfl rfl (Nat.le_of_ble_eq_true rfl) (cs.kd 17 (by omega) rfl) (x_pHas (by omega) cs V xe xp ok ((a : Int))) ?_
  rintro r hx ⟨ehx, rfl⟩
  rw [ehx, if_pos (by omega)]
  clear ehx hx
  refine g_if_eq_f rfl (by omega) ?_
  refine g_aload_n rfl rfl ?_
  refine g_iload_n rfl rfl ?_
  refine g_callVI [aI ((b : Int))] [] rfl rfl rfl rfl (Nat.le_of_ble_eq_true rfl) (cs.kd 17 (by omega) rfl) (x_pHas (by omega) cs V xe xp ok ((b : Int))) ?_
  rintro r hx ⟨ehx, rfl⟩
  rw [ehx, if_pos (by omega)]
  clear ehx hx
  refine g_if_ne_t rfl (by omega) ?_
  refine g_iload_n rfl rfl ?_
  refine g_iconst rfl ?_
  refine g_icmp_ge_f rfl (by omega) ?_
  refine g_aload_n rfl rfl ?_
  refine g_aload_n rfl rfl ?_
  refine g_getR rfl (cs.kd 17 (by omega) rfl) (cs.rf 26 (by omega) rfl) ?_
  refine g_iload_n rfl rfl ?_
  refine g_aald (i := a) rfl (cs.ar 22 (by omega) rfl) (by decide) (by omega) (by omega) ((xp.2 a (by omega)).1) ?_
  refine g_aload_n rfl rfl ?_
  refine g_getR rfl (cs.kd 17 (by omega) rfl) (cs.rf 27 (by omega) rfl) ?_
  refine g_callVN [aO (some ((ρ a))), aO (some (c + 23))] [] rfl rfl rfl rfl (Nat.le_of_ble_eq_true rfl) (cs.kd 17 (by omega) rfl) (x_copy (by omega) cs V (ρ a) (c + 23) ta (cs.ar 23 (by omega) rfl) (by omega)) ?_
  rintro _ ⟨V1, rfl, hf, hz1⟩
  have b1 : V1 (ρ b) = V (ρ b) := hf _ (by omega)
  have r1 : ∀ t < 286, V1 (c + 23) t = sPc S a t := fun t ht => by rw [hz1 t ht]; exact ea t ht
  refine g_aload_n rfl rfl ?_
  refine g_aload_n rfl rfl ?_
  refine g_getR rfl (cs.kd 17 (by omega) rfl) (cs.rf 27 (by omega) rfl) ?_
  refine g_aload_n rfl rfl ?_
  refine g_getR rfl (cs.kd 17 (by omega) rfl) (cs.rf 26 (by omega) rfl) ?_
  refine g_iload_n rfl rfl ?_
  refine g_aald (i := b) rfl (cs.ar 22 (by omega) rfl) (by decide) (by omega) (by omega) ((xp.2 b (by omega)).1) ?_
  refine g_iload_n rfl rfl ?_
  refine g_if_ne_t rfl (by omega) ?_
  refine g_iconst rfl ?_
  refine g_callVI [aO (some (c + 23)), aO (some ((ρ b))), aI ((-1))] [] rfl rfl rfl rfl (Nat.le_of_ble_eq_true rfl) (cs.kd 17 (by omega) rfl) (x_padd (by omega) cs V1 (c + 23) (ρ b) (cs.ar 23 (by omega) rfl) tb (by omega) (-1) (by omega) ((smX_co r1).mpr (ok.2 a ha)) (by rw [b1]; exact sb)) ?_
  rintro r5 hx5 ⟨V2, rfl, hf2, hz2, ehx5⟩
  have r2 : ∀ t < 286, V2 (c + 23) t = sPc S a t - sPc S b t := fun t ht => by rw [hz2 t ht, r1 t ht, b1, eb t ht]; omega
  rw [ehx5, bt_co (smX_co (g := fun t => sPc S a t - sPc S b t) r2)]
  clear ehx5
  have hf3 : ∀ a, (a < c + 23 ∨ c + 26 < a) → V2 a = V a := fun a ha => by rw [hf2 _ (by omega), hf _ (by omega)]
  have k2 : V2 (c + 17) 9 = (sPn S : Int) := by rw [hf3 _ (by omega)]; exact xp.1
  refine g_istore (l1 := [(4, aI (if bt (smX (fun t => sPc S a t - sPc S b t)) = true then 1 else 0)), (0, aO (some (c + 17))), (1, aI 1), (2, aI ((a : Int))), (3, aI ((b : Int)))]) rfl rfl ?_
  refine g_goto rfl ?_
  refine g_iload rfl rfl ?_
  refine g_b_eq rfl (fun cq135 => ?_) (fun cq135 => ?_)
  · skip
    have eX : cmbX S 1 a b = none := if_neg cq135
    refine g_bipush rfl ?_
    refine g_iret rfl ?_
    rw [eX]
    first
      | (exact hK)
      | (exact ⟨rfl, Or.inl ⟨rfl, V2, rfl, hf3⟩⟩)
  · skip
    refine g_aload_n rfl rfl ?_
    refine g_callVI [] [] rfl rfl rfl rfl (Nat.le_of_ble_eq_true rfl) (cs.kd 17 (by omega) rfl) (x_keepResult (by omega) cs V2 (sPn S) k2 (by omega) (by omega)) ?_
    intro r h2 q
    have eX : cmbX S 1 a b = some (fun t => sPc S a t - sPc S b t) := if_pos cq135
    have hK := PX.keep (row := (fun t => sPc S a t - sPc S b t)) (by omega) hf3 r2 q
    refine g_goto rfl ?_
    refine g_iret rfl ?_
    rw [eX]
    first
      | (exact hK)
      | (exact ⟨rfl, Or.inl ⟨rfl, V2, rfl, hf3⟩⟩)
set_option maxRecDepth 100000 in
theorem x_pcmb2 {w : aW} {d : Nat} (hd : 24 ≤ d) {h : aH} {c : Nat} (cs : CS h c) (V : Nat → Nat → Int) (xe : XE V c) {S : aS} {ρ : Nat → Nat} (xp : XP h V c S ρ) (ok : OkP S) (hc : c + 67 ≤ hz h) (a : Nat) (ha : a < sPn S) (b : Nat) (hb : b < sPn S) : WP w d 134 [aO (some (c + 17)), aI 2, aI ((a : Int)), aI ((b : Int))] (hw h V) (RI (fun r h1 => r = (match cmbX S 2 a b with | none => (-4, S) | some row => keepPo S row).1 ∧ PX h V c S (match cmbX S 2 a b with | none => (-4, S) | some row => keepPo S row).2 h1)) := by
  obtain ⟨d, rfl⟩ : ∃ d1, d = d1 + 1 := ⟨d - 1, by omega⟩
  refine WP.enter (cd := cd_X4_keepCombined) rfl ?_
  have ea : ∀ t < 286, V (ρ a) t = sPc S a t := (xp.2 a ha).2.2.2.2
  have eb : ∀ t < 286, V (ρ b) t = sPc S b t := (xp.2 b hb).2.2.2.2
  have ta := (xp.2 a ha).2.1
  have tb := (xp.2 b hb).2.1
  have ra := (xp.2 a ha).2.2.1
  have rb := (xp.2 b hb).2.2.1
  have hok := ok.1
  have sa : smX (V (ρ a)) := (smX_co ea).mpr (ok.2 a ha)
  have sb : smX (V (ρ b)) := (smX_co eb).mpr (ok.2 b hb)
  have hls : largs 0 [aO (some (c + 17)), aI 2, aI ((a : Int)), aI ((b : Int))] = [(0, aO (some (c + 17))), (1, aI 2), (2, aI ((a : Int))), (3, aI ((b : Int)))] := rfl
  rw [hls]
  clear hls
  refine g_aload_n rfl rfl ?_
  refine g_iload_n rfl rfl ?_
  refine g_callVI [aI ((a : Int))] [] rfl rfl rfl rfl (Nat.le_of_ble_eq_true rfl) (cs.kd 17 (by omega) rfl) (x_pHas (by omega) cs V xe xp ok ((a : Int))) ?_
  rintro r hx ⟨ehx, rfl⟩
  rw [ehx, if_pos (by omega)]
  clear ehx hx
  refine g_if_eq_f rfl (by omega) ?_
  refine g_aload_n rfl rfl ?_
  refine g_iload_n rfl rfl ?_
  refine g_callVI [aI ((b : Int))] [] rfl rfl rfl rfl (Nat.le_of_ble_eq_true rfl) (cs.kd 17 (by omega) rfl) (x_pHas (by omega) cs V xe xp ok ((b : Int))) ?_
  rintro r hx ⟨ehx, rfl⟩
  rw [ehx, if_pos (by omega)]
  clear ehx hx
  refine g_if_ne_t rfl (by omega) ?_
  refine g_iload_n rfl rfl ?_
  refine g_iconst rfl ?_
  refine g_icmp_ge_t rfl (by omega) ?_
  refine g_iload_n rfl rfl ?_
  refine g_iconst rfl ?_
  refine g_icmp_ne_f rfl (by omega) ?_
  refine g_aload_n rfl rfl ?_
  refine g_aload_n rfl rfl ?_
  refine g_getR rfl (cs.kd 17 (by omega) rfl) (cs.rf 26 (by omega) rfl) ?_
  refine g_iload_n rfl rfl ?_
  refine g_aald (i := a) rfl (cs.ar 22 (by omega) rfl) (by decide) (by omega) (by omega) ((xp.2 a (by omega)).1) ?_
  refine g_aload_n rfl rfl ?_
  refine g_getR rfl (cs.kd 17 (by omega) rfl) (cs.rf 26 (by omega) rfl) ?_
  refine g_iload_n rfl rfl ?_
  refine g_aald (i := b) rfl (cs.ar 22 (by omega) rfl) (by decide) (by omega) (by omega) ((xp.2 b (by omega)).1) ?_
  refine g_aload_n rfl rfl ?_
  refine g_getR rfl (cs.kd 17 (by omega) rfl) (cs.rf 27 (by omega) rfl) ?_
  refine g_callVI [aO (some ((ρ a))), aO (some ((ρ b))), aO (some (c + 23))] [] rfl rfl rfl rfl (Nat.le_of_ble_eq_true rfl) (cs.kd 17 (by omega) rfl) (x_pmul (by omega) cs V xe (ρ a) (ρ b) (c + 23) ta tb (cs.ar 23 (by omega) rfl) (by omega) (by omega) (by omega) sa sb) ?_
  rintro r1 _ ⟨V2, rfl, hf2, hq⟩
  rw [mul_sm ea eb, okX_co ea eb] at hq
  have hf3 : ∀ a, (a < c + 23 ∨ c + 26 < a) → V2 a = V a := fun a ha => hf2 _ (by omega)
  have k2 : V2 (c + 17) 9 = (sPn S : Int) := by rw [hf3 _ (by omega)]; exact xp.1
  refine g_istore (l1 := [(4, aI r1), (0, aO (some (c + 17))), (1, aI 2), (2, aI ((a : Int))), (3, aI ((b : Int)))]) rfl rfl ?_
  refine g_goto rfl ?_
  refine g_iload rfl rfl ?_
  refine g_if_eq rfl (fun cq135 => ?_) (fun cq135 => ?_)
  · skip
    have hN : ¬ bt (okX (sPc S a) (sPc S b) ∧ smX (mulX (sPc S a) (sPc S b))) = true := fun z => by
      have z := bt_iff.mp z
      rcases hq with y | y
      · exact y.1 z.1
      · have h9 := y.2.2
        rw [if_pos (bt_iff.mpr z.2)] at h9
        omega
    have eX : cmbX S 2 a b = none := if_neg hN
    refine g_bipush rfl ?_
    refine g_iret rfl ?_
    rw [eX]
    first
      | (exact hK)
      | (exact ⟨rfl, Or.inl ⟨rfl, V2, rfl, hf3⟩⟩)
  · skip
    have hY0 := hq.resolve_left (fun z => by have := z.2; omega)
    have hY : okX (sPc S a) (sPc S b) ∧ smX (mulX (sPc S a) (sPc S b)) := ⟨hY0.1, bt_iff.mp (Decidable.byContradiction fun z => by have h9 := hY0.2.2; rw [if_neg z] at h9; omega)⟩
    have hY2 := hY0.2.1
    refine g_aload_n rfl rfl ?_
    refine g_callVI [] [] rfl rfl rfl rfl (Nat.le_of_ble_eq_true rfl) (cs.kd 17 (by omega) rfl) (x_keepResult (by omega) cs V2 (sPn S) k2 (by omega) (by omega)) ?_
    intro r h2 q
    have eX : cmbX S 2 a b = some (mulX (sPc S a) (sPc S b)) := if_pos (bt_iff.mpr hY)
    have hK := PX.keep (row := (mulX (sPc S a) (sPc S b))) (by omega) hf3 hY2 q
    refine g_goto rfl ?_
    refine g_iret rfl ?_
    rw [eX]
    first
      | (exact hK)
      | (exact ⟨rfl, Or.inl ⟨rfl, V2, rfl, hf3⟩⟩)
set_option maxRecDepth 100000 in
theorem x_pcmb3 {w : aW} {d : Nat} (hd : 24 ≤ d) {h : aH} {c : Nat} (cs : CS h c) (V : Nat → Nat → Int) (xe : XE V c) {S : aS} {ρ : Nat → Nat} (xp : XP h V c S ρ) (ok : OkP S) (hc : c + 67 ≤ hz h) (a : Nat) (ha : a < sPn S) (b : Nat) (hb : b < sPn S) : WP w d 134 [aO (some (c + 17)), aI 3, aI ((a : Int)), aI ((b : Int))] (hw h V) (RI (fun r h1 => r = (match cmbX S 3 a b with | none => (-4, S) | some row => keepPo S row).1 ∧ PX h V c S (match cmbX S 3 a b with | none => (-4, S) | some row => keepPo S row).2 h1)) := by
  obtain ⟨d, rfl⟩ : ∃ d1, d = d1 + 1 := ⟨d - 1, by omega⟩
  refine WP.enter (cd := cd_X4_keepCombined) rfl ?_
  have ea : ∀ t < 286, V (ρ a) t = sPc S a t := (xp.2 a ha).2.2.2.2
  have eb : ∀ t < 286, V (ρ b) t = sPc S b t := (xp.2 b hb).2.2.2.2
  have ta := (xp.2 a ha).2.1
  have tb := (xp.2 b hb).2.1
  have ra := (xp.2 a ha).2.2.1
  have rb := (xp.2 b hb).2.2.1
  have hok := ok.1
  have sa : smX (V (ρ a)) := (smX_co ea).mpr (ok.2 a ha)
  have sb : smX (V (ρ b)) := (smX_co eb).mpr (ok.2 b hb)
  have hls : largs 0 [aO (some (c + 17)), aI 3, aI ((a : Int)), aI ((b : Int))] = [(0, aO (some (c + 17))), (1, aI 3), (2, aI ((a : Int))), (3, aI ((b : Int)))] := rfl
  rw [hls]
  clear hls
  refine g_aload_n rfl rfl ?_
  refine g_iload_n rfl rfl ?_
  refine g_callVI [aI ((a : Int))] [] rfl rfl rfl rfl (Nat.le_of_ble_eq_true rfl) (cs.kd 17 (by omega) rfl) (x_pHas (by omega) cs V xe xp ok ((a : Int))) ?_
  rintro r hx ⟨ehx, rfl⟩
  rw [ehx, if_pos (by omega)]
  clear ehx hx
  refine g_if_eq_f rfl (by omega) ?_
  refine g_aload_n rfl rfl ?_
  refine g_iload_n rfl rfl ?_
  refine g_callVI [aI ((b : Int))] [] rfl rfl rfl rfl (Nat.le_of_ble_eq_true rfl) (cs.kd 17 (by omega) rfl) (x_pHas (by omega) cs V xe xp ok ((b : Int))) ?_
  rintro r hx ⟨ehx, rfl⟩
  rw [ehx, if_pos (by omega)]
  clear ehx hx
  refine g_if_ne_t rfl (by omega) ?_
  refine g_iload_n rfl rfl ?_
  refine g_iconst rfl ?_
  refine g_icmp_ge_t rfl (by omega) ?_
  refine g_iload_n rfl rfl ?_
  refine g_iconst rfl ?_
  refine g_icmp_ne_t rfl (by omega) ?_
  refine g_iload_n rfl rfl ?_
  refine g_iconst rfl ?_
  refine g_icmp_ne_f rfl (by omega) ?_
  refine g_aload_n rfl rfl ?_
  refine g_aload_n rfl rfl ?_
  refine g_getR rfl (cs.kd 17 (by omega) rfl) (cs.rf 26 (by omega) rfl) ?_
  refine g_iload_n rfl rfl ?_
  refine g_aald (i := a) rfl (cs.ar 22 (by omega) rfl) (by decide) (by omega) (by omega) ((xp.2 a (by omega)).1) ?_
  refine g_aload_n rfl rfl ?_
  refine g_getR rfl (cs.kd 17 (by omega) rfl) (cs.rf 26 (by omega) rfl) ?_
  refine g_iload_n rfl rfl ?_
  refine g_aald (i := b) rfl (cs.ar 22 (by omega) rfl) (by decide) (by omega) (by omega) ((xp.2 b (by omega)).1) ?_
  refine g_callVI [aO (some ((ρ a))), aO (some ((ρ b)))] [] rfl rfl rfl rfl (Nat.le_of_ble_eq_true rfl) (cs.kd 17 (by omega) rfl) (x_pput (by omega) cs V xe (ρ a) (ρ b) ta tb (by omega) (by omega) sa sb) ?_
  rintro r1 _ ⟨V2, rfl, hf3, hq⟩
  rw [putX_co ea eb] at hq
  have k2 : V2 (c + 17) 9 = (sPn S : Int) := by rw [hf3 _ (by omega)]; exact xp.1
  refine g_istore (l1 := [(4, aI r1), (0, aO (some (c + 17))), (1, aI 3), (2, aI ((a : Int))), (3, aI ((b : Int)))]) rfl rfl ?_
  refine g_goto rfl ?_
  refine g_iload rfl rfl ?_
  refine g_if_eq rfl (fun cq135 => ?_) (fun cq135 => ?_)
  · skip
    have hN : ¬ (putX (sPc S a) (sPc S b)).1 = true := fun z => by
      rcases hq with y | y
      · rw [y.1] at z
        cases z
      · have := y.2.2
        omega
    have eX : cmbX S 3 a b = none := if_neg hN
    refine g_bipush rfl ?_
    refine g_iret rfl ?_
    rw [eX]
    first
      | (exact hK)
      | (exact ⟨rfl, Or.inl ⟨rfl, V2, rfl, hf3⟩⟩)
  · skip
    have hY0 := hq.resolve_left (fun z => by have := z.2; omega)
    have hY : (putX (sPc S a) (sPc S b)).1 = true ∧ (∀ t < 286, V2 (c + 23) t = (putX (sPc S a) (sPc S b)).2.1 t) := ⟨hY0.1, hY0.2.1⟩
    refine g_aload_n rfl rfl ?_
    refine g_callVI [] [] rfl rfl rfl rfl (Nat.le_of_ble_eq_true rfl) (cs.kd 17 (by omega) rfl) (x_keepResult (by omega) cs V2 (sPn S) k2 (by omega) (by omega)) ?_
    intro r h2 q
    have eX : cmbX S 3 a b = some (putX (sPc S a) (sPc S b)).2.1 := if_pos hY.1
    have hK := PX.keep (row := (putX (sPc S a) (sPc S b)).2.1) (by omega) hf3 hY.2 q
    refine g_goto rfl ?_
    refine g_iret rfl ?_
    rw [eX]
    first
      | (exact hK)
      | (exact ⟨rfl, Or.inl ⟨rfl, V2, rfl, hf3⟩⟩)
set_option maxRecDepth 100000 in
theorem x_pcmb4 {w : aW} {d : Nat} (hd : 24 ≤ d) {h : aH} {c : Nat} (cs : CS h c) (V : Nat → Nat → Int) (xe : XE V c) {S : aS} {ρ : Nat → Nat} (xp : XP h V c S ρ) (ok : OkP S) (hc : c + 67 ≤ hz h) (a : Nat) (ha : a < sPn S) (b : Nat) (hb : b < sPn S) : WP w d 134 [aO (some (c + 17)), aI 4, aI ((a : Int)), aI ((b : Int))] (hw h V) (RI (fun r h1 => r = (match cmbX S 4 a b with | none => (-4, S) | some row => keepPo S row).1 ∧ PX h V c S (match cmbX S 4 a b with | none => (-4, S) | some row => keepPo S row).2 h1)) := by
  obtain ⟨d, rfl⟩ : ∃ d1, d = d1 + 1 := ⟨d - 1, by omega⟩
  refine WP.enter (cd := cd_X4_keepCombined) rfl ?_
  have ea : ∀ t < 286, V (ρ a) t = sPc S a t := (xp.2 a ha).2.2.2.2
  have eb : ∀ t < 286, V (ρ b) t = sPc S b t := (xp.2 b hb).2.2.2.2
  have ta := (xp.2 a ha).2.1
  have tb := (xp.2 b hb).2.1
  have ra := (xp.2 a ha).2.2.1
  have rb := (xp.2 b hb).2.2.1
  have hok := ok.1
  have sa : smX (V (ρ a)) := (smX_co ea).mpr (ok.2 a ha)
  have sb : smX (V (ρ b)) := (smX_co eb).mpr (ok.2 b hb)
  have hls : largs 0 [aO (some (c + 17)), aI 4, aI ((a : Int)), aI ((b : Int))] = [(0, aO (some (c + 17))), (1, aI 4), (2, aI ((a : Int))), (3, aI ((b : Int)))] := rfl
  rw [hls]
  clear hls
  refine g_aload_n rfl rfl ?_
  refine g_iload_n rfl rfl ?_
  refine g_callVI [aI ((a : Int))] [] rfl rfl rfl rfl (Nat.le_of_ble_eq_true rfl) (cs.kd 17 (by omega) rfl) (x_pHas (by omega) cs V xe xp ok ((a : Int))) ?_
  rintro r hx ⟨ehx, rfl⟩
  rw [ehx, if_pos (by omega)]
  clear ehx hx
  refine g_if_eq_f rfl (by omega) ?_
  refine g_aload_n rfl rfl ?_
  refine g_iload_n rfl rfl ?_
  refine g_callVI [aI ((b : Int))] [] rfl rfl rfl rfl (Nat.le_of_ble_eq_true rfl) (cs.kd 17 (by omega) rfl) (x_pHas (by omega) cs V xe xp ok ((b : Int))) ?_
  rintro r hx ⟨ehx, rfl⟩
  rw [ehx, if_pos (by omega)]
  clear ehx hx
  refine g_if_ne_t rfl (by omega) ?_
  refine g_iload_n rfl rfl ?_
  refine g_iconst rfl ?_
  refine g_icmp_ge_t rfl (by omega) ?_
  refine g_iload_n rfl rfl ?_
  refine g_iconst rfl ?_
  refine g_icmp_ne_t rfl (by omega) ?_
  refine g_iload_n rfl rfl ?_
  refine g_iconst rfl ?_
  refine g_icmp_ne_t rfl (by omega) ?_
  refine g_aload_n rfl rfl ?_
  refine g_aload_n rfl rfl ?_
  refine g_getR rfl (cs.kd 17 (by omega) rfl) (cs.rf 26 (by omega) rfl) ?_
  refine g_iload_n rfl rfl ?_
  refine g_aald (i := a) rfl (cs.ar 22 (by omega) rfl) (by decide) (by omega) (by omega) ((xp.2 a (by omega)).1) ?_
  refine g_callVI [aO (some ((ρ a)))] [] rfl rfl rfl rfl (Nat.le_of_ble_eq_true rfl) (cs.kd 17 (by omega) rfl) (x_pder (by omega) cs V xe (ρ a) ta (by omega) sa) ?_
  rintro r5 hx5 ⟨V2, rfl, hf2, r2, ehx5⟩
  rw [der_co ea] at ehx5
  rw [ehx5]
  clear ehx5
  have r3 : ∀ t < 286, V2 (c + 23) t = der (sPc S a) t := fun t ht => by rw [r2 t ht, der_co ea]
  have hf3 : ∀ a, (a < c + 23 ∨ c + 26 < a) → V2 a = V a := fun a ha => hf2 _ (by omega)
  have k2 : V2 (c + 17) 9 = (sPn S : Int) := by rw [hf3 _ (by omega)]; exact xp.1
  refine g_istore (l1 := [(4, aI (if bt (smX (der (sPc S a))) = true then 1 else 0)), (0, aO (some (c + 17))), (1, aI 4), (2, aI ((a : Int))), (3, aI ((b : Int)))]) rfl rfl ?_
  refine g_iload rfl rfl ?_
  refine g_b_eq rfl (fun cq135 => ?_) (fun cq135 => ?_)
  · skip
    have eX : cmbX S 4 a b = none := if_neg cq135
    refine g_bipush rfl ?_
    refine g_iret rfl ?_
    rw [eX]
    first
      | (exact hK)
      | (exact ⟨rfl, Or.inl ⟨rfl, V2, rfl, hf3⟩⟩)
  · skip
    refine g_aload_n rfl rfl ?_
    refine g_callVI [] [] rfl rfl rfl rfl (Nat.le_of_ble_eq_true rfl) (cs.kd 17 (by omega) rfl) (x_keepResult (by omega) cs V2 (sPn S) k2 (by omega) (by omega)) ?_
    intro r h2 q
    have eX : cmbX S 4 a b = some (der (sPc S a)) := if_pos cq135
    have hK := PX.keep (row := (der (sPc S a))) (by omega) hf3 r3 q
    refine g_goto rfl ?_
    refine g_iret rfl ?_
    rw [eX]
    first
      | (exact hK)
      | (exact ⟨rfl, Or.inl ⟨rfl, V2, rfl, hf3⟩⟩)
