/-! the class's polynomials, faces: printed by wip/whole/hd.py -/
theorem gtX_co {f f2 : Nat → Int} (h : ∀ t < 286, f t = f2 t) : gtX f 286 = gtX f2 286 := by
  refine itN_co 286 (fun t ht u => ?_)
  try dsimp only
  rw [h t ht]
theorem prt_co {f f2 : Nat → Int} (h : ∀ t < 286, f t = f2 t) (e : Nat) : prt f e = prt f2 e := by
  funext t
  unfold prt
  by_cases g : (pE t).1 = 0 ∧ e + (pE t).2.1 + (pE t).2.2 ≤ 10
  · rw [if_pos g, if_pos g, h _ (pI_lt g.2)]
  · rw [if_neg g, if_neg g]
theorem der_co {f f2 : Nat → Int} (h : ∀ t < 286, f t = f2 t) : der f = der f2 := by
  funext t
  unfold der
  by_cases g : pD t ≤ 9
  · rw [if_pos g, if_pos g, h _ (pI_lt (by unfold pD at g; omega))]
  · rw [if_neg g, if_neg g]
theorem putX_co {f f2 g g2 : Nat → Int} (h : ∀ t < 286, f t = f2 t) (hg : ∀ t < 286, g t = g2 t) : putX f g = putX f2 g2 := by
  unfold putX putI
  rw [gtX_co h]
  refine itN_co _ (fun e he u => ?_)
  unfold putS putG
  rw [prt_co h, mul_sm (f := u.2.2) (f2 := u.2.2) (g := g) (g2 := g2) (fun t _ => rfl) hg, okX_co (f := u.2.2) (f2 := u.2.2) (g := g) (g2 := g2) (fun t _ => rfl) hg]
/-- one more polynomial -/
def addP (S : aS) (row : Nat → Int) : aS := (S.1, S.2.1, S.2.2.1, (sPn S + 1, fun a => if a = sPn S then row else sPc S a))
def keepPo (S : aS) (row : Nat → Int) : Int × aS := if sPn S < 60 then ((sPn S : Int), addP S row) else (-4, S)
/-- what a face of polynomials leaves -/
def PX (h : aH) (V : Nat → Nat → Int) (c : Nat) (S S1 : aS) (h1 : aH) : Prop := (S1 = S ∧ ∃ V1, h1 = hw h V1 ∧ ∀ a, (a < c + 23 ∨ c + 26 < a) → V1 a = V a) ∨ ∃ row V1, S1 = addP S row ∧ sPn S < 60 ∧ (∀ a, (a < c + 23 ∨ c + 26 < a) → V1 a = V a) ∧ (∀ t < 286, V1 (c + 23) t = row t) ∧ KPost h V1 c (sPn S) h1
theorem PX.keep {h h1 : aH} {V V1 : Nat → Nat → Int} {c : Nat} {S : aS} {row : Nat → Int} {r : Int} (hn : sPn S ≤ 60) (hf : ∀ a, (a < c + 23 ∨ c + 26 < a) → V1 a = V a) (hr : ∀ t < 286, V1 (c + 23) t = row t) (q : (sPn S = 60 → h1 = hw h V1 ∧ r = -4) ∧ (sPn S < 60 → KPost h V1 c (sPn S) h1 ∧ r = sPn S)) : r = (keepPo S row).1 ∧ PX h V c S (keepPo S row).2 h1 := by
  unfold keepPo
  by_cases z : sPn S < 60
  · rw [if_pos z]
    obtain ⟨k, e⟩ := q.2 z
    exact ⟨e, Or.inr ⟨row, V1, rfl, z, hf, hr, k⟩⟩
  · rw [if_neg z]
    obtain ⟨k, e⟩ := q.1 (by omega)
    exact ⟨e, Or.inl ⟨rfl, V1, k, hf⟩⟩
noncomputable def cmbX (S : aS) (op : Int) (a b : Nat) : Option (Nat → Int) :=
  if op = 0 then (if bt (smX (fun t => sPc S a t + sPc S b t)) = true then some (fun t => sPc S a t + sPc S b t) else none)
  else if op = 1 then (if bt (smX (fun t => sPc S a t - sPc S b t)) = true then some (fun t => sPc S a t - sPc S b t) else none)
  else if op = 2 then (if bt (okX (sPc S a) (sPc S b) ∧ smX (mulX (sPc S a) (sPc S b))) = true then some (mulX (sPc S a) (sPc S b)) else none)
  else if op = 3 then (if (putX (sPc S a) (sPc S b)).1 = true then some (putX (sPc S a) (sPc S b)).2.1 else none)
  else (if bt (smX (der (sPc S a))) = true then some (der (sPc S a)) else none)
noncomputable def cmbF (S : aS) (op a b : Int) : Int × aS := if ¬((0 ≤ op ∧ op ≤ 4) ∧ (0 ≤ a ∧ a < sPn S) ∧ 0 ≤ b ∧ b < sPn S) then (-1, S) else match cmbX S op a.toNat b.toNat with
  | none => (-4, S)
  | some row => keepPo S row
set_option maxRecDepth 100000 in
theorem x_pcmb0 {w : aW} {d : Nat} (hd : 24 ≤ d) {h : aH} {c : Nat} (cs : CS h c) (V : Nat → Nat → Int) (xe : XE V c) {S : aS} {ρ : Nat → Nat} (xp : XP h V c S ρ) (ok : OkP S) (hc : c + 67 ≤ hz h) (a : Nat) (ha : a < sPn S) (b : Nat) (hb : b < sPn S) : WP w d 134 [aO (some (c + 17)), aI 0, aI ((a : Int)), aI ((b : Int))] (hw h V) (RI (fun r h1 => r = (match cmbX S 0 a b with | none => (-4, S) | some row => keepPo S row).1 ∧ PX h V c S (match cmbX S 0 a b with | none => (-4, S) | some row => keepPo S row).2 h1)) := by
  obtain ⟨d, rfl⟩ : ∃ d1, d = d1 + 1 := ⟨d - 1, by omega⟩
  refine WP.enter (cd := cd_X4_keepCombined) rfl ?_
  have ea : ∀ t < 286, V (ρ a) t = sPc S a t := (xp.2 a ha).2.2.2.2
  have eb : ∀ t < 286, V (ρ b) t = sPc S b t := (xp.2 b hb).2.2.2.2
  have ta := (xp.2 a ha).2.1
  have tb := (xp.2 b hb).2.1
  have ra := (xp.2 a ha).2.2.1
  have rb := (xp.2 b hb).2.2.1
  have hok := ok.1
  have sa : smX (V (ρ a)) := (smX_co ea).mpr (ok.2 a ha)
  have sb : smX (V (ρ b)) := (smX_co eb).mpr (ok.2 b hb)
  have hls : largs 0 [aO (some (c + 17)), aI 0, aI ((a : Int)), aI ((b : Int))] = [(0, aO (some (c + 17))), (1, aI 0), (2, aI ((a : Int))), (3, aI ((b : Int)))] := rfl
  rw [hls]
  clear hls
  refine g_aload_n rfl rfl ?_
  refine g_iload_n rfl rfl ?_
  refine g_callVI [aI ((a : Int))] [] rfl rfl rfl rfl (Nat.le_of_ble_eq_true rfl) (cs.kd 17 (by omega) rfl) (x_pHas (by omega) cs V xe xp ok ((a : Int))) ?_
  rintro r hx ⟨ehx, rfl⟩
  rw [ehx, if_pos (by omega)]
  clear ehx hx
  refine g_if_eq_f rfl (by omega) ?_
  refine g_aload_n rfl rfl ?_
  refine g_iload_n rfl rfl ?_
  refine g_callVI [aI ((b : Int))] [] rfl rfl rfl rfl (Nat.le_of_ble_eq_true rfl) (cs.kd 17 (by omega) rfl) (x_pHas (by omega) cs V xe xp ok ((b : Int))) ?_
  rintro r hx ⟨ehx, rfl⟩
  rw [ehx, if_pos (by omega)]
  clear ehx hx
  refine g_if_ne_t rfl (by omega) ?_
  refine g_iload_n rfl rfl ?_
  refine g_iconst rfl ?_
  refine g_icmp_ge_f rfl (by omega) ?_
  refine g_aload_n rfl rfl ?_
  refine g_aload_n rfl rfl ?_
  refine g_getR rfl (cs.kd 17 (by omega) rfl) (cs.rf 26 (by omega) rfl) ?_
  refine g_iload_n rfl rfl ?_
  refine g_aald (i := a) rfl (cs.ar 22 (by omega) rfl) (by decide) (by omega) (by omega) ((xp.2 a (by omega)).1) ?_
  refine g_aload_n rfl rfl ?_
  refine g_getR rfl (cs.kd 17 (by omega) rfl) (cs.rf 27 (by omega) rfl) ?_
  refine g_callVN [aO (some ((ρ a))), aO (some (c + 23))] [] rfl rfl rfl rfl (Nat.le_of_ble_eq_true rfl) (cs.kd 17 (by omega) rfl) (x_copy (by omega) cs V (ρ a) (c + 23) ta (cs.ar 23 (by omega) rfl) (by omega)) ?_
  rintro _ ⟨V1, rfl, hf, hz1⟩
  have b1 : V1 (ρ b) = V (ρ b) := hf _ (by omega)
  have r1 : ∀ t < 286, V1 (c + 23) t = sPc S a t := fun t ht => by rw [hz1 t ht]; exact ea t ht
  refine g_aload_n rfl rfl ?_
  refine g_aload_n rfl rfl ?_
  refine g_getR rfl (cs.kd 17 (by omega) rfl) (cs.rf 27 (by omega) rfl) ?_
  refine g_aload_n rfl rfl ?_
  refine g_getR rfl (cs.kd 17 (by omega) rfl) (cs.rf 26 (by omega) rfl) ?_
  refine g_iload_n rfl rfl ?_
  refine g_aald (i := b) rfl (cs.ar 22 (by omega) rfl) (by decide) (by omega) (by omega) ((xp.2 b (by omega)).1) ?_
  refine g_iload_n rfl rfl ?_
  refine g_if_ne_f rfl (by omega) ?_
  refine g_iconst rfl ?_
  refine g_goto rfl ?_
  refine g_callVI [aO (some (c + 23)), aO (some ((ρ b))), aI 1] [] rfl rfl rfl rfl (Nat.le_of_ble_eq_true rfl) (cs.kd 17 (by omega) rfl) (x_padd (by omega) cs V1 (c + 23) (ρ b) (cs.ar 23 (by omega) rfl) tb (by omega) (1) (by omega) ((smX_co r1).mpr (ok.2 a ha)) (by rw [b1]; exact sb)) ?_
  rintro r5 hx5 ⟨V2, rfl, hf2, hz2, ehx5⟩
  have r2 : ∀ t < 286, V2 (c + 23) t = sPc S a t + sPc S b t := fun t ht => by rw [hz2 t ht, r1 t ht, b1, eb t ht]; omega
  rw [ehx5, bt_co (smX_co (g := fun t => sPc S a t + sPc S b t) r2)]
  clear ehx5
  have hf3 : ∀ a, (a < c + 23 ∨ c + 26 < a) → V2 a = V a := fun a ha => by rw [hf2 _ (by omega), hf _ (by omega)]
  have k2 : V2 (c + 17) 9 = (sPn S : Int) := by rw [hf3 _ (by omega)]; exact xp.1
  refine g_istore (l1 := [(4, aI (if bt (smX (fun t => sPc S a t + sPc S b t)) = true then 1 else 0)), (0, aO (some (c + 17))), (1, aI 0), (2, aI ((a : Int))), (3, aI ((b : Int)))]) rfl rfl ?_
  refine g_goto rfl ?_
  refine g_iload rfl rfl ?_
  refine g_b_eq rfl (fun cq135 => ?_) (fun cq135 => ?_)
  · skip
    have eX : cmbX S 0 a b = none := if_neg cq135
    refine g_bipush rfl ?_
    refine g_iret rfl ?_
    rw [eX]
    first
      | (exact hK)
      | (exact ⟨rfl, Or.inl ⟨rfl, V2, rfl, hf3⟩⟩)
  · skip
    refine g_aload_n rfl rfl ?_
    refine g_callVI [] [] rfl rfl rfl rfl (Nat.le_of_ble_eq_true rfl) (cs.kd 17 (by omega) rfl) (x_keepResult (by omega) cs V2 (sPn S) k2 (by omega) (by omega)) ?_
    intro r h2 q
    have eX : cmbX S 0 a b = some (fun t => sPc S a t + sPc S b t) := if_pos cq135
    have hK := PX.keep (row := (fun t => sPc S a t + sPc S b t)) (by omega) hf3 r2 q
    refine g_goto rfl ?_
    refine g_iret rfl ?_
    rw [eX]
    first
      | (exact hK)
      | (exact ⟨rfl, Or.inl ⟨rfl, V2, rfl, hf3⟩⟩)
set_option maxRecDepth 100000 in
theorem x_pcmb1 {w : aW} {d : Nat} (hd : 24 ≤ d) {h : aH} {c : Nat} (cs : CS h c) (V : Nat → Nat → Int) (xe : XE V c) {S : aS} {ρ : Nat → Nat} (xp : XP h V c S ρ) (ok : OkP S) (hc : c + 67 ≤ hz h) (a : Nat) (ha : a < sPn S) (b : Nat) (hb : b < sPn S) : WP w d 134 [aO (some (c + 17)), aI 1, aI ((a : Int)), aI ((b : Int))] (hw h V) (RI (fun r h1 => r = (match cmbX S 1 a b with | none => (-4, S) | some row => keepPo S row).1 ∧ PX h V c S (match cmbX S 1 a b with | none => (-4, S) | some row => keepPo S row).2 h1)) := by
  obtain ⟨d, rfl⟩ : ∃ d1, d = d1 + 1 := ⟨d - 1, by omega⟩
  refine WP.enter (cd := cd_X4_keepCombined) rfl ?_
  have ea : ∀ t < 286, V (ρ a) t = sPc S a t := (xp.2 a ha).2.2.2.2
  have eb : ∀ t < 286, V (ρ b) t = sPc S b t := (xp.2 b hb).2.2.2.2
  have ta := (xp.2 a ha).2.1
  have tb := (xp.2 b hb).2.1
  have ra := (xp.2 a ha).2.2.1
  have rb := (xp.2 b hb).2.2.1
  have hok := ok.1
  have sa : smX (V (ρ a)) := (smX_co ea).mpr (ok.2 a ha)
  have sb : smX (V (ρ b)) := (smX_co eb).mpr (ok.2 b hb)
  have hls : largs 0 [aO (some (c + 17)), aI 1, aI ((a : Int)), aI ((b : Int))] = [(0, aO (some (c + 17))), (1, aI 1), (2, aI ((a : Int))), (3, aI ((b : Int)))] := rfl
  rw [hls]
  clear hls
  refine g_aload_n rfl rfl ?_
  refine g_iload_n rfl rfl ?_
  refine g_callVI [aI ((a : Int))] [] rfl rfl rfl rfl (Nat.le_of_ble_eq_true rfl) (cs.kd 17 (by omega) rfl) (x_pHas (by omega) cs V xe xp ok ((a : Int))) ?_
  rintro r hx ⟨ehx, rfl⟩
  rw [ehx, if_pos (by omega)]
  clear ehx hx
  refine g_if_eq_f rfl (by omega) ?_
  refine g_aload_n rfl rfl ?_
  refine g_iload_n rfl rfl ?_
  refine g_callVI [aI ((b : Int))] [] rfl rfl rfl rfl (Nat.le_of_ble_eq_true rfl) (cs.kd 17 (by omega) rfl) (x_pHas (by omega) cs V xe xp ok ((b : Int))) ?_
  rintro r hx ⟨ehx, rfl⟩
  rw [ehx, if_pos (by omega)]
  clear ehx hx
  refine g_if_ne_t rfl (by omega) ?_
  refine g_iload_n rfl rfl ?_
  refine g_iconst rfl ?_
  refine g_icmp_ge_f rfl (by omega) ?_
  refine g_aload_n rfl rfl ?_
  refine g_aload_n rfl rfl ?_
  refine g_getR rfl (cs.kd 17 (by omega) rfl) (cs.rf 26 (by omega) rfl) ?_
  refine g_iload_n rfl rfl ?_
  refine g_aald (i := a) rfl (cs.ar 22 (by omega) rfl) (by decide) (by omega) (by omega) ((xp.2 a (by omega)).1) ?_
  refine g_aload_n rfl rfl ?_
  refine g_getR rfl (cs.kd 17 (by omega) rfl) (cs.rf 27 (by omega) rfl) ?_
  refine g_callVN [aO (some ((ρ a))), aO (some (c + 23))] [] rfl rfl rfl rfl (Nat.le_of_ble_eq_true rfl) (cs.kd 17 (by omega) rfl) (x_copy (by omega) cs V (ρ a) (c + 23) ta (cs.ar 23 (by omega) rfl) (by omega)) ?_
  rintro _ ⟨V1, rfl, hf, hz1⟩
  have b1 : V1 (ρ b) = V (ρ b) := hf _ (by omega)
  have r1 : ∀ t < 286, V1 (c + 23) t = sPc S a t := fun t ht => by rw [hz1 t ht]; exact ea t ht
  refine g_aload_n rfl rfl ?_
  refine g_aload_n rfl rfl ?_
  refine g_getR rfl (cs.kd 17 (by omega) rfl) (cs.rf 27 (by omega) rfl) ?_
  refine g_aload_n rfl rfl ?_
  refine g_getR rfl (cs.kd 17 (by omega) rfl) (cs.rf 26 (by omega) rfl) ?_
  refine g_iload_n rfl rfl ?_
  refine g_aald (i := b) rfl (cs.ar 22 (by omega) rfl) (by decide) (by omega) (by omega) ((xp.2 b (by omega)).1) ?_
  refine g_iload_n rfl rfl ?_
  refine g_if_ne_t rfl (by omega) ?_
  refine g_iconst rfl ?_
  refine g_callVI [aO (some (c + 23)), aO (some ((ρ b))), aI ((-1))] [] rfl rfl rfl rfl (Nat.le_of_ble_eq_true rfl) (cs.kd 17 (by omega) rfl) (x_padd (by omega) cs V1 (c + 23) (ρ b) (cs.ar 23 (by omega) rfl) tb (by omega) (-1) (by omega) ((smX_co r1).mpr (ok.2 a ha)) (by rw [b1]; exact sb)) ?_
  rintro r5 hx5 ⟨V2, rfl, hf2, hz2, ehx5⟩
  have r2 : ∀ t < 286, V2 (c + 23) t = sPc S a t - sPc S b t := fun t ht => by rw [hz2 t ht, r1 t ht, b1, eb t ht]; omega
  rw [ehx5, bt_co (smX_co (g := fun t => sPc S a t - sPc S b t) r2)]
  clear ehx5
  have hf3 : ∀ a, (a < c + 23 ∨ c + 26 < a) → V2 a = V a := fun a ha => by rw [hf2 _ (by omega), hf _ (by omega)]
  have k2 : V2 (c + 17) 9 = (sPn S : Int) := by rw [hf3 _ (by omega)]; exact xp.1
  refine g_istore (l1 := [(4, aI (if bt (smX (fun t => sPc S a t - sPc S b t)) = true then 1 else 0)), (0, aO (some (c + 17))), (1, aI 1), (2, aI ((a : Int))), (3, aI ((b : Int)))]) rfl rfl ?_
  refine g_goto rfl ?_
  refine g_iload rfl rfl ?_
  refine g_b_eq rfl (fun cq135 => ?_) (fun cq135 => ?_)
  · skip
    have eX : cmbX S 1 a b = none := if_neg cq135
    refine g_bipush rfl ?_
    refine g_iret rfl ?_
    rw [eX]
    first
      | (exact hK)
      | (exact ⟨rfl, Or.inl ⟨rfl, V2, rfl, hf3⟩⟩)
  · skip
    refine g_aload_n rfl rfl ?_
    refine g_callVI [] [] rfl rfl rfl rfl (Nat.le_of_ble_eq_true rfl) (cs.kd 17 (by omega) rfl) (x_keepResult (by omega) cs V2 (sPn S) k2 (by omega) (by omega)) ?_
    intro r h2 q
    have eX : cmbX S 1 a b = some (fun t => sPc S a t - sPc S b t) := if_pos cq135
    have hK := PX.keep (row := (fun t => sPc S a t - sPc S b t)) (by omega) hf3 r2 q
    refine g_goto rfl ?_
    refine g_iret rfl ?_
    rw [eX]
    first
      | (exact hK)
      | (exact ⟨rfl, Or.inl ⟨rfl, V2, rfl, hf3⟩⟩)
set_option maxRecDepth 100000 in
theorem x_pcmb2 {w : aW} {d : Nat} (hd : 24 ≤ d) {h : aH} {c : Nat} (cs : CS h c) (V : Nat → Nat → Int) (xe : XE V c) {S : aS} {ρ : Nat → Nat} (xp : XP h V c S ρ) (ok : OkP S) (hc : c + 67 ≤ hz h) (a : Nat) (ha : a < sPn S) (b : Nat) (hb : b < sPn S) : WP w d 134 [aO (some (c + 17)), aI 2, aI ((a : Int)), aI ((b : Int))] (hw h V) (RI (fun r h1 => r = (match cmbX S 2 a b with | none => (-4, S) | some row => keepPo S row).1 ∧ PX h V c S (match cmbX S 2 a b with | none => (-4, S) | some row => keepPo S row).2 h1)) := by
  obtain ⟨d, rfl⟩ : ∃ d1, d = d1 + 1 := ⟨d - 1, by omega⟩
  refine WP.enter (cd := cd_X4_keepCombined) rfl ?_
  have ea : ∀ t < 286, V (ρ a) t = sPc S a t := (xp.2 a ha).2.2.2.2
  have eb : ∀ t < 286, V (ρ b) t = sPc S b t := (xp.2 b hb).2.2.2.2
  have ta := (xp.2 a ha).2.1
  have tb := (xp.2 b hb).2.1
  have ra := (xp.2 a ha).2.2.1
  have rb := (xp.2 b hb).2.2.1
  have hok := ok.1
  have sa : smX (V (ρ a)) := (smX_co ea).mpr (ok.2 a ha)
  have sb : smX (V (ρ b)) := (smX_co eb).mpr (ok.2 b hb)
  have hls : largs 0 [aO (some (c + 17)), aI 2, aI ((a : Int)), aI ((b : Int))] = [(0, aO (some (c + 17))), (1, aI 2), (2, aI ((a : Int))), (3, aI ((b : Int)))] := rfl
  rw [hls]
  clear hls
  refine g_aload_n rfl rfl ?_
  refine g_iload_n rfl rfl ?_
  refine g_callVI [aI ((a : Int))] [] rfl rfl rfl rfl (Nat.le_of_ble_eq_true rfl) (cs.kd 17 (by omega) rfl) (x_pHas (by omega) cs V xe xp ok ((a : Int))) ?_
  rintro r hx ⟨ehx, rfl⟩
  rw [ehx, if_pos (by omega)]
  clear ehx hx
  refine g_if_eq_f rfl (by omega) ?_
  refine g_aload_n rfl rfl ?_
  refine g_iload_n rfl rfl ?_
  refine g_callVI [aI ((b : Int))] [] rfl rfl rfl rfl (Nat.le_of_ble_eq_true rfl) (cs.kd 17 (by omega) rfl) (x_pHas (by omega) cs V xe xp ok ((b : Int))) ?_
  rintro r hx ⟨ehx, rfl⟩
  rw [ehx, if_pos (by omega)]
  clear ehx hx
  refine g_if_ne_t rfl (by omega) ?_
  refine g_iload_n rfl rfl ?_
  refine g_iconst rfl ?_
  refine g_icmp_ge_t rfl (by omega) ?_
  refine g_iload_n rfl rfl ?_
  refine g_iconst rfl ?_
  refine g_icmp_ne_f rfl (by omega) ?_
  refine g_aload_n rfl rfl ?_
  refine g_aload_n rfl rfl ?_
  refine g_getR rfl (cs.kd 17 (by omega) rfl) (cs.rf 26 (by omega) rfl) ?_
  refine g_iload_n rfl rfl ?_
  refine g_aald (i := a) rfl (cs.ar 22 (by omega) rfl) (by decide) (by omega) (by omega) ((xp.2 a (by omega)).1) ?_
  refine g_aload_n rfl rfl ?_
  refine g_getR rfl (cs.kd 17 (by omega) rfl) (cs.rf 26 (by omega) rfl) ?_
  refine g_iload_n rfl rfl ?_
  refine g_aald (i := b) rfl (cs.ar 22 (by omega) rfl) (by decide) (by omega) (by omega) ((xp.2 b (by omega)).1) ?_
  refine g_aload_n rfl rfl ?_
  refine g_getR rfl (cs.kd 17 (by omega) rfl) (cs.rf 27 (by omega) rfl) ?_
  refine g_callVI [aO (some ((ρ a))), aO (some ((ρ b))), aO (some (c + 23))] [] rfl rfl rfl rfl (Nat.le_of_ble_eq_true rfl) (cs.kd 17 (by omega) rfl) (x_pmul (by omega) cs V xe (ρ a) (ρ b) (c + 23) ta tb (cs.ar 23 (by omega) rfl) (by omega) (by omega) (by omega) sa sb) ?_
  rintro r1 _ ⟨V2, rfl, hf2, hq⟩
  rw [mul_sm ea eb, okX_co ea eb] at hq
  have hf3 : ∀ a, (a < c + 23 ∨ c + 26 < a) → V2 a = V a := fun a ha => hf2 _ (by omega)
  have k2 : V2 (c + 17) 9 = (sPn S : Int) := by rw [hf3 _ (by omega)]; exact xp.1
  refine g_istore (l1 := [(4, aI r1), (0, aO (some (c + 17))), (1, aI 2), (2, aI ((a : Int))), (3, aI ((b : Int)))]) rfl rfl ?_
  refine g_goto rfl ?_
  refine g_iload rfl rfl ?_
  refine g_if_eq rfl (fun cq135 => ?_) (fun cq135 => ?_)
  · skip
    have hN : ¬ bt (okX (sPc S a) (sPc S b) ∧ smX (mulX (sPc S a) (sPc S b))) = true := fun z => by
      have z := bt_iff.mp z
      rcases hq with y | y
      · exact y.1 z.1
      · have h9 := y.2.2
        rw [if_pos (bt_iff.mpr z.2)] at h9
        omega
    have eX : cmbX S 2 a b = none := if_neg hN
    refine g_bipush rfl ?_
    refine g_iret rfl ?_
    rw [eX]
    first
      | (exact hK)
      | (exact ⟨rfl, Or.inl ⟨rfl, V2, rfl, hf3⟩⟩)
  · skip
    have hY0 := hq.resolve_left (fun z => by have := z.2; omega)
    have hY : okX (sPc S a) (sPc S b) ∧ smX (mulX (sPc S a) (sPc S b)) := ⟨hY0.1, bt_iff.mp (Decidable.byContradiction fun z => by have h9 := hY0.2.2; rw [if_neg z] at h9; omega)⟩
    have hY2 := hY0.2.1
    refine g_aload_n rfl rfl ?_
    refine g_callVI [] [] rfl rfl rfl rfl (Nat.le_of_ble_eq_true rfl) (cs.kd 17 (by omega) rfl) (x_keepResult (by omega) cs V2 (sPn S) k2 (by omega) (by omega)) ?_
    intro r h2 q
    have eX : cmbX S 2 a b = some (mulX (sPc S a) (sPc S b)) := if_pos (bt_iff.mpr hY)
    have hK := PX.keep (row := (mulX (sPc S a) (sPc S b))) (by omega) hf3 hY2 q
    refine g_goto rfl ?_
    refine g_iret rfl ?_
    rw [eX]
    first
      | (exact hK)
      | (exact ⟨rfl, Or.inl ⟨rfl, V2, rfl, hf3⟩⟩)
set_option maxRecDepth 100000 in
theorem x_pcmb3 {w : aW} {d : Nat} (hd : 24 ≤ d) {h : aH} {c : Nat} (cs : CS h c) (V : Nat → Nat → Int) (xe : XE V c) {S : aS} {ρ : Nat → Nat} (xp : XP h V c S ρ) (ok : OkP S) (hc : c + 67 ≤ hz h) (a : Nat) (ha : a < sPn S) (b : Nat) (hb : b < sPn S) : WP w d 134 [aO (some (c + 17)), aI 3, aI ((a : Int)), aI ((b : Int))] (hw h V) (RI (fun r h1 => r = (match cmbX S 3 a b with | none => (-4, S) | some row => keepPo S row).1 ∧ PX h V c S (match cmbX S 3 a b with | none => (-4, S) | some row => keepPo S row).2 h1)) := by
  obtain ⟨d, rfl⟩ : ∃ d1, d = d1 + 1 := ⟨d - 1, by omega⟩
  refine WP.enter (cd := cd_X4_keepCombined) rfl ?_
  have ea : ∀ t < 286, V (ρ a) t = sPc S a t := (xp.2 a ha).2.2.2.2
  have eb : ∀ t < 286, V (ρ b) t = sPc S b t := (xp.2 b hb).2.2.2.2
  have ta := (xp.2 a ha).2.1
  have tb := (xp.2 b hb).2.1
  have ra := (xp.2 a ha).2.2.1
  have rb := (xp.2 b hb).2.2.1
  have hok := ok.1
  have sa : smX (V (ρ a)) := (smX_co ea).mpr (ok.2 a ha)
  have sb : smX (V (ρ b)) := (smX_co eb).mpr (ok.2 b hb)
  have hls : largs 0 [aO (some (c + 17)), aI 3, aI ((a : Int)), aI ((b : Int))] = [(0, aO (some (c + 17))), (1, aI 3), (2, aI ((a : Int))), (3, aI ((b : Int)))] := rfl
  rw [hls]
  clear hls
  refine g_aload_n rfl rfl ?_
  refine g_iload_n rfl rfl ?_
  refine g_callVI [aI ((a : Int))] [] rfl rfl rfl rfl (Nat.le_of_ble_eq_true rfl) (cs.kd 17 (by omega) rfl) (x_pHas (by omega) cs V xe xp ok ((a : Int))) ?_
  rintro r hx ⟨ehx, rfl⟩
  rw [ehx, if_pos (by omega)]
  clear ehx hx
  refine g_if_eq_f rfl (by omega) ?_
  refine g_aload_n rfl rfl ?_
  refine g_iload_n rfl rfl ?_
  refine g_callVI [aI ((b : Int))] [] rfl rfl rfl rfl (Nat.le_of_ble_eq_true rfl) (cs.kd 17 (by omega) rfl) (x_pHas (by omega) cs V xe xp ok ((b : Int))) ?_
  rintro r hx ⟨ehx, rfl⟩
  rw [ehx, if_pos (by omega)]
  clear ehx hx
  refine g_if_ne_t rfl (by omega) ?_
  refine g_iload_n rfl rfl ?_
  refine g_iconst rfl ?_
  refine g_icmp_ge_t rfl (by omega) ?_
  refine g_iload_n rfl rfl ?_
  refine g_iconst rfl ?_
  refine g_icmp_ne_t rfl (by omega) ?_
  refine g_iload_n rfl rfl ?_
  refine g_iconst rfl ?_
  refine g_icmp_ne_f rfl (by omega) ?_
  refine g_aload_n rfl rfl ?_
  refine g_aload_n rfl rfl ?_
  refine g_getR rfl (cs.kd 17 (by omega) rfl) (cs.rf 26 (by omega) rfl) ?_
  refine g_iload_n rfl rfl ?_
  refine g_aald (i := a) rfl (cs.ar 22 (by omega) rfl) (by decide) (by omega) (by omega) ((xp.2 a (by omega)).1) ?_
  refine g_aload_n rfl rfl ?_
  refine g_getR rfl (cs.kd 17 (by omega) rfl) (cs.rf 26 (by omega) rfl) ?_
  refine g_iload_n rfl rfl ?_
  refine g_aald (i := b) rfl (cs.ar 22 (by omega) rfl) (by decide) (by omega) (by omega) ((xp.2 b (by omega)).1) ?_
  refine g_callVI [aO (some ((ρ a))), aO (some ((ρ b)))] [] rfl rfl rfl rfl (Nat.le_of_ble_eq_true rfl) (cs.kd 17 (by omega) rfl) (x_pput (by omega) cs V xe (ρ a) (ρ b) ta tb (by omega) (by omega) sa sb) ?_
  rintro r1 _ ⟨V2, rfl, hf3, hq⟩
  rw [putX_co ea eb] at hq
  have k2 : V2 (c + 17) 9 = (sPn S : Int) := by rw [hf3 _ (by omega)]; exact xp.1
  refine g_istore (l1 := [(4, aI r1), (0, aO (some (c + 17))), (1, aI 3), (2, aI ((a : Int))), (3, aI ((b : Int)))]) rfl rfl ?_
  refine g_goto rfl ?_
  refine g_iload rfl rfl ?_
  refine g_if_eq rfl (fun cq135 => ?_) (fun cq135 => ?_)
  · skip
    have hN : ¬ (putX (sPc S a) (sPc S b)).1 = true := fun z => by
      rcases hq with y | y
      · rw [y.1] at z
        cases z
      · have := y.2.2
        omega
    have eX : cmbX S 3 a b = none := if_neg hN
    refine g_bipush rfl ?_
    refine g_iret rfl ?_
    rw [eX]
    first
      | (exact hK)
      | (exact ⟨rfl, Or.inl ⟨rfl, V2, rfl, hf3⟩⟩)
  · skip
    have hY0 := hq.resolve_left (fun z => by have := z.2; omega)
    have hY : (putX (sPc S a) (sPc S b)).1 = true ∧ (∀ t < 286, V2 (c + 23) t = (putX (sPc S a) (sPc S b)).2.1 t) := ⟨hY0.1, hY0.2.1⟩
    refine g_aload_n rfl rfl ?_
    refine g_callVI [] [] rfl rfl rfl rfl (Nat.le_of_ble_eq_true rfl) (cs.kd 17 (by omega) rfl) (x_keepResult (by omega) cs V2 (sPn S) k2 (by omega) (by omega)) ?_
    intro r h2 q
    have eX : cmbX S 3 a b = some (putX (sPc S a) (sPc S b)).2.1 := if_pos hY.1
    have hK := PX.keep (row := (putX (sPc S a) (sPc S b)).2.1) (by omega) hf3 hY.2 q
    refine g_goto rfl ?_
    refine g_iret rfl ?_
    rw [eX]
    first
      | (exact hK)
      | (exact ⟨rfl, Or.inl ⟨rfl, V2, rfl, hf3⟩⟩)
set_option maxRecDepth 100000 in
theorem x_pcmb4 {w : aW} {d : Nat} (hd : 24 ≤ d) {h : aH} {c : Nat} (cs : CS h c) (V : Nat → Nat → Int) (xe : XE V c) {S : aS} {ρ : Nat → Nat} (xp : XP h V c S ρ) (ok : OkP S) (hc : c + 67 ≤ hz h) (a : Nat) (ha : a < sPn S) (b : Nat) (hb : b < sPn S) : WP w d 134 [aO (some (c + 17)), aI 4, aI ((a : Int)), aI ((b : Int))] (hw h V) (RI (fun r h1 => r = (match cmbX S 4 a b with | none => (-4, S) | some row => keepPo S row).1 ∧ PX h V c S (match cmbX S 4 a b with | none => (-4, S) | some row => keepPo S row).2 h1)) := by
  obtain ⟨d, rfl⟩ : ∃ d1, d = d1 + 1 := ⟨d - 1, by omega⟩
  refine WP.enter (cd := cd_X4_keepCombined) rfl ?_
  have ea : ∀ t < 286, V (ρ a) t = sPc S a t := (xp.2 a ha).2.2.2.2
  have eb : ∀ t < 286, V (ρ b) t = sPc S b t := (xp.2 b hb).2.2.2.2
  have ta := (xp.2 a ha).2.1
  have tb := (xp.2 b hb).2.1
  have ra := (xp.2 a ha).2.2.1
  have rb := (xp.2 b hb).2.2.1
  have hok := ok.1
  have sa : smX (V (ρ a)) := (smX_co ea).mpr (ok.2 a ha)
  have sb : smX (V (ρ b)) := (smX_co eb).mpr (ok.2 b hb)
  have hls : largs 0 [aO (some (c + 17)), aI 4, aI ((a : Int)), aI ((b : Int))] = [(0, aO (some (c + 17))), (1, aI 4), (2, aI ((a : Int))), (3, aI ((b : Int)))] := rfl
  rw [hls]
  clear hls
  refine g_aload_n rfl rfl ?_
  refine g_iload_n rfl rfl ?_
  refine g_callVI [aI ((a : Int))] [] rfl rfl rfl rfl (Nat.le_of_ble_eq_true rfl) (cs.kd 17 (by omega) rfl) (x_pHas (by omega) cs V xe xp ok ((a : Int))) ?_
  rintro r hx ⟨ehx, rfl⟩
  rw [ehx, if_pos (by omega)]
  clear ehx hx
  refine g_if_eq_f rfl (by omega) ?_
  refine g_aload_n rfl rfl ?_
  refine g_iload_n rfl rfl ?_
  refine g_callVI [aI ((b : Int))] [] rfl rfl rfl rfl (Nat.le_of_ble_eq_true rfl) (cs.kd 17 (by omega) rfl) (x_pHas (by omega) cs V xe xp ok ((b : Int))) ?_
  rintro r hx ⟨ehx, rfl⟩
  rw [ehx, if_pos (by omega)]
  clear ehx hx
  refine g_if_ne_t rfl (by omega) ?_
  refine g_iload_n rfl rfl ?_
  refine g_iconst rfl ?_
  refine g_icmp_ge_t rfl (by omega) ?_
  refine g_iload_n rfl rfl ?_
  refine g_iconst rfl ?_
  refine g_icmp_ne_t rfl (by omega) ?_
  refine g_iload_n rfl rfl ?_
  refine g_iconst rfl ?_
  refine g_icmp_ne_t rfl (by omega) ?_
  refine g_aload_n rfl rfl ?_
  refine g_aload_n rfl rfl ?_
  refine g_getR rfl (cs.kd 17 (by omega) rfl) (cs.rf 26 (by omega) rfl) ?_
  refine g_iload_n rfl rfl ?_
  refine g_aald (i := a) rfl (cs.ar 22 (by omega) rfl) (by decide) (by omega) (by omega) ((xp.2 a (by omega)).1) ?_
  refine g_callVI [aO (some ((ρ a)))] [] rfl rfl rfl rfl (Nat.le_of_ble_eq_true rfl) (cs.kd 17 (by omega) rfl) (x_pder (by omega) cs V xe (ρ a) ta (by omega) sa) ?_
  rintro r5 hx5 ⟨V2, rfl, hf2, r2, ehx5⟩
  rw [der_co ea] at ehx5
  rw [ehx5]
  clear ehx5
  have r3 : ∀ t < 286, V2 (c + 23) t = der (sPc S a) t := fun t ht => by rw [r2 t ht, der_co ea]
  have hf3 : ∀ a, (a < c + 23 ∨ c + 26 < a) → V2 a = V a := fun a ha => hf2 _ (by omega)
  have k2 : V2 (c + 17) 9 = (sPn S : Int) := by rw [hf3 _ (by omega)]; exact xp.1
  refine g_istore (l1 := [(4, aI (if bt (smX (der (sPc S a))) = true then 1 else 0)), (0, aO (some (c + 17))), (1, aI 4), (2, aI ((a : Int))), (3, aI ((b : Int)))]) rfl rfl ?_
  refine g_iload rfl rfl ?_
  refine g_b_eq rfl (fun cq135 => ?_) (fun cq135 => ?_)
  · skip
    have eX : cmbX S 4 a b = none := if_neg cq135
    refine g_bipush rfl ?_
    refine g_iret rfl ?_
    rw [eX]
    first
      | (exact hK)
      | (exact ⟨rfl, Or.inl ⟨rfl, V2, rfl, hf3⟩⟩)
  · skip
    refine g_aload_n rfl rfl ?_
    refine g_callVI [] [] rfl rfl rfl rfl (Nat.le_of_ble_eq_true rfl) (cs.kd 17 (by omega) rfl) (x_keepResult (by omega) cs V2 (sPn S) k2 (by omega) (by omega)) ?_
    intro r h2 q
    have eX : cmbX S 4 a b = some (der (sPc S a)) := if_pos cq135
    have hK := PX.keep (row := (der (sPc S a))) (by omega) hf3 r3 q
    refine g_goto rfl ?_
    refine g_iret rfl ?_
    rw [eX]
    first
      | (exact hK)
      | (exact ⟨rfl, Or.inl ⟨rfl, V2, rfl, hf3⟩⟩)
theorem x_pcmb {w : aW} {d : Nat} (hd : 24 ≤ d) {h : aH} {c : Nat} (cs : CS h c) (V : Nat → Nat → Int) (xe : XE V c) {S : aS} {ρ : Nat → Nat} (xp : XP h V c S ρ) (ok : OkP S) (hc : c + 67 ≤ hz h) (a : Nat) (ha : a < sPn S) (b : Nat) (hb : b < sPn S) (op : Int) (ho : 0 ≤ op ∧ op ≤ 4) : WP w d 134 [aO (some (c + 17)), aI op, aI ((a : Int)), aI ((b : Int))] (hw h V) (RI (fun r h1 => r = (match cmbX S op a b with | none => (-4, S) | some row => keepPo S row).1 ∧ PX h V c S (match cmbX S op a b with | none => (-4, S) | some row => keepPo S row).2 h1)) := by
  rcases (show op = 0 ∨ op = 1 ∨ op = 2 ∨ op = 3 ∨ op = 4 by omega) with z | z | z | z | z <;> subst z
  · exact x_pcmb0 hd cs V xe xp ok hc a ha b hb
  · exact x_pcmb1 hd cs V xe xp ok hc a ha b hb
  · exact x_pcmb2 hd cs V xe xp ok hc a ha b hb
  · exact x_pcmb3 hd cs V xe xp ok hc a ha b hb
  · exact x_pcmb4 hd cs V xe xp ok hc a ha b hb
/-- a term of one unknown or of none -/
noncomputable def termF (S : aS) (v u : Int) : Int × aS := if u < -1 ∨ 2 < u then (-2, S) else if v < -67108864 ∨ 67108864 < v then (-4, S) else keepPo S (sP v u)
noncomputable def sameF (S : aS) (a b : Int) : Int := if ¬((0 ≤ a ∧ a < sPn S) ∧ 0 ≤ b ∧ b < sPn S) then -1 else if bt (∀ t < 286, sPc S a.toNat t = sPc S b.toNat t) = true then 1 else 0
set_option maxRecDepth 100000 in
theorem f_combine {w : aW} {d : Nat} (hd : 30 ≤ d) {h : aH} {c : Nat} (cs : CS h c) (V : Nat → Nat → Int) (xe : XE V c) {S : aS} {ρ : Nat → Nat} (xp : XP h V c S ρ) (ok : OkP S) (hc : c + 67 ≤ hz h) (op a b : Int) : WP w d 216 [aO (some c), aI op, aI a, aI b] (hw h V) (RI (fun r h1 => r = (cmbF S op a b).1 ∧ PX h V c S (cmbF S op a b).2 h1)) := by
  obtain ⟨d, rfl⟩ : ∃ d1, d = d1 + 1 := ⟨d - 1, by omega⟩
  refine WP.enter (cd := cd_X11_combine) rfl ?_
  have hls : largs 0 [aO (some c), aI op, aI a, aI b] = [(0, aO (some c)), (1, aI op), (2, aI a), (3, aI b)] := rfl
  rw [hls]
  clear hls
  refine g_iload_n rfl rfl ?_
  refine g_if_lt rfl (fun cq1 => ?_) (fun cq1 => ?_)
  · skip
    refine g_iconst rfl ?_
    refine g_iret rfl ?_
    have eF : cmbF S op a b = (-1, S) := if_pos (by omega)
    rw [eF]
    exact ⟨rfl, Or.inl ⟨rfl, V, rfl, fun _ _ => rfl⟩⟩
  · skip
    refine g_iload_n rfl rfl ?_
    refine g_iconst rfl ?_
    refine g_icmp_gt rfl (fun cq6 => ?_) (fun cq6 => ?_)
    · skip
      refine g_iconst rfl ?_
      refine g_iret rfl ?_
      have eF : cmbF S op a b = (-1, S) := if_pos (by omega)
      rw [eF]
      exact ⟨rfl, Or.inl ⟨rfl, V, rfl, fun _ _ => rfl⟩⟩
    · skip
      refine g_aload_n rfl rfl ?_
      refine g_getR rfl (cs.kd 0 (by omega) rfl) (cs.rf 31 (by omega) rfl) ?_
      refine g_iload_n rfl rfl ?_
      refine g_callVI [aI a] [] rfl rfl rfl rfl (Nat.le_of_ble_eq_true rfl) (cs.kd 17 (by omega) rfl) (x_pHas (by omega) cs V xe xp ok a) ?_
      rintro r hx ⟨ehx, rfl⟩
      rw [ehx]
      clear ehx hx
      refine g_b_eq rfl (fun cq17 => ?_) (fun cq17 => ?_)
      · skip
        refine g_iconst rfl ?_
        refine g_iret rfl ?_
        have eF : cmbF S op a b = (-1, S) := if_pos (by omega)
        rw [eF]
        exact ⟨rfl, Or.inl ⟨rfl, V, rfl, fun _ _ => rfl⟩⟩
      · skip
        refine g_aload_n rfl rfl ?_
        refine g_getR rfl (cs.kd 0 (by omega) rfl) (cs.rf 31 (by omega) rfl) ?_
        refine g_iload_n rfl rfl ?_
        refine g_callVI [aI b] [] rfl rfl rfl rfl (Nat.le_of_ble_eq_true rfl) (cs.kd 17 (by omega) rfl) (x_pHas (by omega) cs V xe xp ok b) ?_
        rintro r hx ⟨ehx, rfl⟩
        rw [ehx]
        clear ehx hx
        refine g_b_ne rfl (fun cq28 => ?_) (fun cq28 => ?_)
        · skip
          obtain ⟨p, rfl⟩ : ∃ p : Nat, a = p := ⟨a.toNat, by omega⟩
          obtain ⟨q, rfl⟩ : ∃ q : Nat, b = q := ⟨b.toNat, by omega⟩
          refine g_aload_n rfl rfl ?_
          refine g_getR rfl (cs.kd 0 (by omega) rfl) (cs.rf 31 (by omega) rfl) ?_
          refine g_iload_n rfl rfl ?_
          refine g_iload_n rfl rfl ?_
          refine g_iload_n rfl rfl ?_
          refine g_callVI [aI op, aI ((p : Int)), aI ((q : Int))] [] rfl rfl rfl rfl (Nat.le_of_ble_eq_true rfl) (cs.kd 17 (by omega) rfl) (x_pcmb (by omega) cs V xe xp ok hc p (by omega) q (by omega) op (by omega)) ?_
          rintro r h2 hq
          refine g_iret rfl ?_
          have eF : cmbF S op p q = (match cmbX S op p q with | none => (-4, S) | some row => keepPo S row) := if_neg (by omega)
          rw [eF]
          exact hq
        · skip
          refine g_iconst rfl ?_
          refine g_iret rfl ?_
          have eF : cmbF S op a b = (-1, S) := if_pos (by omega)
          rw [eF]
          exact ⟨rfl, Or.inl ⟨rfl, V, rfl, fun _ _ => rfl⟩⟩
set_option maxRecDepth 100000 in
theorem f_coef {w : aW} {d : Nat} (hd : 30 ≤ d) {h : aH} {c : Nat} (cs : CS h c) (V : Nat → Nat → Int) (xe : XE V c) {S : aS} {ρ : Nat → Nat} (xp : XP h V c S ρ) (ok : OkP S) (a i j k : Int) : WP w d 217 [aO (some c), aI a, aI i, aI j, aI k] (hw h V) (RJ (fun r h1 => h1 = hw h V ∧ r = if (0 ≤ a ∧ a < sPn S) ∧ 0 ≤ i ∧ 0 ≤ j ∧ 0 ≤ k ∧ i + j + k ≤ 10 then sPc S a.toNat (pI i.toNat j.toNat k.toNat) else 0)) := by
  obtain ⟨d, rfl⟩ : ∃ d1, d = d1 + 1 := ⟨d - 1, by omega⟩
  refine WP.enter (cd := cd_X11_coefficient) rfl ?_
  have hls : largs 0 [aO (some c), aI a, aI i, aI j, aI k] = [(0, aO (some c)), (1, aI a), (2, aI i), (3, aI j), (4, aI k)] := rfl
  rw [hls]
  clear hls
  refine g_aload_n rfl rfl ?_
  refine g_getR rfl (cs.kd 0 (by omega) rfl) (cs.rf 31 (by omega) rfl) ?_
  refine g_iload_n rfl rfl ?_
  refine g_iload_n rfl rfl ?_
  refine g_iload_n rfl rfl ?_
  refine g_iload rfl rfl ?_
  refine g_callVJ [aI a, aI i, aI j, aI k] [] rfl rfl rfl rfl (Nat.le_of_ble_eq_true rfl) (cs.kd 17 (by omega) rfl) (x_pCoef (by omega) cs V xe xp ok a i j k) ?_
  rintro r hx ⟨ehx, rfl⟩
  rw [ehx]
  clear ehx hx
  refine g_lret rfl ?_
  exact ⟨rfl, rfl⟩
set_option maxRecDepth 100000 in
theorem f_same {w : aW} {d : Nat} (hd : 30 ≤ d) {h : aH} {c : Nat} (cs : CS h c) (V : Nat → Nat → Int) (xe : XE V c) {S : aS} {ρ : Nat → Nat} (xp : XP h V c S ρ) (ok : OkP S) (a b : Int) : WP w d 218 [aO (some c), aI a, aI b] (hw h V) (RI (fun r h1 => h1 = hw h V ∧ r = sameF S a b)) := by
  obtain ⟨d, rfl⟩ : ∃ d1, d = d1 + 1 := ⟨d - 1, by omega⟩
  refine WP.enter (cd := cd_X11_same) rfl ?_
  have hls : largs 0 [aO (some c), aI a, aI b] = [(0, aO (some c)), (1, aI a), (2, aI b)] := rfl
  rw [hls]
  clear hls
  refine g_aload_n rfl rfl ?_
  refine g_getR rfl (cs.kd 0 (by omega) rfl) (cs.rf 31 (by omega) rfl) ?_
  refine g_iload_n rfl rfl ?_
  refine g_callVI [aI a] [] rfl rfl rfl rfl (Nat.le_of_ble_eq_true rfl) (cs.kd 17 (by omega) rfl) (x_pHas (by omega) cs V xe xp ok a) ?_
  rintro r hx ⟨ehx, rfl⟩
  rw [ehx]
  clear ehx hx
  refine g_b_eq rfl (fun cq8 => ?_) (fun cq8 => ?_)
  · skip
    refine g_iconst rfl ?_
    refine g_iret rfl ?_
    exact ⟨rfl, (if_pos (by omega)).symm⟩
  · skip
    refine g_aload_n rfl rfl ?_
    refine g_getR rfl (cs.kd 0 (by omega) rfl) (cs.rf 31 (by omega) rfl) ?_
    refine g_iload_n rfl rfl ?_
    refine g_callVI [aI b] [] rfl rfl rfl rfl (Nat.le_of_ble_eq_true rfl) (cs.kd 17 (by omega) rfl) (x_pHas (by omega) cs V xe xp ok b) ?_
    rintro r hx ⟨ehx, rfl⟩
    rw [ehx]
    clear ehx hx
    refine g_b_ne rfl (fun cq19 => ?_) (fun cq19 => ?_)
    · skip
      obtain ⟨p, rfl⟩ : ∃ p : Nat, a = p := ⟨a.toNat, by omega⟩
      obtain ⟨q, rfl⟩ : ∃ q : Nat, b = q := ⟨b.toNat, by omega⟩
      have eF : sameF S p q = if bt (∀ t < 286, sPc S p t = sPc S q t) = true then 1 else 0 := if_neg (by omega)
      refine g_aload_n rfl rfl ?_
      refine g_getR rfl (cs.kd 0 (by omega) rfl) (cs.rf 31 (by omega) rfl) ?_
      refine g_iload_n rfl rfl ?_
      refine g_iload_n rfl rfl ?_
      refine g_callVI [aI ((p : Int)), aI ((q : Int))] [] rfl rfl rfl rfl (Nat.le_of_ble_eq_true rfl) (cs.kd 17 (by omega) rfl) (x_pSame (by omega) cs V xe xp ok p (by omega) q (by omega)) ?_
      rintro r hx ⟨ehx, rfl⟩
      rw [ehx]
      clear ehx hx
      refine g_b_eq rfl (fun cq33 => ?_) (fun cq33 => ?_)
      · skip
        refine g_iconst rfl ?_
        refine g_iret rfl ?_
        refine ⟨rfl, ?_⟩
        rw [eF]
        first
          | (refine (if_pos ?_).symm; exact cq33)
          | (refine (if_neg ?_).symm; exact cq33)
      · skip
        refine g_iconst rfl ?_
        refine g_goto rfl ?_
        refine g_iret rfl ?_
        refine ⟨rfl, ?_⟩
        rw [eF]
        first
          | (refine (if_pos ?_).symm; exact cq33)
          | (refine (if_neg ?_).symm; exact cq33)
    · skip
      refine g_iconst rfl ?_
      refine g_iret rfl ?_
      exact ⟨rfl, (if_pos (by omega)).symm⟩
set_option maxRecDepth 100000 in
theorem f_term {w : aW} {d : Nat} (hd : 30 ≤ d) {h : aH} {c : Nat} (cs : CS h c) (V : Nat → Nat → Int) (xe : XE V c) {S : aS} {ρ : Nat → Nat} (xp : XP h V c S ρ) (ok : OkP S) (hc : c + 67 ≤ hz h) (v u : Int) : WP w d 215 [aO (some c), aJ v, aI u] (hw h V) (RI (fun r h1 => r = (termF S v u).1 ∧ PX h V c S (termF S v u).2 h1)) := by
  obtain ⟨d, rfl⟩ : ∃ d1, d = d1 + 1 := ⟨d - 1, by omega⟩
  refine WP.enter (cd := cd_X11_term) rfl ?_
  have hok := ok.1
  have hls : largs 0 [aO (some c), aJ v, aI u] = [(0, aO (some c)), (1, aJ v), (3, aI u)] := rfl
  rw [hls]
  clear hls
  refine g_iload_n rfl rfl ?_
  refine g_iconst rfl ?_
  refine g_icmp_eq rfl (fun cq2 => ?_) (fun cq2 => ?_)
  · skip
    refine g_aload_n rfl rfl ?_
    refine g_getR rfl (cs.kd 0 (by omega) rfl) (cs.rf 31 (by omega) rfl) ?_
    refine g_lload_n rfl rfl ?_
    refine g_iload_n rfl rfl ?_
    refine g_callVI [aJ v, aI u] [] rfl rfl rfl rfl (Nat.le_of_ble_eq_true rfl) (cs.kd 17 (by omega) rfl) (x_keepSingle (by omega) cs V (sPn S) xp.1 (by omega) (by omega) xe v u) ?_
    rintro r h2 hq
    refine g_iret rfl ?_
    have eF : termF S v u = if v < -67108864 ∨ 67108864 < v then (-4, S) else keepPo S (sP v u) := if_neg (by omega)
    rw [eF]
    by_cases z : v < -67108864 ∨ 67108864 < v
    · rw [if_pos z] at hq
      rw [if_pos z]
      obtain ⟨h1, h2⟩ := hq
      exact ⟨h2, Or.inl ⟨rfl, V, h1, fun _ _ => rfl⟩⟩
    · rw [if_neg z] at hq
      rw [if_neg z]
      obtain ⟨V1, hf, hr, q⟩ := hq
      exact PX.keep (by omega) (fun a ha => hf a (by omega)) hr q
  · skip
    refine g_iload_n rfl rfl ?_
    refine g_if_lt rfl (fun cq6 => ?_) (fun cq6 => ?_)
    · skip
      refine g_bipush rfl ?_
      refine g_iret rfl ?_
      have eF : termF S v u = (-2, S) := if_pos (by omega)
      rw [eF]
      exact ⟨rfl, Or.inl ⟨rfl, V, rfl, fun _ _ => rfl⟩⟩
    · skip
      refine g_iload_n rfl rfl ?_
      refine g_iconst rfl ?_
      refine g_icmp_le rfl (fun cq11 => ?_) (fun cq11 => ?_)
      · skip
        refine g_aload_n rfl rfl ?_
        refine g_getR rfl (cs.kd 0 (by omega) rfl) (cs.rf 31 (by omega) rfl) ?_
        refine g_lload_n rfl rfl ?_
        refine g_iload_n rfl rfl ?_
        refine g_callVI [aJ v, aI u] [] rfl rfl rfl rfl (Nat.le_of_ble_eq_true rfl) (cs.kd 17 (by omega) rfl) (x_keepSingle (by omega) cs V (sPn S) xp.1 (by omega) (by omega) xe v u) ?_
        rintro r h2 hq
        refine g_iret rfl ?_
        have eF : termF S v u = if v < -67108864 ∨ 67108864 < v then (-4, S) else keepPo S (sP v u) := if_neg (by omega)
        rw [eF]
        by_cases z : v < -67108864 ∨ 67108864 < v
        · rw [if_pos z] at hq
          rw [if_pos z]
          obtain ⟨h1, h2⟩ := hq
          exact ⟨h2, Or.inl ⟨rfl, V, h1, fun _ _ => rfl⟩⟩
        · rw [if_neg z] at hq
          rw [if_neg z]
          obtain ⟨V1, hf, hr, q⟩ := hq
          exact PX.keep (by omega) (fun a ha => hf a (by omega)) hr q
      · skip
        refine g_bipush rfl ?_
        refine g_iret rfl ?_
        have eF : termF S v u = (-2, S) := if_pos (by omega)
        rw [eF]
        exact ⟨rfl, Or.inl ⟨rfl, V, rfl, fun _ _ => rfl⟩⟩
