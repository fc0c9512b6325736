/-! the class's boards from the face on: printed by wip/whole/s54.py -/
/-- the rows of ways: none yet, or two, behind all that is laid at the start -/
def CW (h : aH) (c : Nat) : Prop := (hR h (c + 27) 0 = none ∧ hR h (c + 27) 1 = none) ∨ ∃ wa nb, hR h (c + 27) 0 = some wa ∧ hR h (c + 27) 1 = some nb ∧ hT h wa = (2, 6561) ∧ hT h nb = (2, 6561) ∧ wa ≠ nb ∧ c + 67 ≤ wa ∧ c + 67 ≤ nb ∧ wa < hz h ∧ nb < hz h
/-- what a board leaves behind -/
def WPost (h : aH) (V : Nat → Nat → Int) (c : Nat) (h1 : aH) : Prop := ∃ g V2, h1 = hw g V2 ∧ CW g c ∧ CS g c ∧ hz h ≤ hz g ∧ hz g ≤ hz h + 2 ∧ hs g ≤ hs h + 13122 ∧ (∀ a < hz h, hT g a = hT h a) ∧ (∀ a, hz g ≤ a → hT g a = hT h a) ∧ (∀ a < hz h, a ≠ c + 27 → ∀ f, hR g a f = hR h a f) ∧ (∀ f, 2 ≤ f → hR g (c + 27) f = hR h (c + 27) f) ∧ (∀ a < hz h, a ≠ c + 27 → (a < c + 67 ∨ hT h a ≠ (2, 6561)) → V2 a = V a)
theorem wp_ways {h : aH} {V V0 : Nat → Nat → Int} {c wa nb A B : Nat} {h1 g : aH} {V2 : Nat → Nat → Int} (cs : CS h c) (lr : LRef h g c wa nb A B) (e : h1 = hw g V2) (hf : ∀ a, a ≠ wa → a ≠ nb → V2 a = V a) (hV : ∀ a, a ≠ c + 27 → V a = V0 a) (ta : hT h wa = (2, 6561)) (tn : hT h nb = (2, 6561)) (hne : wa ≠ nb) (h1a : c + 67 ≤ wa) (h2a : c + 67 ≤ nb) (h3a : wa < hz h) (h4a : nb < hz h) : WPost h V0 c h1 := by
  have e1 : hz g = hz h := by rw [lr.1, hz_put, hz_put]
  have e2 : hs g = hs h := by rw [lr.1, hs_put, hs_put]
  refine ⟨g, V2, e, Or.inr ⟨A, B, lr.r0, lr.r1, ?_, ?_, ?_, ?_, ?_, ?_, ?_⟩, lr.cs cs, by omega, by omega, by omega, fun a _ => lr.t a, fun a _ => lr.t a, fun a _ hc f => ?_, fun f hf => ?_, fun a ha hc ho => ?_⟩
  · rw [lr.t]; rcases lr.2 with ⟨q, -⟩ | ⟨q, -⟩ <;> rw [q] <;> assumption
  · rw [lr.t]; rcases lr.2 with ⟨-, q⟩ | ⟨-, q⟩ <;> rw [q] <;> assumption
  · have := lr.2; omega
  · have := lr.2; omega
  · have := lr.2; omega
  · have := lr.2; omega
  · have := lr.2; omega
  · rw [lr.1, hR_put, if_neg (by omega), hR_put, if_neg (by omega)]
  · rw [lr.1, hR_put, if_neg (by omega), hR_put, if_neg (by omega)]
  · rw [hf a (fun q => ?_) (fun q => ?_), hV a hc]
    · subst q
      rcases ho with ho | ho
      · omega
      · exact ho ta
    · subst q
      rcases ho with ho | ho
      · omega
      · exact ho tn
set_option maxRecDepth 100000 in
theorem x_waysA {w : aW} {d : Nat} (hd : 4 ≤ d) {h : aH} {c : Nat} (cs : CS h c) (V : Nat → Nat → Int) (w1 l : Nat) (n : Int) (hw8 : w1 ≤ 8) (hl8 : l ≤ 8) (S : Nat) (hS2 : 2 ≤ S) (hS3 : S ≤ 3) (wa nb : Nat) (hn0 : hR h (c + 27) 0 = some wa) (hn1 : hR h (c + 27) 1 = some nb) (ta : hT h wa = (2, 6561)) (tn : hT h nb = (2, 6561)) (hwn : wa ≠ nb) (haa : c + 67 ≤ wa) (hna : c + 67 ≤ nb) (hwz : wa < hz h) (hnz : nb < hz h) : WP w d 2 [aO (some (c + 27)), aI ((w1 : Int)), aI ((l : Int)), aJ n, aI ((S : Int))] (hw h V) (RJ (fun r h1 => WPost h V c h1 ∧ r = w64 (tFc S w1 l n (w1 * l) 0 0))) := by
  obtain ⟨d, rfl⟩ : ∃ d1, d = d1 + 1 := ⟨d - 1, by omega⟩
  refine WP.enter (cd := cd_X0_waysToLay) rfl ?_
  have hls : largs 0 [aO (some (c + 27)), aI ((w1 : Int)), aI ((l : Int)), aJ n, aI ((S : Int))] = [(0, aO (some (c + 27))), (1, aI ((w1 : Int))), (2, aI ((l : Int))), (3, aJ n), (5, aI ((S : Int)))] := rfl
  rw [hls]
  clear hls
  refine g_aload_n rfl rfl ?_
  refine g_iload_n rfl rfl ?_
  refine g_putI rfl (by (repeat (first | rw [hT_hw] | rw [hT_set] | rw [hT_put] | rw [hT_new, if_neg (by simp only [hz_put, hz_new, hz_hw, hz_set]; omega)])); exact cs.kd 27 (by omega) rfl) ?_
  refine g_aload_n rfl rfl ?_
  refine g_iload_n rfl rfl ?_
  refine g_putI rfl (by (repeat (first | rw [hT_hw] | rw [hT_set] | rw [hT_put] | rw [hT_new, if_neg (by simp only [hz_put, hz_new, hz_hw, hz_set]; omega)])); exact cs.kd 27 (by omega) rfl) ?_
  refine g_aload_n rfl rfl ?_
  refine g_lload_n rfl rfl ?_
  refine g_putJ rfl (by (repeat (first | rw [hT_hw] | rw [hT_set] | rw [hT_put] | rw [hT_new, if_neg (by simp only [hz_put, hz_new, hz_hw, hz_set]; omega)])); exact cs.kd 27 (by omega) rfl) ?_
  refine g_aload_n rfl rfl ?_
  refine g_iload rfl rfl ?_
  refine g_putI rfl (by (repeat (first | rw [hT_hw] | rw [hT_set] | rw [hT_put] | rw [hT_new, if_neg (by simp only [hz_put, hz_new, hz_hw, hz_set]; omega)])); exact cs.kd 27 (by omega) rfl) ?_
  refine g_aload_n rfl rfl ?_
  refine g_getR rfl (by (repeat (first | rw [hT_hw] | rw [hT_set] | rw [hT_put] | rw [hT_new, if_neg (by simp only [hz_put, hz_new, hz_hw, hz_set]; omega)])); exact cs.kd 27 (by omega) rfl) hn0 ?_
  refine g_ifnull_f rfl ?_
  refine g_aload_n rfl rfl ?_
  refine g_getR rfl (by (repeat (first | rw [hT_hw] | rw [hT_set] | rw [hT_put] | rw [hT_new, if_neg (by simp only [hz_put, hz_new, hz_hw, hz_set]; omega)])); exact cs.kd 27 (by omega) rfl) hn1 ?_
  refine g_ifnonnull_t rfl ?_
  refine (x_ways53 hd cs (vset (vset (vset (vset V (c + 27) 2 w1) (c + 27) 3 l) (c + 27) 4 n) (c + 27) 5 S) nb hn1 tn wa hn0 ta hwn (by omega) (by omega) w1 l n (by rw [vset_ne _ _ _ _ (by omega), vset_ne _ _ _ _ (by omega), vset_ne _ _ _ _ (by omega), vset_eq]) (by rw [vset_ne _ _ _ _ (by omega), vset_ne _ _ _ _ (by omega), vset_eq]) (by rw [vset_ne _ _ _ _ (by omega), vset_eq]) hw8 hl8 S (by rw [vset_eq]) hS2 hS3).imp ?_
  rintro _ _ ⟨r, rfl, ⟨g, A, B, V2, rfl, lr, hf⟩, rfl⟩
  exact ⟨_, rfl, wp_ways cs lr rfl hf (by intro a ha; funext j; rw [vset_ne _ _ _ _ (by omega), vset_ne _ _ _ _ (by omega), vset_ne _ _ _ _ (by omega), vset_ne _ _ _ _ (by omega)]) ta tn hwn (by omega) (by omega) hwz hnz, rfl⟩
/-- the heap with two rows more -/
def hG (h : aH) (c : Nat) : aH := hput (hnew (hput (hnew h 2 6561) (c + 27) 0 (some (hz h))) 2 6561) (c + 27) 1 (some (hz h + 1))
section HG
variable {h : aH} {c : Nat}
theorem hG_z : hz (hG h c) = hz h + 2 := by unfold hG; rw [hz_put, hz_new, hz_put, hz_new]
theorem hG_s : hs (hG h c) = hs h + 13122 := by unfold hG; rw [hs_put, hs_new, hs_put, hs_new]
theorem hG_t (a : Nat) : hT (hG h c) a = if a = hz h ∨ a = hz h + 1 then (2, 6561) else hT h a := by
  unfold hG
  rw [hT_put, hT_new, hz_put, hz_new, hT_put, hT_new]
  by_cases e1 : a = hz h + 1
  · rw [if_pos e1, if_pos (Or.inr e1)]
  · rw [if_neg e1]
    by_cases e2 : a = hz h
    · rw [if_pos e2, if_pos (Or.inl e2)]
    · rw [if_neg e2, if_neg (by omega)]
theorem hG_r (hc : c + 27 < hz h) (a f : Nat) : a < hz h → hR (hG h c) a f = if a = c + 27 ∧ f = 1 then some (hz h + 1) else if a = c + 27 ∧ f = 0 then some (hz h) else hR h a f := by
  intro ha
  unfold hG
  rw [hR_put, hR_new, hz_put, hz_new, hR_put, hR_new]
  by_cases e1 : a = c + 27 ∧ f = 1
  · rw [if_pos e1, if_pos e1]
  · rw [if_neg e1, if_neg e1, if_neg (by omega)]
    by_cases e2 : a = c + 27 ∧ f = 0
    · rw [if_pos e2, if_pos e2]
    · rw [if_neg e2, if_neg e2, if_neg (by omega)]
theorem hG_cs (cs : CS h c) (hc : c + 34 ≤ hz h) : CS (hG h c) c := by
  refine ⟨fun j hj => by rw [hG_t, if_neg (by omega)]; exact cs.1 j hj, fun i hi => ?_⟩
  have hlt : (xrl.getD i (0, 0, 0)).1 < 34 := (by decide +kernel : ∀ i < 39, (xrl.getD i (0, 0, 0)).1 < 34) i hi
  rw [hG_r (by omega) _ _ (by omega), if_neg (fun e => xr_27 i hi 1 (by omega) ⟨by omega, e.2⟩), if_neg (fun e => xr_27 i hi 0 (by omega) ⟨by omega, e.2⟩)]
  exact cs.2 i hi
end HG
theorem wp_waysB {h : aH} {V0 : Nat → Nat → Int} {c A B : Nat} {h1 g : aH} {V2 : Nat → Nat → Int} (cs : CS h c) (hc : c + 34 ≤ hz h) (hc2 : c + 67 ≤ hz h) (lr : LRef (hG h c) g c (hz h) (hz h + 1) A B) (e : h1 = hw g V2) (hf : ∀ a, a < hz h → a ≠ c + 27 → V2 a = V0 a) : WPost h V0 c h1 := by
  have e1 : hz g = hz h + 2 := by rw [lr.1, hz_put, hz_put, hG_z]
  have e2 : hs g = hs h + 13122 := by rw [lr.1, hs_put, hs_put, hG_s]
  have ea := lr.2
  refine ⟨g, V2, e, Or.inr ⟨A, B, lr.r0, lr.r1, ?_, ?_, ?_, ?_, ?_, ?_, ?_⟩, lr.cs (hG_cs cs hc), by omega, by omega, by omega, fun a ha => by rw [lr.t, hG_t, if_neg (by omega)], fun a ha => by rw [lr.t, hG_t, if_neg (by omega)], fun a ha hc9 f => ?_, fun f hf => ?_, fun a ha hc9 _ => hf a ha hc9⟩
  · rw [lr.t, hG_t, if_pos (by omega)]
  · rw [lr.t, hG_t, if_pos (by omega)]
  · omega
  · omega
  · omega
  · omega
  · omega
  · rw [lr.1, hR_put, if_neg (by omega), hR_put, if_neg (by omega), hG_r (by omega) _ _ ha, if_neg (by omega), if_neg (by omega)]
  · rw [lr.1, hR_put, if_neg (by omega), hR_put, if_neg (by omega), hG_r (by omega) _ _ (by omega), if_neg (by omega), if_neg (by omega)]
set_option maxRecDepth 100000 in
theorem x_waysB {w : aW} {d : Nat} (hd : 4 ≤ d) {h : aH} {c : Nat} (cs : CS h c) (V : Nat → Nat → Int) (w1 l : Nat) (n : Int) (hw8 : w1 ≤ 8) (hl8 : l ≤ 8) (S : Nat) (hS2 : 2 ≤ S) (hS3 : S ≤ 3) (hn0 : hR h (c + 27) 0 = none) (hn1 : hR h (c + 27) 1 = none) (hc : c + 34 ≤ hz h) (hc2 : c + 67 ≤ hz h) : WP w d 2 [aO (some (c + 27)), aI ((w1 : Int)), aI ((l : Int)), aJ n, aI ((S : Int))] (hw h V) (RJ (fun r h1 => WPost h V c h1 ∧ r = w64 (tFc S w1 l n (w1 * l) 0 0))) := by
  obtain ⟨d, rfl⟩ : ∃ d1, d = d1 + 1 := ⟨d - 1, by omega⟩
  refine WP.enter (cd := cd_X0_waysToLay) rfl ?_
  have hls : largs 0 [aO (some (c + 27)), aI ((w1 : Int)), aI ((l : Int)), aJ n, aI ((S : Int))] = [(0, aO (some (c + 27))), (1, aI ((w1 : Int))), (2, aI ((l : Int))), (3, aJ n), (5, aI ((S : Int)))] := rfl
  rw [hls]
  clear hls
  refine g_aload_n rfl rfl ?_
  refine g_iload_n rfl rfl ?_
  refine g_putI rfl (by (repeat (first | rw [hT_hw] | rw [hT_set] | rw [hT_put] | rw [hT_new, if_neg (by simp only [hz_put, hz_new, hz_hw, hz_set]; omega)])); exact cs.kd 27 (by omega) rfl) ?_
  refine g_aload_n rfl rfl ?_
  refine g_iload_n rfl rfl ?_
  refine g_putI rfl (by (repeat (first | rw [hT_hw] | rw [hT_set] | rw [hT_put] | rw [hT_new, if_neg (by simp only [hz_put, hz_new, hz_hw, hz_set]; omega)])); exact cs.kd 27 (by omega) rfl) ?_
  refine g_aload_n rfl rfl ?_
  refine g_lload_n rfl rfl ?_
  refine g_putJ rfl (by (repeat (first | rw [hT_hw] | rw [hT_set] | rw [hT_put] | rw [hT_new, if_neg (by simp only [hz_put, hz_new, hz_hw, hz_set]; omega)])); exact cs.kd 27 (by omega) rfl) ?_
  refine g_aload_n rfl rfl ?_
  refine g_iload rfl rfl ?_
  refine g_putI rfl (by (repeat (first | rw [hT_hw] | rw [hT_set] | rw [hT_put] | rw [hT_new, if_neg (by simp only [hz_put, hz_new, hz_hw, hz_set]; omega)])); exact cs.kd 27 (by omega) rfl) ?_
  refine g_aload_n rfl rfl ?_
  refine g_getR rfl (by (repeat (first | rw [hT_hw] | rw [hT_set] | rw [hT_put] | rw [hT_new, if_neg (by simp only [hz_put, hz_new, hz_hw, hz_set]; omega)])); exact cs.kd 27 (by omega) rfl) hn0 ?_
  refine g_ifnull_t rfl ?_
  refine g_aload_n rfl rfl ?_
  refine g_sipush rfl ?_
  refine g_newarray (m := 6561) rfl (by omega) (by omega) (by rfl) ?_
  refine g_putR rfl (by (repeat (first | rw [hT_hw] | rw [hT_set] | rw [hT_put] | rw [hT_new, if_neg (by simp only [hz_put, hz_new, hz_hw, hz_set]; omega)])); exact cs.kd 27 (by omega) rfl) ?_
  refine g_aload_n rfl rfl ?_
  refine g_sipush rfl ?_
  refine g_newarray (m := 6561) rfl (by omega) (by omega) (by rfl) ?_
  refine g_putR rfl (by (repeat (first | rw [hT_hw] | rw [hT_set] | rw [hT_put] | rw [hT_new, if_neg (by simp only [hz_put, hz_new, hz_hw, hz_set]; omega)])); exact cs.kd 27 (by omega) rfl) ?_
  refine g_hp (h2 := hw (hG h c) (fun a j => if a = hz h + 1 then 0 else if a = hz h then 0 else (vset (vset (vset (vset V (c + 27) 2 w1) (c + 27) 3 l) (c + 27) 4 n) (c + 27) 5 S) a j)) rfl ?_
  refine (x_ways53 hd (hG_cs cs hc) (fun a j => if a = hz h + 1 then 0 else if a = hz h then 0 else (vset (vset (vset (vset V (c + 27) 2 w1) (c + 27) 3 l) (c + 27) 4 n) (c + 27) 5 S) a j) (hz h + 1) (by rw [hG_r (by omega) _ _ (by omega), if_pos ⟨rfl, rfl⟩]) (by rw [hG_t, if_pos (Or.inr rfl)]) (hz h) (by rw [hG_r (by omega) _ _ (by omega), if_neg (by omega), if_pos ⟨rfl, rfl⟩]) (by rw [hG_t, if_pos (Or.inl rfl)]) (by omega) (by omega) (by omega) w1 l n (by show (if c + 27 = hz h + 1 then (0 : Int) else if c + 27 = hz h then 0 else _) = _; rw [if_neg (by omega), if_neg (by omega), vset_ne _ _ _ _ (by omega), vset_ne _ _ _ _ (by omega), vset_ne _ _ _ _ (by omega), vset_eq]) (by show (if c + 27 = hz h + 1 then (0 : Int) else if c + 27 = hz h then 0 else _) = _; rw [if_neg (by omega), if_neg (by omega), vset_ne _ _ _ _ (by omega), vset_ne _ _ _ _ (by omega), vset_eq]) (by show (if c + 27 = hz h + 1 then (0 : Int) else if c + 27 = hz h then 0 else _) = _; rw [if_neg (by omega), if_neg (by omega), vset_ne _ _ _ _ (by omega), vset_eq]) hw8 hl8 S (by show (if c + 27 = hz h + 1 then (0 : Int) else if c + 27 = hz h then 0 else _) = _; rw [if_neg (by omega), if_neg (by omega), vset_eq]) hS2 hS3).imp ?_
  rintro _ _ ⟨r, rfl, ⟨g, A, B, V2, rfl, lr, hf⟩, rfl⟩
  refine ⟨_, rfl, wp_waysB cs hc (by omega) lr rfl (fun a ha h1 => ?_), rfl⟩
  rw [hf a (by omega) (by omega)]
  funext j
  show (if a = hz h + 1 then (0 : Int) else if a = hz h then 0 else _) = _
  rw [if_neg (by omega), if_neg (by omega), vset_ne _ _ _ _ (by omega), vset_ne _ _ _ _ (by omega), vset_ne _ _ _ _ (by omega), vset_ne _ _ _ _ (by omega)]
theorem x_ways {w : aW} {d : Nat} (hd : 4 ≤ d) {h : aH} {c : Nat} (cs : CS h c) (V : Nat → Nat → Int) (w1 l : Nat) (n : Int) (hw8 : w1 ≤ 8) (hl8 : l ≤ 8) (S : Nat) (hS2 : 2 ≤ S) (hS3 : S ≤ 3) (cw : CW h c) (hc2 : c + 67 ≤ hz h) : WP w d 2 [aO (some (c + 27)), aI (w1 : Int), aI (l : Int), aJ n, aI (S : Int)] (hw h V) (RJ (fun r h1 => WPost h V c h1 ∧ r = w64 (tFc S w1 l n (w1 * l) 0 0))) := by
  rcases cw with ⟨h0, h1⟩ | ⟨wa, nb, h0, h1, t0, t1, h2, h3, h4, h5, h6⟩
  · exact x_waysB hd cs V w1 l n hw8 hl8 S hS2 hS3 h0 h1 (by omega) hc2
  · exact x_waysA hd cs V w1 l n hw8 hl8 S hS2 hS3 wa nb h0 h1 t0 t1 h2 h3 h4 h5 h6
