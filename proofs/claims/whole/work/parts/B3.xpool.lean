/-! the class's whole numbers, on: a pool of them, made as they are wanted: printed by wip/whole/b3.py -/
/-- the pool is as it should be -/
def CI (h : aH) (c : Nat) : Prop := CS h c ∧ c + 67 ≤ hz h ∧ (0 ≤ hV h (c + 1) 1 ∧ hV h (c + 1) 1 ≤ 400) ∧ (∀ i < 400, ∀ p, hR h (c + 2) i = some p → WO h p ∧ c + 67 ≤ p ∧ p + 1 < hz h) ∧ ∀ i < 400, ∀ j < 400, ∀ p, hR h (c + 2) i = some p → hR h (c + 2) j = some p → i = j
/-- p is a whole number in use, z -/
def WV (h : aH) (c p : Nat) (z : Int) : Prop := WO h p ∧ c + 67 ≤ p ∧ p + 1 < hz h ∧ LV (hV h (p + 1)) z ∧ ∀ i < 400, hR h (c + 2) i = some p → (i : Int) < hV h (c + 1) 1
/-- p is not in use -/
def Dd (h : aH) (c p : Nat) : Prop := ∀ q z, WV h c q z → q ≠ p
/-- what stays while whole numbers are made: at most n of them -/
def Gr (h h1 : aH) (c n : Nat) : Prop := CI h1 c ∧ (hz h ≤ hz h1 ∧ hz h1 ≤ hz h + 2 * n) ∧ (hs h ≤ hs h1 ∧ hs h1 ≤ hs h + 13 * n) ∧ (∀ a < hz h, hT h1 a = hT h a) ∧ (∀ a < hz h, a ≠ c + 2 → hR h1 a = hR h a) ∧ (∀ a < hz h, a ≠ c + 1 → ((hT h a).1 ≠ 1 ∨ a < c + 67) → hV h1 a = hV h a) ∧ (hV h (c + 1) 1 ≤ hV h1 (c + 1) 1 ∧ hV h1 (c + 1) 1 ≤ hV h (c + 1) 1 + n) ∧ ∀ p z, WV h c p z → WV h1 c p z
/-- the next place of the pool: filled once, then used again -/
def Pl (h h1 : aH) (c p : Nat) : Prop := ∀ T : Nat, hV h (c + 1) 1 = T → T < 400 → hR h1 (c + 2) T = some p ∧ (hR h (c + 2) T ≠ none → hz h1 = hz h ∧ hs h1 = hs h) ∧ hV h1 (c + 1) 1 = (T : Int) + 1
theorem CI.cs {h : aH} {c : Nat} (i : CI h c) : CS h c := i.1
theorem Gr.ci {h h1 : aH} {c n : Nat} (g : Gr h h1 c n) : CI h1 c := g.1
theorem Gr.cs {h h1 : aH} {c n : Nat} (g : Gr h h1 c n) : CS h1 c := g.1.1
theorem Gr.wv {h h1 : aH} {c n : Nat} (g : Gr h h1 c n) {p : Nat} {z : Int} (x : WV h c p z) : WV h1 c p z := g.2.2.2.2.2.2.2 p z x
theorem Gr.trans {h h1 h2 : aH} {c n m : Nat} (g : Gr h h1 c n) (g2 : Gr h1 h2 c m) : Gr h h2 c (n + m) := by
  obtain ⟨a1, a2, a3, a4, a5, a6, a7, a8⟩ := g
  obtain ⟨b1, b2, b3, b4, b5, b6, b7, b8⟩ := g2
  refine ⟨b1, by omega, by omega, fun a ha => by rw [b4 a (by omega), a4 a ha], fun a ha hc => by rw [b5 a (by omega) hc, a5 a ha hc], fun a ha hc hk => ?_, by omega, fun p z x => b8 p z (a8 p z x)⟩
  rw [b6 a (by omega) hc (by rw [a4 a ha]; exact hk), a6 a ha hc hk]
theorem Gr.refl {h : aH} {c : Nat} (i : CI h c) : Gr h h c 0 := ⟨i, by omega, by omega, fun _ _ => rfl, fun _ _ _ => rfl, fun _ _ _ _ => rfl, by omega, fun _ _ x => x⟩
theorem Gr.mono {h h1 : aH} {c n m : Nat} (g : Gr h h1 c n) (hm : n ≤ m) : Gr h h1 c m := ⟨g.1, by have := g.2.1; omega, by have := g.2.2.1; omega, g.2.2.2.1, g.2.2.2.2.1, g.2.2.2.2.2.1, by have := g.2.2.2.2.2.2.1; omega, g.2.2.2.2.2.2.2⟩
theorem CI.put {h : aH} {c : Nat} (i : CI h c) {V : Nat → Nat → Int} (hv : V (c + 1) 1 = hV h (c + 1) 1) : CI (hw h V) c := by
  refine ⟨i.1, i.2.1, ?_, i.2.2.2.1, i.2.2.2.2⟩
  show 0 ≤ V (c + 1) 1 ∧ V (c + 1) 1 ≤ 400
  rw [hv]
  exact i.2.2.1
/-- a number not in use before is written -/
theorem Gr.wr {h h1 : aH} {c n : Nat} (g : Gr h h1 c n) {p : Nat} (wo : WO h1 p) (hp : c + 67 ≤ p) (dd : Dd h c p) {V : Nat → Nat → Int} (hv : ∀ a, a ≠ p + 1 → V a = hV h1 a) : Gr h (hw h1 V) c n := by
  obtain ⟨a1, a2, a3, a4, a5, a6, a7, a8⟩ := g
  have e1 : V (c + 1) 1 = hV h1 (c + 1) 1 := by rw [hv _ (by omega)]
  refine ⟨a1.put e1, a2, a3, a4, a5, fun a ha hc hk => ?_, ?_, fun q z x => ?_⟩
  · show V a = hV h a
    by_cases e : a = p + 1
    · rcases hk with hk | hk
      · rw [← a4 a ha, e, wo.2.2] at hk
        exact absurd rfl hk
      · omega
    · rw [hv a e, a6 a ha hc hk]
  · show hV h (c + 1) 1 ≤ V (c + 1) 1 ∧ V (c + 1) 1 ≤ hV h (c + 1) 1 + n
    rw [e1]
    exact a7
  · have hq := dd q z x
    obtain ⟨b1, b2, b3, b4, b5⟩ := a8 q z x
    refine ⟨b1, b2, b3, ?_, fun i hi h2 => ?_⟩
    · show LV (V (q + 1)) z
      rw [hv _ (by omega)]
      exact b4
    · show (i : Int) < V (c + 1) 1
      rw [e1]
      exact b5 i hi h2
theorem WV.wr {h1 : aH} {c p q : Nat} {z : Int} (x : WV h1 c q z) (hq : q ≠ p) (hp : c + 67 ≤ p) {V : Nat → Nat → Int} (hv : ∀ a, a ≠ p + 1 → V a = hV h1 a) : WV (hw h1 V) c q z := by
  obtain ⟨b1, b2, b3, b4, b5⟩ := x
  refine ⟨b1, b2, b3, ?_, fun i hi h2 => ?_⟩
  · show LV (V (q + 1)) z
    rw [hv _ (by omega)]
    exact b4
  · show (i : Int) < V (c + 1) 1
    rw [hv (c + 1) (by omega)]
    exact b5 i hi h2
theorem WV.new {h1 : aH} {c p : Nat} {z0 z : Int} (x : WV h1 c p z0) {V : Nat → Nat → Int} (hv : ∀ a, a ≠ p + 1 → V a = hV h1 a) (l : LV (V (p + 1)) z) : WV (hw h1 V) c p z := by
  obtain ⟨b1, b2, b3, b4, b5⟩ := x
  refine ⟨b1, b2, b3, l, fun i hi h2 => ?_⟩
  show (i : Int) < V (c + 1) 1
  rw [hv (c + 1) (by omega)]
  exact b5 i hi h2
theorem WV.r {h : aH} {c p : Nat} {z : Int} (x : WV h c p z) : ∀ j < 12, r32 (hV h (p + 1) j) := x.2.2.2.1.1
theorem WV.l {h : aH} {c p : Nat} {z : Int} (x : WV h c p z) : LV (hV h (p + 1)) z := x.2.2.2.1
theorem WV.o {h : aH} {c p : Nat} {z : Int} (x : WV h c p z) : WO h p := x.1
theorem WV.u {h : aH} {c p : Nat} {z : Int} (x : WV h c p z) : uv (hV h (p + 1)) 12 = z % b12 := x.2.2.2.1.uvm
theorem x_fresh1 {w : aW} {d : Nat} (hd : 1 ≤ d) {h : aH} {c : Nat} (cs : CS h c) (V : Nat → Nat → Int) (T p : Nat) (hT400 : T < 400) (hTT : V (c + 1) 1 = T) (hp : hR h (c + 2) T = some p) (wp : WO h p) (hcp : c + 67 ≤ p) : WP w d 159 [aO (some (c + 1))] (hw h V) (RO (fun r h1 => r = some p ∧ ∃ V1, h1 = hw h V1 ∧ (∀ q j, ¬(q = c + 1 ∧ j = 1) → q ≠ p + 1 → V1 q j = V q j) ∧ V1 (c + 1) 1 = (T : Int) + 1 ∧ ∀ j < 12, V1 (p + 1) j = 0)) := by
  obtain ⟨d, rfl⟩ : ∃ d1, d = d1 + 1 := ⟨d - 1, by omega⟩
  refine WP.enter (cd := cd_X7_fresh) rfl ?_
  have hls : largs 0 [aO (some (c + 1))] = [(0, aO (some (c + 1)))] := rfl
  rw [hls]
  clear hls
  have l61 : ∀ (fuel : Nat) (i : Nat) (V1 : Nat → Nat → Int), (i ≤ 12) → (∀ q, q ≠ p + 1 → V1 q = V q) → (∀ j < i, V1 (p + 1) j = 0) → 12 - i < fuel → Wk w d cd_X7_fresh 61 [(2, aI ((i : Int))), (1, aO (some p)), (0, aO (some (c + 1)))] [] (hw h V1) (RO (fun r h1 => r = some p ∧ ∃ V1, h1 = hw h V1 ∧ (∀ q j, ¬(q = c + 1 ∧ j = 1) → q ≠ p + 1 → V1 q j = V q j) ∧ V1 (c + 1) 1 = (T : Int) + 1 ∧ ∀ j < 12, V1 (p + 1) j = 0)) := by
    intro fuel
    induction fuel with
    | zero => intros; omega
    | succ fuel ih61 =>
      intro i V1 hi hf hz hfuel
      refine g_iload_n rfl rfl ?_
      refine g_bipush rfl ?_
      refine g_icmp_ge rfl (fun c64 => ?_) (fun c64 => ?_)
      · skip
        refine g_aload_n rfl rfl ?_
        refine g_dup rfl rfl ?_
        refine g_getI rfl (cs.kd 1 (by omega) rfl) ?_
        refine g_top (v2 := aI (V1 (c + 1) 1)) (congrArg aI (by rfl)) ?_
        refine g_top (v2 := aI ((T : Int))) (congrArg aI (by show V1 (c + 1) 1 = (T : Int); rw [hf _ (by omega)]; exact hTT)) ?_
        refine g_iconst rfl ?_
        refine g_iadd rfl (by omega) (by omega) ?_
        refine g_putI rfl (cs.kd 1 (by omega) rfl) ?_
        refine g_hp (h2 := hw h (vset V1 (c + 1) 1 (((T : Int)) + 1))) rfl ?_
        refine g_aload_n rfl rfl ?_
        refine g_aret rfl ?_
        refine ⟨rfl, _, rfl, fun q j h1 h2 => ?_, vset_eq _ _ _ _, fun j hj => ?_⟩
        · rw [vset_ne _ _ _ _ h1, hf q h2]
        · rw [vset_ne _ _ _ _ (by omega)]; exact hz j (by omega)
      · skip
        refine g_aload_n rfl rfl ?_
        refine g_getR rfl wp.1 wp.2.1 ?_
        refine g_iload_n rfl rfl ?_
        refine g_iconst rfl ?_
        refine g_iast (i := i) rfl wp.2.2 (by omega) (by omega) ?_
        refine g_hp (h2 := hw h (vset V1 (p + 1) i 0)) rfl ?_
        refine g_iinc (l1 := [(2, aI ((i : Int) + 1)), (1, aO (some p)), (0, aO (some (c + 1)))]) rfl rfl (by omega) (by omega) rfl ?_
        refine g_goto rfl ?_
        exact ih61 (i + 1) _ (by omega) (by intro q hq; funext j; rw [vset_ne _ _ _ _ (by omega), hf q hq]) (by intro j hj; by_cases e : j = i; (rw [e, vset_eq]); (rw [vset_ne _ _ _ _ (by omega)]; exact hz j (by omega))) (by omega)
  refine g_aload_n rfl rfl ?_
  refine g_getI rfl (cs.kd 1 (by omega) rfl) ?_
  refine g_top (v2 := aI ((T : Int))) (congrArg aI (by show V (c + 1) 1 = ((T : Int)); rw [hTT])) ?_
  refine g_if_lt_f rfl (by omega) ?_
  refine g_aload_n rfl rfl ?_
  refine g_getI rfl (cs.kd 1 (by omega) rfl) ?_
  refine g_top (v2 := aI ((T : Int))) (congrArg aI (by show V (c + 1) 1 = ((T : Int)); rw [hTT])) ?_
  refine g_aload_n rfl rfl ?_
  refine g_getR rfl (cs.kd 1 (by omega) rfl) (cs.rf 0 (by omega) rfl) ?_
  refine g_alen rfl (cs.ar 2 (by omega) rfl) (by decide) ?_
  refine g_icmp_lt_t rfl (by omega) ?_
  refine g_aload_n rfl rfl ?_
  refine g_getR rfl (cs.kd 1 (by omega) rfl) (cs.rf 0 (by omega) rfl) ?_
  refine g_aload_n rfl rfl ?_
  refine g_getI rfl (cs.kd 1 (by omega) rfl) ?_
  refine g_top (v2 := aI ((T : Int))) (congrArg aI (by show V (c + 1) 1 = ((T : Int)); rw [hTT])) ?_
  refine g_aald (i := T) rfl (cs.ar 2 (by omega) rfl) (by decide) (by omega) (by omega) hp ?_
  refine g_astore_n (l1 := [(1, aO (some p)), (0, aO (some (c + 1)))]) rfl rfl ?_
  refine g_aload_n rfl rfl ?_
  refine g_ifnonnull_t rfl ?_
  refine g_iconst rfl ?_
  refine g_istore_n (l1 := [(2, aI 0), (1, aO (some p)), (0, aO (some (c + 1)))]) rfl rfl ?_
  exact l61 _ 0 V (by omega) (by intro q _; rfl) (by intro j hj; omega) (Nat.lt_succ_self _)
/-- a whole number made: object and row -/
def nw (h : aH) : aH := hput (hnew (hnew h 20 1) 1 12) (hz h) 0 (some (hz h + 1))
theorem nw_T (h : aH) (b : Nat) : hT (nw h) b = if b = hz h + 1 then (1, 12) else if b = hz h then (20, 1) else hT h b := rfl
theorem nw_V (h : aH) (b j : Nat) : hV (nw h) b j = if b = hz h + 1 then 0 else if b = hz h then 0 else hV h b j := rfl
theorem nw_R (h : aH) (b j : Nat) : hR (nw h) b j = if b = hz h ∧ j = 0 then some (hz h + 1) else if b = hz h + 1 then none else if b = hz h then none else hR h b j := rfl
theorem nw_z (h : aH) : hz (nw h) = hz h + 2 := rfl
theorem nw_s (h : aH) : hs (nw h) = hs h + 13 := rfl
theorem nw_wo (h : aH) : WO (nw h) (hz h) := by
  refine ⟨?_, ?_, ?_⟩
  · rw [nw_T, if_neg (by omega), if_pos rfl]
  · rw [nw_R, if_pos ⟨rfl, rfl⟩]
  · rw [nw_T, if_pos rfl]
theorem nw_old (h : aH) {b : Nat} (hb : b < hz h) : hT (nw h) b = hT h b ∧ hV (nw h) b = hV h b ∧ hR (nw h) b = hR h b := by
  refine ⟨by rw [nw_T, if_neg (by omega), if_neg (by omega)], ?_, ?_⟩
  · funext j; rw [nw_V, if_neg (by omega), if_neg (by omega)]
  · funext j; rw [nw_R, if_neg (by omega), if_neg (by omega), if_neg (by omega)]
theorem xrl_n2 : ∀ i < 39, (xrl.getD i (0, 0, 0)).1 ≠ 2 := by decide
theorem gcs_put {g : aH} {c T : Nat} {v : Option Nat} (cs : CS g c) : CS (hput g (c + 2) T v) c := by
  refine ⟨fun j hj => cs.1 j hj, fun i hi => ?_⟩
  rw [hR_put, if_neg (by have := xrl_n2 i hi; omega)]
  exact cs.2 i hi
theorem xrl_lt : ∀ i < 39, (xrl.getD i (0, 0, 0)).1 < 34 := by decide
theorem nw_cs {h : aH} {c : Nat} (cs : CS h c) (hz0 : c + 67 ≤ hz h) : CS (nw h) c := by
  refine ⟨fun j hj => ?_, fun i hi => ?_⟩
  · rw [(nw_old h (by omega)).1, cs.1 j hj]
  · rw [(nw_old h (by have := xrl_lt i hi; omega)).2.2, cs.2 i hi]
theorem x_fresh2 {w : aW} {d : Nat} (hd : 2 ≤ d) {h : aH} {c : Nat} (cs : CS h c) (V : Nat → Nat → Int) (T : Nat) (hT400 : T < 400) (hTT : V (c + 1) 1 = T) (hp : hR h (c + 2) T = none) (hz0 : c + 67 ≤ hz h) : WP w d 159 [aO (some (c + 1))] (hw h V) (RO (fun r h1 => ∃ p, r = some p ∧ p = hz h ∧ ∃ g2, g2 = hput (nw (hw h V)) (c + 2) T (some p) ∧ ∃ V1, h1 = hw g2 V1 ∧ (∀ q j, ¬(q = c + 1 ∧ j = 1) → q ≠ p + 1 → V1 q j = hV (nw (hw h V)) q j) ∧ V1 (c + 1) 1 = (T : Int) + 1 ∧ ∀ j < 12, V1 (p + 1) j = 0)) := by
  obtain ⟨d, rfl⟩ : ∃ d1, d = d1 + 1 := ⟨d - 1, by omega⟩
  refine WP.enter (cd := cd_X7_fresh) rfl ?_
  have hls : largs 0 [aO (some (c + 1))] = [(0, aO (some (c + 1)))] := rfl
  rw [hls]
  clear hls
  have l61 : ∀ (g g2 : aH) (p : Nat), (p = hz h) → (g = nw (hw h V)) → (g2 = hput g (c + 2) T (some p)) → (CS g2 c) → (hV g (c + 1) 1 = (T : Int)) → (WO g2 p) → ∀ (fuel : Nat) (i : Nat) (V1 : Nat → Nat → Int), (i ≤ 12) → (∀ q, q ≠ p + 1 → V1 q = hV g q) → (∀ j < i, V1 (p + 1) j = 0) → 12 - i < fuel → Wk w d cd_X7_fresh 61 [(2, aI ((i : Int))), (1, aO (some p)), (0, aO (some (c + 1)))] [] (hw g2 V1) (RO (fun r h1 => ∃ p, r = some p ∧ p = hz h ∧ ∃ g2, g2 = hput (nw (hw h V)) (c + 2) T (some p) ∧ ∃ V1, h1 = hw g2 V1 ∧ (∀ q j, ¬(q = c + 1 ∧ j = 1) → q ≠ p + 1 → V1 q j = hV (nw (hw h V)) q j) ∧ V1 (c + 1) 1 = (T : Int) + 1 ∧ ∀ j < 12, V1 (p + 1) j = 0)) := by
    intro g g2 p ep eg eg2 gcs gV1 wp fuel
    induction fuel with
    | zero => intros; omega
    | succ fuel ih61 =>
      intro i V1 hi hf hz hfuel
      refine g_iload_n rfl rfl ?_
      refine g_bipush rfl ?_
      refine g_icmp_ge rfl (fun c64 => ?_) (fun c64 => ?_)
      · skip
        refine g_aload_n rfl rfl ?_
        refine g_dup rfl rfl ?_
        refine g_getI rfl (gcs.kd 1 (by omega) rfl) ?_
        refine g_top (v2 := aI (V1 (c + 1) 1)) (congrArg aI (by rfl)) ?_
        refine g_top (v2 := aI ((T : Int))) (congrArg aI (by show V1 (c + 1) 1 = (T : Int); rw [hf _ (by omega)]; exact gV1)) ?_
        refine g_iconst rfl ?_
        refine g_iadd rfl (by omega) (by omega) ?_
        refine g_putI rfl (gcs.kd 1 (by omega) rfl) ?_
        refine g_hp (h2 := hw g2 (vset V1 (c + 1) 1 (((T : Int)) + 1))) rfl ?_
        refine g_aload_n rfl rfl ?_
        refine g_aret rfl ?_
        refine ⟨p, rfl, ep, g2, eg2 ▸ eg ▸ rfl, _, rfl, fun q j h1 h2 => ?_, vset_eq _ _ _ _, fun j hj => ?_⟩
        · rw [vset_ne _ _ _ _ h1, hf q h2, eg]
        · rw [vset_ne _ _ _ _ (by omega)]; exact hz j (by omega)
      · skip
        refine g_aload_n rfl rfl ?_
        refine g_getR rfl wp.1 wp.2.1 ?_
        refine g_iload_n rfl rfl ?_
        refine g_iconst rfl ?_
        refine g_iast (i := i) rfl wp.2.2 (by omega) (by omega) ?_
        refine g_hp (h2 := hw g2 (vset V1 (p + 1) i 0)) rfl ?_
        refine g_iinc (l1 := [(2, aI ((i : Int) + 1)), (1, aO (some p)), (0, aO (some (c + 1)))]) rfl rfl (by omega) (by omega) rfl ?_
        refine g_goto rfl ?_
        exact ih61 (i + 1) _ (by omega) (by intro q hq; funext j; rw [vset_ne _ _ _ _ (by omega), hf q hq]) (by intro j hj; by_cases e : j = i; (rw [e, vset_eq]); (rw [vset_ne _ _ _ _ (by omega)]; exact hz j (by omega))) (by omega)
  refine g_aload_n rfl rfl ?_
  refine g_getI rfl (cs.kd 1 (by omega) rfl) ?_
  refine g_top (v2 := aI ((T : Int))) (congrArg aI (by show V (c + 1) 1 = ((T : Int)); rw [hTT])) ?_
  refine g_if_lt_f rfl (by omega) ?_
  refine g_aload_n rfl rfl ?_
  refine g_getI rfl (cs.kd 1 (by omega) rfl) ?_
  refine g_top (v2 := aI ((T : Int))) (congrArg aI (by show V (c + 1) 1 = ((T : Int)); rw [hTT])) ?_
  refine g_aload_n rfl rfl ?_
  refine g_getR rfl (cs.kd 1 (by omega) rfl) (cs.rf 0 (by omega) rfl) ?_
  refine g_alen rfl (cs.ar 2 (by omega) rfl) (by decide) ?_
  refine g_icmp_lt_t rfl (by omega) ?_
  refine g_aload_n rfl rfl ?_
  refine g_getR rfl (cs.kd 1 (by omega) rfl) (cs.rf 0 (by omega) rfl) ?_
  refine g_aload_n rfl rfl ?_
  refine g_getI rfl (cs.kd 1 (by omega) rfl) ?_
  refine g_top (v2 := aI ((T : Int))) (congrArg aI (by show V (c + 1) 1 = ((T : Int)); rw [hTT])) ?_
  refine g_aald (i := T) rfl (cs.ar 2 (by omega) rfl) (by decide) (by omega) (by omega) hp ?_
  refine g_astore_n (l1 := [(1, aO none), (0, aO (some (c + 1)))]) rfl rfl ?_
  refine g_aload_n rfl rfl ?_
  refine g_ifnonnull_f rfl ?_
  refine g_new rfl ?_
  refine g_dup rfl rfl ?_
  refine g_callIN [] [aO (some (hz h))] rfl (by decide) rfl rfl rfl (Nat.le_of_ble_eq_true rfl) (show (hT (hnew (hw h V) 20 1) (hz h)).1 = 20 by rw [hT_new, hz_hw, if_pos rfl]) (k_Whole (by omega) (h := hnew (hw h V) 20 1) (a := hz h) (by rw [hT_new, hz_hw, if_pos rfl]) (by rw [hz_new, hz_hw]; omega)) ?_
  rintro _ rfl
  obtain ⟨p, ep⟩ : ∃ p, p = hz h := ⟨_, rfl⟩
  obtain ⟨g, eg⟩ : ∃ g, g = nw (hw h V) := ⟨_, rfl⟩
  refine g_hp (h2 := hw g (hV g)) (by rw [eg]; rfl) ?_
  have gcs : CS g c := by rw [eg]; exact nw_cs cs hz0
  have gV1 : hV g (c + 1) 1 = (T : Int) := by rw [eg, (nw_old (hw h V) (show c + 1 < hz h by omega)).2.1]; exact hTT
  have wp0 : WO g p := by rw [eg, ep]; exact nw_wo (hw h V)
  refine g_top (v2 := aO (some p)) (by rw [ep]) ?_
  refine g_astore_n (l1 := [(1, aO (some p)), (0, aO (some (c + 1)))]) rfl rfl ?_
  refine g_aload_n rfl rfl ?_
  refine g_getR rfl (gcs.kd 1 (by omega) rfl) (gcs.rf 0 (by omega) rfl) ?_
  refine g_aload_n rfl rfl ?_
  refine g_getI rfl (gcs.kd 1 (by omega) rfl) ?_
  refine g_top (v2 := aI ((T : Int))) (congrArg aI (by show (hV g) (c + 1) 1 = ((T : Int)); rw [gV1])) ?_
  refine g_aload_n rfl rfl ?_
  refine g_aast (i := T) rfl (gcs.ar 2 (by omega) rfl) (by exact Or.inl ⟨rfl, by show (hT g p).1 = 20; exact wp0.1⟩) (by omega) (by omega) ?_
  obtain ⟨g2, eg2⟩ : ∃ g2, g2 = hput g (c + 2) T (some p) := ⟨_, rfl⟩
  refine g_hp (h2 := hw g2 (hV g)) (by rw [eg2]; rfl) ?_
  have gcs2 : CS g2 c := by rw [eg2]; exact gcs_put gcs
  have wp2 : WO g2 p := by rw [eg2]; exact ⟨wp0.1, by rw [hR_put, if_neg (by omega)]; exact wp0.2.1, wp0.2.2⟩
  refine g_iconst rfl ?_
  refine g_istore_n (l1 := [(2, aI 0), (1, aO (some p)), (0, aO (some (c + 1)))]) rfl rfl ?_
  exact l61 g g2 p (by exact ep) (by exact eg) (by exact eg2) (by exact gcs2) (by exact gV1) (by exact wp2) _ 0 (hV g) (by omega) (by intro q _; rfl) (by intro j hj; omega) (Nat.lt_succ_self _)
theorem x_fresh3 {w : aW} {d : Nat} (hd : 2 ≤ d) {h : aH} {c : Nat} (cs : CS h c) (V : Nat → Nat → Int) (hTT : V (c + 1) 1 = 400) : WP w d 159 [aO (some (c + 1))] (hw h V) (RO (fun r h1 => ∃ p, r = some p ∧ p = hz h ∧ h1 = nw (hw h V))) := by
  obtain ⟨d, rfl⟩ : ∃ d1, d = d1 + 1 := ⟨d - 1, by omega⟩
  refine WP.enter (cd := cd_X7_fresh) rfl ?_
  have hls : largs 0 [aO (some (c + 1))] = [(0, aO (some (c + 1)))] := rfl
  rw [hls]
  clear hls
  refine g_aload_n rfl rfl ?_
  refine g_getI rfl (cs.kd 1 (by omega) rfl) ?_
  refine g_top (v2 := aI 400) (congrArg aI (by show V (c + 1) 1 = 400; rw [hTT])) ?_
  refine g_if_lt_f rfl (by omega) ?_
  refine g_aload_n rfl rfl ?_
  refine g_getI rfl (cs.kd 1 (by omega) rfl) ?_
  refine g_top (v2 := aI 400) (congrArg aI (by show V (c + 1) 1 = 400; rw [hTT])) ?_
  refine g_aload_n rfl rfl ?_
  refine g_getR rfl (cs.kd 1 (by omega) rfl) (cs.rf 0 (by omega) rfl) ?_
  refine g_alen rfl (cs.ar 2 (by omega) rfl) (by decide) ?_
  refine g_icmp_lt_f rfl (by omega) ?_
  refine g_new rfl ?_
  refine g_dup rfl rfl ?_
  refine g_callIN [] [aO (some (hz h))] rfl (by decide) rfl rfl rfl (Nat.le_of_ble_eq_true rfl) (show (hT (hnew (hw h V) 20 1) (hz h)).1 = 20 by rw [hT_new, hz_hw, if_pos rfl]) (k_Whole (by omega) (h := hnew (hw h V) 20 1) (a := hz h) (by rw [hT_new, hz_hw, if_pos rfl]) (by rw [hz_new, hz_hw]; omega)) ?_
  rintro _ rfl
  refine g_hp (h2 := nw (hw h V)) rfl ?_
  refine g_aret rfl ?_
  exact ⟨hz h, rfl, rfl, rfl⟩
theorem LV_0 {f : Nat → Int} (h : ∀ j < 12, f j = 0) : LV f 0 := by
  have r : ∀ j < 12, r32 (f j) := fun j hj => by rw [h j hj]; unfold r32; omega
  refine ⟨r, ?_⟩
  unfold sv
  rw [uv_zero fun j hj => h j (by omega), h 11 (by omega)]
  omega
theorem x_fresh {w : aW} {d : Nat} (hd : 2 ≤ d) {h : aH} {c : Nat} (ci : CI h c) : WP w d 159 [aO (some (c + 1))] h (RO (fun r h1 => ∃ p, r = some p ∧ Gr h h1 c 1 ∧ WV h1 c p 0 ∧ Dd h c p ∧ Pl h h1 c p)) := by
  obtain ⟨cs, i2, i3, i4, i5⟩ := ci
  by_cases q : hV h (c + 1) 1 = 400
  · refine (x_fresh3 hd cs (hV h) q).imp ?_
    rintro _ h1 ⟨_, rfl, p, rfl, rfl, rfl⟩
    have en : nw (hw h (hV h)) = nw h := rfl
    rw [en]
    have e1 : hV (nw h) (c + 1) = hV h (c + 1) := (nw_old h (by omega)).2.1
    have e2 : hR (nw h) (c + 2) = hR h (c + 2) := (nw_old h (by omega)).2.2
    have wo : ∀ p, WO h p → p + 1 < hz h → WO (nw h) p := fun p w1 w2 => by
      obtain ⟨a1, a2, a3⟩ := w1
      refine ⟨by rw [(nw_old h (by omega)).1]; exact a1, by rw [(nw_old h (by omega)).2.2]; exact a2, by rw [(nw_old h (by omega)).1]; exact a3⟩
    refine ⟨_, rfl, hz h, rfl, ⟨⟨nw_cs cs i2, by rw [nw_z]; omega, by rw [e1]; exact i3, fun i hi p hp => ?_, fun i hi j hj p h1 h2 => ?_⟩, by rw [nw_z]; omega, by rw [nw_s]; omega, fun a ha => (nw_old h ha).1, fun a ha _ => (nw_old h ha).2.2, fun a ha _ _ => (nw_old h ha).2.1, by rw [e1]; omega, fun p z x => ?_⟩, ⟨nw_wo h, i2, by rw [nw_z]; omega, LV_0 fun j _ => by rw [nw_V, if_pos rfl], fun i hi h2 => ?_⟩, fun p z x e => ?_, fun T q1 q2 => by omega⟩
    · rw [e2] at hp
      obtain ⟨a1, a2, a3⟩ := i4 i hi p hp
      exact ⟨wo p a1 a3, a2, by rw [nw_z]; omega⟩
    · rw [e2] at h1 h2
      exact i5 i hi j hj p h1 h2
    · obtain ⟨b1, b2, b3, b4, b5⟩ := x
      refine ⟨wo p b1 b3, b2, by rw [nw_z]; omega, by rw [(nw_old h b3).2.1]; exact b4, fun i hi h2 => ?_⟩
      rw [e1]
      rw [e2] at h2
      exact b5 i hi h2
    · rw [e2] at h2
      have := i4 i hi _ h2
      omega
    · have := x.2.2.1
      omega
  · obtain ⟨T, hTT⟩ : ∃ T : Nat, hV h (c + 1) 1 = T := ⟨(hV h (c + 1) 1).toNat, by omega⟩
    have hT4 : T < 400 := by omega
    cases e : hR h (c + 2) T with
    | some p =>
      obtain ⟨w1, w2, w3⟩ := i4 T hT4 p e
      refine (x_fresh1 (by omega) cs (hV h) T p hT4 hTT e w1 w2).imp ?_
      rintro _ h1 ⟨_, rfl, rfl, V1, rfl, v1, v2, v3⟩
      have dd : Dd h c p := fun q z x e2 => by
        subst e2
        have := x.2.2.2.2 T hT4 e
        omega
      refine ⟨_, rfl, p, rfl, ⟨⟨cs, i2, by show 0 ≤ V1 (c + 1) 1 ∧ V1 (c + 1) 1 ≤ 400; omega, i4, i5⟩, ⟨Nat.le_refl _, by show hz h ≤ _; omega⟩, ⟨Nat.le_refl _, by show hs h ≤ _; omega⟩, fun _ _ => rfl, fun _ _ _ => rfl, fun a ha hc hk => ?_, by show _ ≤ V1 (c + 1) 1 ∧ V1 (c + 1) 1 ≤ _; omega, fun q z x => ?_⟩, ⟨w1, w2, w3, LV_0 v3, fun i hi h2 => ?_⟩, dd, fun T1 q1 _ => by
        have e9 : T1 = T := by omega
        subst e9
        exact ⟨e, fun _ => ⟨rfl, rfl⟩, v2⟩⟩
      · funext j
        refine v1 a j (by omega) fun e3 => ?_
        rcases hk with hk | hk
        · rw [e3, w1.2.2] at hk
          exact hk rfl
        · omega
      · have hq := dd q z x
        obtain ⟨b1, b2, b3, b4, b5⟩ := x
        refine ⟨b1, b2, b3, ?_, fun i hi h2 => ?_⟩
        · have e4 : V1 (q + 1) = hV h (q + 1) := funext fun j => v1 (q + 1) j (by omega) (by omega)
          show LV (V1 (q + 1)) z
          rw [e4]
          exact b4
        · have := b5 i hi h2
          show (i : Int) < V1 (c + 1) 1
          omega
      · have := i5 i hi T hT4 p h2 e
        show (i : Int) < V1 (c + 1) 1
        omega
    | none =>
      refine (x_fresh2 hd cs (hV h) T hT4 hTT e i2).imp ?_
      rintro _ h1 ⟨_, rfl, p, rfl, hp, g2, eg2, V1, rfl, v1, v2, v3⟩
      have en : nw (hw h (hV h)) = nw h := rfl
      rw [en] at eg2 v1
      have gT : ∀ b < hz h, hT g2 b = hT h b := fun b hb => by rw [eg2, hT_put]; exact (nw_old h hb).1
      have gR : ∀ b < hz h, b ≠ c + 2 → hR g2 b = hR h b := fun b hb hc => by
        funext j
        rw [eg2, hR_put, if_neg (by omega), (nw_old h hb).2.2]
      have gR2 : ∀ i, hR g2 (c + 2) i = if i = T then some p else hR h (c + 2) i := fun i => by
        rw [eg2, hR_put, (nw_old h (by omega)).2.2]
        by_cases q : i = T
        · rw [if_pos ⟨rfl, q⟩, if_pos q]
        · rw [if_neg (by omega), if_neg q]
      have gz : hz g2 = hz h + 2 := by rw [eg2, hz_put]; rfl
      have gs : hs g2 = hs h + 13 := by rw [eg2, hs_put]; rfl
      have gV : ∀ b < hz h, ∀ j, hV (nw h) b j = hV h b j := fun b hb j => by rw [(nw_old h hb).2.1]
      have wp : WO g2 p := by
        have := nw_wo h
        rw [← hp] at this
        refine ⟨by rw [eg2, hT_put]; exact this.1, by rw [eg2, hR_put, if_neg (by omega)]; exact this.2.1, by rw [eg2, hT_put]; exact this.2.2⟩
      have wo : ∀ p, WO h p → p + 1 < hz h → c + 67 ≤ p → WO g2 p := fun p w1 w2 w3 => by
        obtain ⟨a1, a2, a3⟩ := w1
        exact ⟨by rw [gT _ (by omega)]; exact a1, by rw [gR _ (by omega) (by omega)]; exact a2, by rw [gT _ (by omega)]; exact a3⟩
      refine ⟨_, rfl, p, rfl, ⟨⟨?_, by show c + 67 ≤ hz g2; omega, by show 0 ≤ V1 (c + 1) 1 ∧ V1 (c + 1) 1 ≤ 400; omega, fun i hi p1 hp1 => ?_, fun i hi j hj p1 h1 h2 => ?_⟩, by show _ ≤ hz g2 ∧ hz g2 ≤ _; omega, by show _ ≤ hs g2 ∧ hs g2 ≤ _; omega, fun a ha => gT a ha, fun a ha hc => gR a ha hc, fun a ha hc _ => ?_, by show _ ≤ V1 (c + 1) 1 ∧ V1 (c + 1) 1 ≤ _; omega, fun q z x => ?_⟩, ⟨wp, by omega, by show p + 1 < hz g2; omega, LV_0 v3, fun i hi h2 => ?_⟩, fun q z x e2 => (by have := x.2.2.1; omega), fun T1 q1 _ => by
        have e9 : T1 = T := by omega
        subst e9
        exact ⟨by show hR g2 (c + 2) T1 = some p; rw [gR2, if_pos rfl], fun q => absurd e q, v2⟩⟩
      · rw [eg2]
        exact gcs_put (nw_cs cs i2)
      · have hp1 : hR g2 (c + 2) i = some p1 := hp1
        rw [gR2] at hp1
        by_cases q : i = T
        · rw [if_pos q] at hp1
          cases hp1
          exact ⟨wp, by omega, by show p + 1 < hz g2; omega⟩
        · rw [if_neg q] at hp1
          obtain ⟨a1, a2, a3⟩ := i4 i hi p1 hp1
          exact ⟨wo p1 a1 a3 a2, a2, by show p1 + 1 < hz g2; omega⟩
      · have h1 : hR g2 (c + 2) i = some p1 := h1
        have h2 : hR g2 (c + 2) j = some p1 := h2
        rw [gR2] at h1 h2
        by_cases q : i = T
        · by_cases q2 : j = T
          · omega
          · rw [if_pos q] at h1
            rw [if_neg q2] at h2
            cases h1
            have := i4 j hj _ h2
            omega
        · by_cases q2 : j = T
          · rw [if_neg q] at h1
            rw [if_pos q2] at h2
            cases h2
            have := i4 i hi _ h1
            omega
          · rw [if_neg q] at h1
            rw [if_neg q2] at h2
            exact i5 i hi j hj p1 h1 h2
      · funext j
        show V1 a j = hV h a j
        rw [v1 a j (by omega) (by omega), gV a ha]
      · obtain ⟨b1, b2, b3, b4, b5⟩ := x
        refine ⟨wo q b1 b3 b2, b2, by show q + 1 < hz g2; omega, ?_, fun i hi h2 => ?_⟩
        · have e4 : V1 (q + 1) = hV h (q + 1) := funext fun j => by rw [v1 (q + 1) j (by omega) (by omega), gV _ b3]
          show LV (V1 (q + 1)) z
          rw [e4]
          exact b4
        · have h2 : hR g2 (c + 2) i = some q := h2
          rw [gR2] at h2
          show (i : Int) < V1 (c + 1) 1
          by_cases q1 : i = T
          · omega
          · rw [if_neg q1] at h2
            have := b5 i hi h2
            omega
      · have h2 : hR g2 (c + 2) i = some p := h2
        rw [gR2] at h2
        show (i : Int) < V1 (c + 1) 1
        by_cases q1 : i = T
        · omega
        · rw [if_neg q1] at h2
          have := i4 i hi _ h2
          omega
