/-! the class counts figures: printed by wip/whole/s66.py -/
def cgn (kd n m : Nat) (L : List Nat) (S : Nat) (ch : List Nat) (fr : Nat) : Nat → Nat := fun j => if m = 0 then (if wantB kd n (ch ++ [L.getD (fr + j) 0]) = true then 1 else 0) else cgr kd n m (an4 (S, L) (L.getD (fr + j) 0)).2 (an4 (S, L) (L.getD (fr + j) 0)).1 (ch ++ [L.getD (fr + j) 0]) (fr + j + 1)
theorem cgr_succ (kd n m : Nat) (L : List Nat) (S : Nat) (ch : List Nat) (fr : Nat) : cgr kd n (m + 1) L S ch fr = smN (L.length - fr) (cgn kd n m L S ch fr) := rfl
def GP (V : Nat → Nat → Int) (c kd n m : Nat) (S : Nat) (L ch : List Nat) (fr : Nat) : Prop := GS V c S L ∧ V (c + 27) 13 = n ∧ V (c + 27) 12 = kd ∧ n ≤ 8 ∧ ch.length + (m + 1) = n ∧ (∀ i (hi : i < ch.length), V (c + 30) i = (ch[i] : Nat)) ∧ (∀ x ∈ ch, x < 153) ∧ fr ≤ L.length ∧ cgK kd (m + 1) L S ch fr = true
def GF (V V1 : Nat → Nat → Int) (c : Nat) (L ch : List Nat) : Prop := (∀ a, a ≠ c + 28 → a ≠ c + 29 → a ≠ c + 30 → a ≠ c + 31 → a ≠ c + 32 → V1 a = V a) ∧ (∀ i < 153, V1 (c + 28) i = V (c + 28) i) ∧ (∀ i < L.length, V1 (c + 29) i = V (c + 29) i) ∧ ∀ i < ch.length, V1 (c + 30) i = V (c + 30) i
theorem GS.wt {V : Nat → Nat → Int} {c S : Nat} {L : List Nat} (g : GS V c S L) {i : Nat} (hi : i < L.length) : V (c + 29) i = (L.getD i 0 : Nat) := by
  rw [g.2.1 i hi, List.getD_eq_getElem?_getD, List.getElem?_eq_getElem hi]
  rfl
theorem GS.gd {V : Nat → Nat → Int} {c S : Nat} {L : List Nat} (g : GS V c S L) {i : Nat} (hi : i < L.length) : L.getD i 0 < 153 := by
  rw [List.getD_eq_getElem?_getD, List.getElem?_eq_getElem hi]
  exact g.2.2.2 _ (List.getElem_mem hi)
theorem GF.gs {V V1 : Nat → Nat → Int} {c S : Nat} {L ch : List Nat} (f : GF V V1 c L ch) (g : GS V c S L) : GS V1 c S L := ⟨fun i hi => by rw [f.2.1 i hi]; exact g.1 i hi, fun i hi => by rw [f.2.2.1 i hi]; exact g.2.1 i hi, g.2.2.1, g.2.2.2⟩
theorem GF.refl (V : Nat → Nat → Int) (c : Nat) (L ch : List Nat) : GF V V c L ch := ⟨fun _ _ _ _ _ _ => rfl, fun _ _ => rfl, fun _ _ => rfl, fun _ _ => rfl⟩
/-- a cell is chosen -/
theorem gp_ch {V V1 : Nat → Nat → Int} {c kd n m S : Nat} {L ch : List Nat} {fr : Nat} (p : GP V c kd n m S L ch fr) (f : GF V V1 c L ch) (x : Nat) : GS (vset V1 (c + 30) ch.length x) c S L ∧ vset V1 (c + 30) ch.length x (c + 27) 13 = n ∧ vset V1 (c + 30) ch.length x (c + 27) 12 = kd ∧ ∀ i (hi : i < (ch ++ [x]).length), vset V1 (c + 30) ch.length x (c + 30) i = ((ch ++ [x])[i] : Nat) := by
  obtain ⟨p1, p2, p3, p4, p5, p6, p7, p8, p9⟩ := p
  have g := f.gs p1
  refine ⟨⟨fun i hi => by rw [vset_ne _ _ _ _ (by omega)]; exact g.1 i hi, fun i hi => by rw [vset_ne _ _ _ _ (by omega)]; exact g.2.1 i hi, g.2.2.1, g.2.2.2⟩, ?_, ?_, fun i hi => ?_⟩
  · rw [vset_ne _ _ _ _ (by omega), f.1 _ (by omega) (by omega) (by omega) (by omega) (by omega)]; exact p2
  · rw [vset_ne _ _ _ _ (by omega), f.1 _ (by omega) (by omega) (by omega) (by omega) (by omega)]; exact p3
  · rw [List.length_append] at hi
    simp at hi
    by_cases e : i = ch.length
    · subst e
      rw [vset_eq]
      simp
    · rw [vset_ne _ _ _ _ (by omega), f.2.2.2 i (by omega), p6 i (by omega), List.getElem_append_left (by omega)]
theorem gf_leaf {V V1 V2 : Nat → Nat → Int} {c : Nat} {L ch : List Nat} {x : Int} (f : GF V V1 c L ch) (h2 : FR2 (vset V1 (c + 30) ch.length x) V2 c) : GF V V2 c L ch := by
  refine ⟨fun a h1 h3 h4 h5 h6 => ?_, fun i hi => ?_, fun i hi => ?_, fun i hi => ?_⟩
  · rw [h2 a h5 h6]
    funext j
    rw [vset_ne _ _ _ _ (by omega), f.1 a h1 h3 h4 h5 h6]
  · rw [h2 _ (by omega) (by omega), vset_ne _ _ _ _ (by omega), f.2.1 i hi]
  · rw [h2 _ (by omega) (by omega), vset_ne _ _ _ _ (by omega), f.2.2.1 i hi]
  · rw [h2 _ (by omega) (by omega), vset_ne _ _ _ _ (by omega), f.2.2.2 i hi]
theorem gf_inner {V V1 V3 V4 V5 : Nat → Nat → Int} {c S cl : Nat} {L ch ch2 : List Nat} {x : Int} (g : GS V c S L) (f : GF V V1 c L ch) (h3 : FR3 (vset V1 (c + 30) ch.length x) V3 c) (g3 : GS V3 c (an4 (S, L) cl).1 (an4 (S, L) cl).2) (h4 : GF V3 V4 c (an4 (S, L) cl).2 ch2) (hch : ch.length ≤ ch2.length) (h5 : ∀ a, a ≠ c + 28 → V5 a = V4 a) (h6 : ∀ j < 153, V5 (c + 28) j = if j ∈ (an4 (S, L) cl).2.drop L.length then 0 else V4 (c + 28) j) : GF V V5 c L ch := by
  obtain ⟨N, e1, e2, e3⟩ := Ext.an4 S L cl
  have g1 := f.gs g
  refine ⟨fun a q1 q2 q3 q4 q5 => ?_, fun i hi => ?_, fun i hi => ?_, fun i hi => ?_⟩
  · rw [h5 a q1, h4.1 a q1 q2 q3 q4 q5, h3 a q1 q2]
    funext j
    rw [vset_ne _ _ _ _ (by omega), f.1 a q1 q2 q3 q4 q5]
  · rw [h6 i hi, h4.2.1 i hi, g3.1 i hi, g.1 i hi, e1, List.drop_left]
    by_cases q : i ∈ N
    · rw [if_pos q, if_neg (by rw [e3 i q]; decide)]
    · rw [if_neg q]
      have : (an4 (S, L) cl).1.testBit i = true ↔ S.testBit i = true := by rw [e2]; simp [q]
      simp only [this]
  · have hl : i < (an4 (S, L) cl).2.length := by rw [e1, List.length_append]; omega
    rw [h5 _ (by omega), h4.2.2.1 i hl, g3.2.1 i hl, g.2.1 i hi]
    simp only [e1]
    rw [List.getElem_append_left hi]
  · rw [h5 _ (by omega), h4.2.2.2 i (by omega), h3 _ (by omega) (by omega), vset_ne _ _ _ _ (by omega), f.2.2.2 i hi]
theorem w32_add (a b : Int) : w32 (w32 a + w32 b) = w32 (a + b) := by unfold w32; omega
theorem w32_add1 (a b : Int) : w32 (w32 a + b) = w32 (a + b) := by unfold w32; omega
set_option maxRecDepth 100000 in
set_option maxHeartbeats 4000000 in
theorem x_grow {w : aW} {h : aH} {c : Nat} (cs : CS h c) (kd n : Nat) : ∀ (m d : Nat), 8 + m ≤ d → ∀ (V : Nat → Nat → Int) (S : Nat) (L ch : List Nat) (fr : Nat), GP V c kd n m S L ch fr → WP w d 9 [aO (some (c + 27)), aI (ch.length : Int), aI (fr : Int), aI (L.length : Int)] (hw h V) (RI (fun r h1 => ∃ V1, h1 = hw h V1 ∧ GF V V1 c L ch ∧ r = w32 ((cgr kd n (m + 1) L S ch fr : Nat) : Int))) := by
  intro m
  induction m with
  | zero =>
    intro d hd V S L ch fr gp
    obtain ⟨d, rfl⟩ : ∃ d1, d = d1 + 1 := ⟨d - 1, by omega⟩
    have hn8 := gp.2.2.2.1
    have hcn := gp.2.2.2.2.1
    have hcb := gp.2.2.2.2.2.2.1
    have hfr := gp.2.2.2.2.2.2.2.1
    have hck := gp.2.2.2.2.2.2.2.2
    have hL64 := gp.1.2.2.1
    refine WP.enter (cd := cd_X0_grow) rfl ?_
    have hls : largs 0 [aO (some (c + 27)), aI ((ch.length : Int)), aI ((fr : Int)), aI ((L.length : Int))] = [(0, aO (some (c + 27))), (1, aI ((ch.length : Int))), (2, aI ((fr : Int))), (3, aI ((L.length : Int)))] := rfl
    rw [hls]
    clear hls
    have l18 : ∀ (fuel : Nat) (j : Nat) (V1 : Nat → Nat → Int), (fr + j ≤ L.length) → (GF V V1 c L ch) → L.length - (fr + j) < fuel → Wk w d cd_X0_grow 18 [(5, aI ((fr + j : Int))), (4, aI (w32 ((smN (j) (cgn kd n 0 L S ch fr) : Nat) : Int))), (0, aO (some (c + 27))), (1, aI ((ch.length : Int))), (2, aI ((fr : Int))), (3, aI ((L.length : Int)))] [] (hw h V1) (RI (fun r h1 => ∃ V1, h1 = hw h V1 ∧ GF V V1 c L ch ∧ r = w32 ((cgr kd n (0 + 1) L S ch fr : Nat) : Int))) := by
      intro fuel
      induction fuel with
      | zero => intros; omega
      | succ fuel ih18 =>
        intro j V1 hj gf hfuel
        have j68 : ∀ (V3 : Nat → Nat → Int), (GF V V3 c L ch) → (fr + j < L.length) → Wk w d cd_X0_grow 68 [(5, aI ((fr + j : Int))), (4, aI (w32 ((smN (j) (cgn kd n 0 L S ch fr) : Nat) : Int))), (0, aO (some (c + 27))), (1, aI ((ch.length : Int))), (2, aI ((fr : Int))), (3, aI ((L.length : Int)))] [aI (if wantB kd n (ch ++ [(L.getD (fr + j) 0)]) = true then 1 else 0), aI (w32 ((smN (j) (cgn kd n 0 L S ch fr) : Nat) : Int))] (hw h V3) (RI (fun r h1 => ∃ V1, h1 = hw h V1 ∧ GF V V1 c L ch ∧ r = w32 ((cgr kd n (0 + 1) L S ch fr : Nat) : Int))) := by
          intro V3 gf3 hj2
          refine g_iaddW rfl ?_
          refine g_top (v2 := aI (w32 ((smN (j + 1) (cgn kd n 0 L S ch fr) : Nat) : Int))) (congrArg aI (by rw [w32_add1]; congr 1; show _ = ((smN j (cgn kd n 0 L S ch fr) + cgn kd n 0 L S ch fr j : Nat) : Int); rw [Int.natCast_add]; congr 1; unfold cgn; rw [if_pos rfl]; split <;> rfl)) ?_
          refine g_istore (l1 := [(4, aI (w32 ((smN (j + 1) (cgn kd n 0 L S ch fr) : Nat) : Int))), (5, aI ((fr + j : Int))), (0, aO (some (c + 27))), (1, aI ((ch.length : Int))), (2, aI ((fr : Int))), (3, aI ((L.length : Int)))]) rfl rfl ?_
          refine g_goto rfl ?_
          refine g_iinc (l1 := [(5, aI ((fr + j : Int) + 1)), (4, aI (w32 ((smN (j + 1) (cgn kd n 0 L S ch fr) : Nat) : Int))), (0, aO (some (c + 27))), (1, aI ((ch.length : Int))), (2, aI ((fr : Int))), (3, aI ((L.length : Int)))]) rfl rfl (by omega) (by omega) rfl ?_
          refine g_goto rfl ?_
          exact ih18 (j + 1) _ (by omega) (by exact gf3) (by omega)
        refine g_iload rfl rfl ?_
        refine g_iload_n rfl rfl ?_
        refine g_icmp_ge rfl (fun c21 => ?_) (fun c21 => ?_)
        · skip
          refine g_iload rfl rfl ?_
          refine g_iret rfl ?_
          refine ⟨V1, rfl, gf, ?_⟩
          rw [cgr_succ, show L.length - fr = j by omega]
        · skip
          refine g_iload rfl rfl ?_
          refine g_bipush rfl ?_
          refine g_icmp_ge_f rfl (by omega) ?_
          have hjl : fr + j < L.length := by omega
          refine g_aload_n rfl rfl ?_
          refine g_getR rfl (cs.kd 27 (by omega) rfl) (cs.rf 34 (by omega) rfl) ?_
          refine g_iload_n rfl rfl ?_
          refine g_aload_n rfl rfl ?_
          refine g_getR rfl (cs.kd 27 (by omega) rfl) (cs.rf 33 (by omega) rfl) ?_
          refine g_iload rfl rfl ?_
          refine g_iald (i := fr + j) rfl (cs.ar 29 (by omega) rfl) (by omega) (by omega) ?_
          refine g_top (v2 := aI (((L.getD (fr + j) 0 : Nat) : Int))) (congrArg aI (by show V1 (c + 29) (fr + j) = _; exact (gf.gs gp.1).wt (by omega))) ?_
          refine g_iast (i := ch.length) rfl (cs.ar 30 (by omega) rfl) (by omega) (by omega) ?_
          obtain ⟨V2, e2⟩ : ∃ W, W = vset V1 (c + 30) ch.length ((L.getD (fr + j) 0 : Nat) : Int) := ⟨_, rfl⟩
          refine g_hp (h2 := hw h V2) (by rw [e2]; rfl) ?_
          have g2 := gp_ch gp gf (L.getD (fr + j) 0)
          rw [← e2] at g2
          refine g_iload_n rfl rfl ?_
          refine g_iconst rfl ?_
          refine g_iadd rfl (by omega) (by omega) ?_
          refine g_aload_n rfl rfl ?_
          refine g_getI rfl (cs.kd 27 (by omega) rfl) ?_
          refine g_top (v2 := aI ((n : Int))) (congrArg aI (by exact g2.2.1)) ?_
          refine g_icmp_ne_f rfl (by omega) ?_
          have hcx : ∀ x ∈ ch ++ [(L.getD (fr + j) 0)], x < 153 := fun x hx => by
            rcases List.mem_append.mp hx with hx | hx
            · exact hcb x hx
            · rw [List.mem_singleton] at hx; rw [hx]; exact gp.1.gd (by omega)
          have hkx : wantK kd (ch ++ [(L.getD (fr + j) 0)]) = true := by
            have := allN_at hck (j := j) (by omega)
            simpa using this
          refine g_iload rfl rfl ?_
          refine g_aload_n rfl rfl ?_
          refine g_callVI [] [aI (w32 ((smN (j) (cgn kd n 0 L S ch fr) : Nat) : Int))] rfl rfl rfl rfl (Nat.le_of_ble_eq_true rfl) (cs.kd 27 (by omega) rfl) (x_isWanted (by omega) cs V2 n g2.2.1 hn8 (ch ++ [(L.getD (fr + j) 0)]) (by rw [List.length_append]; simp; omega) (fun i hi => g2.2.2.2 i (by rw [List.length_append]; simp; omega)) (fun x hx => hcx x hx) kd g2.2.2.1 hkx) ?_
          rintro _ _ ⟨V3, rfl, hf3, rfl⟩
          rw [e2] at hf3
          have gf3 := gf_leaf gf hf3
          refine g_b_eq rfl (fun c60 => ?_) (fun c60 => ?_)
          · skip
            refine g_iconst rfl ?_
            refine g_top (v2 := aI (if wantB kd n (ch ++ [(L.getD (fr + j) 0)]) = true then 1 else 0)) (congrArg aI (bi_f (by assumption))) ?_
            exact j68 _ (by exact gf3) (by omega)
          · skip
            refine g_iconst rfl ?_
            refine g_goto rfl ?_
            refine g_top (v2 := aI (if wantB kd n (ch ++ [(L.getD (fr + j) 0)]) = true then 1 else 0)) (congrArg aI (bi_t (by assumption))) ?_
            exact j68 _ (by exact gf3) (by omega)
    refine g_iconst rfl ?_
    refine g_top (v2 := aI (w32 ((smN (0) (cgn kd n 0 L S ch fr) : Nat) : Int))) (congrArg aI (by show (0 : Int) = w32 ((0 : Nat) : Int); unfold w32; omega)) ?_
    refine g_istore (l1 := [(4, aI (w32 ((smN (0) (cgn kd n 0 L S ch fr) : Nat) : Int))), (0, aO (some (c + 27))), (1, aI ((ch.length : Int))), (2, aI ((fr : Int))), (3, aI ((L.length : Int)))]) rfl rfl ?_
    refine g_iload_n rfl rfl ?_
    refine g_if_lt_f rfl (by omega) ?_
    refine g_iload_n rfl rfl ?_
    refine g_bipush rfl ?_
    refine g_icmp_lt_t rfl (by omega) ?_
    refine g_iload_n rfl rfl ?_
    refine g_istore (l1 := [(5, aI ((fr : Int))), (4, aI (w32 ((smN (0) (cgn kd n 0 L S ch fr) : Nat) : Int))), (0, aO (some (c + 27))), (1, aI ((ch.length : Int))), (2, aI ((fr : Int))), (3, aI ((L.length : Int)))]) rfl rfl ?_
    exact l18 _ 0 V (by omega) (by exact GF.refl V c L ch) (Nat.lt_succ_self _)
  | succ m ih =>
    intro d hd V S L ch fr gp
    obtain ⟨d, rfl⟩ : ∃ d1, d = d1 + 1 := ⟨d - 1, by omega⟩
    have hn8 := gp.2.2.2.1
    have hcn := gp.2.2.2.2.1
    have hcb := gp.2.2.2.2.2.2.1
    have hfr := gp.2.2.2.2.2.2.2.1
    have hck := gp.2.2.2.2.2.2.2.2
    have hL64 := gp.1.2.2.1
    refine WP.enter (cd := cd_X0_grow) rfl ?_
    have hls : largs 0 [aO (some (c + 27)), aI ((ch.length : Int)), aI ((fr : Int)), aI ((L.length : Int))] = [(0, aO (some (c + 27))), (1, aI ((ch.length : Int))), (2, aI ((fr : Int))), (3, aI ((L.length : Int)))] := rfl
    rw [hls]
    clear hls
    have l18 : ∀ (fuel : Nat) (j : Nat) (V1 : Nat → Nat → Int), (fr + j ≤ L.length) → (GF V V1 c L ch) → L.length - (fr + j) < fuel → Wk w d cd_X0_grow 18 [(5, aI ((fr + j : Int))), (4, aI (w32 ((smN (j) (cgn kd n (m + 1) L S ch fr) : Nat) : Int))), (0, aO (some (c + 27))), (1, aI ((ch.length : Int))), (2, aI ((fr : Int))), (3, aI ((L.length : Int)))] [] (hw h V1) (RI (fun r h1 => ∃ V1, h1 = hw h V1 ∧ GF V V1 c L ch ∧ r = w32 ((cgr kd n ((m + 1) + 1) L S ch fr : Nat) : Int))) := by
      intro fuel
      induction fuel with
      | zero => intros; omega
      | succ fuel ih18 =>
        intro j V1 hj gf hfuel
        refine g_iload rfl rfl ?_
        refine g_iload_n rfl rfl ?_
        refine g_icmp_ge rfl (fun c21 => ?_) (fun c21 => ?_)
        · skip
          refine g_iload rfl rfl ?_
          refine g_iret rfl ?_
          refine ⟨V1, rfl, gf, ?_⟩
          rw [cgr_succ, show L.length - fr = j by omega]
        · skip
          refine g_iload rfl rfl ?_
          refine g_bipush rfl ?_
          refine g_icmp_ge_f rfl (by omega) ?_
          have hjl : fr + j < L.length := by omega
          refine g_aload_n rfl rfl ?_
          refine g_getR rfl (cs.kd 27 (by omega) rfl) (cs.rf 34 (by omega) rfl) ?_
          refine g_iload_n rfl rfl ?_
          refine g_aload_n rfl rfl ?_
          refine g_getR rfl (cs.kd 27 (by omega) rfl) (cs.rf 33 (by omega) rfl) ?_
          refine g_iload rfl rfl ?_
          refine g_iald (i := fr + j) rfl (cs.ar 29 (by omega) rfl) (by omega) (by omega) ?_
          refine g_top (v2 := aI (((L.getD (fr + j) 0 : Nat) : Int))) (congrArg aI (by show V1 (c + 29) (fr + j) = _; exact (gf.gs gp.1).wt (by omega))) ?_
          refine g_iast (i := ch.length) rfl (cs.ar 30 (by omega) rfl) (by omega) (by omega) ?_
          obtain ⟨V2, e2⟩ : ∃ W, W = vset V1 (c + 30) ch.length ((L.getD (fr + j) 0 : Nat) : Int) := ⟨_, rfl⟩
          refine g_hp (h2 := hw h V2) (by rw [e2]; rfl) ?_
          have g2 := gp_ch gp gf (L.getD (fr + j) 0)
          rw [← e2] at g2
          refine g_iload_n rfl rfl ?_
          refine g_iconst rfl ?_
          refine g_iadd rfl (by omega) (by omega) ?_
          refine g_aload_n rfl rfl ?_
          refine g_getI rfl (cs.kd 27 (by omega) rfl) ?_
          refine g_top (v2 := aI ((n : Int))) (congrArg aI (by exact g2.2.1)) ?_
          refine g_icmp_ne_t rfl (by omega) ?_
          refine g_aload_n rfl rfl ?_
          refine g_aload_n rfl rfl ?_
          refine g_getR rfl (cs.kd 27 (by omega) rfl) (cs.rf 33 (by omega) rfl) ?_
          refine g_iload rfl rfl ?_
          refine g_iald (i := fr + j) rfl (cs.ar 29 (by omega) rfl) (by omega) (by omega) ?_
          refine g_top (v2 := aI (((L.getD (fr + j) 0 : Nat) : Int))) (congrArg aI (by show V2 (c + 29) (fr + j) = _; exact g2.1.wt (by omega))) ?_
          refine g_iload_n rfl rfl ?_
          refine g_callVI [aI (((L.getD (fr + j) 0 : Nat) : Int)), aI ((L.length : Int))] [] rfl rfl rfl rfl (Nat.le_of_ble_eq_true rfl) (cs.kd 27 (by omega) rfl) (x_addNb (by omega) cs V2 S L g2.1 (L.getD (fr + j) 0) (gp.1.gd (by omega))) ?_
          rintro _ _ ⟨V3, rfl, hf3, gs3, rfl⟩
          have hle : L.length ≤ (an4 (S, L) (L.getD (fr + j) 0)).2.length := by obtain ⟨N, e1, -⟩ := Ext.an4 S L (L.getD (fr + j) 0); rw [e1, List.length_append]; omega
          have gp3 : GP V3 c kd n m (an4 (S, L) (L.getD (fr + j) 0)).1 (an4 (S, L) (L.getD (fr + j) 0)).2 (ch ++ [(L.getD (fr + j) 0)]) (fr + j + 1) := by
            refine ⟨gs3, ?_, ?_, hn8, by rw [List.length_append]; simp; omega, fun i hi => ?_, fun x hx => ?_, by omega, ?_⟩
            · rw [hf3 _ (by omega) (by omega)]; exact g2.2.1
            · rw [hf3 _ (by omega) (by omega)]; exact g2.2.2.1
            · rw [hf3 _ (by omega) (by omega)]; exact g2.2.2.2 i hi
            · rcases List.mem_append.mp hx with hx | hx
              · exact hcb x hx
              · rw [List.mem_singleton] at hx; rw [hx]; exact gp.1.gd (by omega)
            · have := allN_at hck (j := j) (by omega)
              simpa using this
          refine g_istore (l1 := [(6, aI ((((an4 (S, L) (L.getD (fr + j) 0)).2.length : Nat) : Int))), (5, aI ((fr + j : Int))), (4, aI (w32 ((smN (j) (cgn kd n (m + 1) L S ch fr) : Nat) : Int))), (0, aO (some (c + 27))), (1, aI ((ch.length : Int))), (2, aI ((fr : Int))), (3, aI ((L.length : Int)))]) rfl rfl ?_
          refine g_iload rfl rfl ?_
          refine g_aload_n rfl rfl ?_
          refine g_iload_n rfl rfl ?_
          refine g_iconst rfl ?_
          refine g_iadd rfl (by omega) (by omega) ?_
          refine g_iload rfl rfl ?_
          refine g_iconst rfl ?_
          refine g_iadd rfl (by omega) (by omega) ?_
          refine g_iload rfl rfl ?_
          have ihx := ih d (by omega) V3 (an4 (S, L) (L.getD (fr + j) 0)).1 (an4 (S, L) (L.getD (fr + j) 0)).2 (ch ++ [(L.getD (fr + j) 0)]) (fr + j + 1) gp3
          rw [List.length_append] at ihx
          refine g_callSI [aO (some (c + 27)), aI (((ch.length : Int)) + 1), aI (((fr + j : Int)) + 1), aI ((((an4 (S, L) (L.getD (fr + j) 0)).2.length : Nat) : Int))] [aI (w32 ((smN (j) (cgn kd n (m + 1) L S ch fr) : Nat) : Int))] rfl rfl rfl rfl (Nat.le_of_ble_eq_true rfl) ihx ?_
          intro r4 h4 q4
          obtain ⟨V4, e4, gf4, er4⟩ := q4
          rw [e4, er4]
          refine g_iaddW rfl ?_
          refine g_top (v2 := aI (w32 ((smN (j + 1) (cgn kd n (m + 1) L S ch fr) : Nat) : Int))) (congrArg aI (by rw [w32_add]; congr 1)) ?_
          refine g_istore (l1 := [(4, aI (w32 ((smN (j + 1) (cgn kd n (m + 1) L S ch fr) : Nat) : Int))), (6, aI ((((an4 (S, L) (L.getD (fr + j) 0)).2.length : Nat) : Int))), (5, aI ((fr + j : Int))), (0, aO (some (c + 27))), (1, aI ((ch.length : Int))), (2, aI ((fr : Int))), (3, aI ((L.length : Int)))]) rfl rfl ?_
          refine g_aload_n rfl rfl ?_
          refine g_iload_n rfl rfl ?_
          refine g_iload rfl rfl ?_
          refine g_callVN [aI ((L.length : Int)), aI ((((an4 (S, L) (L.getD (fr + j) 0)).2.length : Nat) : Int))] [] rfl rfl rfl rfl (Nat.le_of_ble_eq_true rfl) (cs.kd 27 (by omega) rfl) (x_forget (by omega) cs V4 (an4 (S, L) (L.getD (fr + j) 0)).2 L.length hle gs3.2.2.1 (fun i hi => by rw [gf4.2.2.1 i hi]; exact gs3.2.1 i hi) gs3.2.2.2) ?_
          rintro _ ⟨V5, rfl, h5, h6⟩
          rw [e2] at hf3
          have gf3 := gf_inner gp.1 gf hf3 gs3 gf4 (by rw [List.length_append]; omega) h5 h6
          refine g_iinc (l1 := [(5, aI ((fr + j : Int) + 1)), (4, aI (w32 ((smN (j + 1) (cgn kd n (m + 1) L S ch fr) : Nat) : Int))), (6, aI ((((an4 (S, L) (L.getD (fr + j) 0)).2.length : Nat) : Int))), (0, aO (some (c + 27))), (1, aI ((ch.length : Int))), (2, aI ((fr : Int))), (3, aI ((L.length : Int)))]) rfl rfl (by omega) (by omega) rfl ?_
          refine g_goto rfl ?_
          refine g_ls [0, 1, 3, 4, 5, 6] rfl rfl ?_
          exact ih18 (j + 1) _ (by omega) (by exact gf3) (by omega)
    refine g_iconst rfl ?_
    refine g_top (v2 := aI (w32 ((smN (0) (cgn kd n (m + 1) L S ch fr) : Nat) : Int))) (congrArg aI (by show (0 : Int) = w32 ((0 : Nat) : Int); unfold w32; omega)) ?_
    refine g_istore (l1 := [(4, aI (w32 ((smN (0) (cgn kd n (m + 1) L S ch fr) : Nat) : Int))), (0, aO (some (c + 27))), (1, aI ((ch.length : Int))), (2, aI ((fr : Int))), (3, aI ((L.length : Int)))]) rfl rfl ?_
    refine g_iload_n rfl rfl ?_
    refine g_if_lt_f rfl (by omega) ?_
    refine g_iload_n rfl rfl ?_
    refine g_bipush rfl ?_
    refine g_icmp_lt_t rfl (by omega) ?_
    refine g_iload_n rfl rfl ?_
    refine g_istore (l1 := [(5, aI ((fr : Int))), (4, aI (w32 ((smN (0) (cgn kd n (m + 1) L S ch fr) : Nat) : Int))), (0, aO (some (c + 27))), (1, aI ((ch.length : Int))), (2, aI ((fr : Int))), (3, aI ((L.length : Int)))]) rfl rfl ?_
    exact l18 _ 0 V (by omega) (by exact GF.refl V c L ch) (Nat.lt_succ_self _)
