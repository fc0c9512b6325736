/-! the class grows figures: printed by wip/whole/s65.py -/
def acP (S : Nat) (L : List Nat) (x y : Int) : Nat × List Nat := if y < 0 ∨ (y = 0 ∧ x < 8) ∨ x < 0 ∨ 17 ≤ x ∨ 9 ≤ y ∨ 64 ≤ L.length ∨ S.testBit (17 * y.toNat + x.toNat) = true then (S, L) else (S ||| 2 ^ (17 * y.toNat + x.toNat), L ++ [17 * y.toNat + x.toNat])
def an4 (s : Nat × List Nat) (cl : Nat) : Nat × List Nat :=
  let s1 := acP s.1 s.2 (((cl % 17 : Nat) : Int) + 1) ((cl / 17 : Nat) : Int)
  let s2 := acP s1.1 s1.2 ((cl % 17 : Nat) : Int) (((cl / 17 : Nat) : Int) + 1)
  let s3 := acP s2.1 s2.2 (((cl % 17 : Nat) : Int) - 1) ((cl / 17 : Nat) : Int)
  acP s3.1 s3.2 ((cl % 17 : Nat) : Int) (((cl / 17 : Nat) : Int) - 1)
/-- what is seen, and what waits, in memory -/
def GS (V : Nat → Nat → Int) (c : Nat) (S : Nat) (L : List Nat) : Prop := (∀ i < 153, V (c + 28) i = if S.testBit i = true then 1 else 0) ∧ (∀ i (hi : i < L.length), V (c + 29) i = (L[i] : Nat)) ∧ L.length ≤ 64 ∧ ∀ x ∈ L, x < 153
theorem GS.push {V : Nat → Nat → Int} {c S : Nat} {L : List Nat} (r : GS V c S L) {t : Nat} (ht : t < 153) (hq : L.length < 64) : GS (vset (vset V (c + 28) t 1) (c + 29) L.length t) c (S ||| 2 ^ t) (L ++ [t]) := by
  obtain ⟨r1, r2, r3, r4⟩ := r
  refine ⟨fun i hi => ?_, fun i hi => ?_, by rw [List.length_append]; simp; omega, fun x hx => ?_⟩
  · rw [vset_ne _ _ _ _ (by omega), Nat.testBit_or]
    by_cases e : i = t
    · rw [e, vset_eq, Nat.testBit_two_pow_self, Bool.or_true, if_pos rfl]
    · rw [vset_ne _ _ _ _ (by omega), r1 i hi, Nat.testBit_two_pow_of_ne (fun q => e q.symm), Bool.or_false]
  · rw [List.length_append] at hi
    simp at hi
    by_cases e : i = L.length
    · subst e
      rw [vset_eq]
      simp
    · rw [vset_ne _ _ _ _ (by omega), vset_ne _ _ _ _ (by omega), r2 i (by omega), List.getElem_append_left (by omega)]
  · rcases List.mem_append.mp hx with hx | hx
    · exact r4 x hx
    · simp at hx; omega
/-- one more of them: the list is longer, what is new wasn't seen -/
def Ext (S : Nat) (L : List Nat) (s : Nat × List Nat) : Prop := ∃ N, s.2 = L ++ N ∧ (∀ i, s.1.testBit i = true ↔ S.testBit i = true ∨ i ∈ N) ∧ ∀ i ∈ N, S.testBit i = false
theorem Ext.refl (S : Nat) (L : List Nat) : Ext S L (S, L) := ⟨[], by simp, fun i => by simp, fun i hi => by cases hi⟩
theorem Ext.step {S : Nat} {L : List Nat} {s : Nat × List Nat} (e : Ext S L s) (x y : Int) : Ext S L (acP s.1 s.2 x y) := by
  obtain ⟨N, e1, e2, e3⟩ := e
  unfold acP
  split
  · exact ⟨N, e1, e2, e3⟩
  · next h =>
    have hb : s.1.testBit (17 * y.toNat + x.toNat) = false := by
      cases q : s.1.testBit (17 * y.toNat + x.toNat) with
      | false => rfl
      | true => exact absurd (Or.inr (Or.inr (Or.inr (Or.inr (Or.inr (Or.inr q)))))) h
    refine ⟨N ++ [17 * y.toNat + x.toNat], by rw [e1, List.append_assoc], fun i => ?_, fun i hi => ?_⟩
    · rw [Nat.testBit_or, Bool.or_eq_true, e2, List.mem_append, or_assoc]
      have : (2 ^ (17 * y.toNat + x.toNat)).testBit i = true ↔ i ∈ [17 * y.toNat + x.toNat] := by
        rw [Nat.testBit_two_pow]
        simp [eq_comm]
      rw [this]
    · rcases List.mem_append.mp hi with hi | hi
      · exact e3 i hi
      · simp at hi
        subst hi
        cases q : S.testBit (17 * y.toNat + x.toNat) with
        | false => rfl
        | true => rw [(e2 _).mpr (Or.inl q)] at hb; exact absurd hb (by decide)
theorem Ext.an4 (S : Nat) (L : List Nat) (cl : Nat) : Ext S L (an4 (S, L) cl) := ((((Ext.refl S L).step _ _).step _ _).step _ _).step _ _
def smN (k : Nat) (f : Nat → Nat) : Nat := match k with
  | 0 => 0
  | k + 1 => smN k f + f k
def allN (k : Nat) (f : Nat → Bool) : Bool := match k with
  | 0 => true
  | k + 1 => allN k f && f k
theorem allN_at {k : Nat} {f : Nat → Bool} (h : allN k f = true) {j : Nat} (hj : j < k) : f j = true := by
  induction k with
  | zero => omega
  | succ k ih =>
    unfold allN at h
    rw [Bool.and_eq_true] at h
    by_cases e : j = k
    · rw [e]; exact h.2
    · exact ih h.1 (by omega)
/-- how many wanted figures grow from here -/
def cgr (kd n : Nat) : Nat → List Nat → Nat → List Nat → Nat → Nat
  | 0, _, _, _, _ => 0
  | m + 1, L, S, ch, fr => smN (L.length - fr) (fun j => if m = 0 then (if wantB kd n (ch ++ [L.getD (fr + j) 0]) = true then 1 else 0) else cgr kd n m (an4 (S, L) (L.getD (fr + j) 0)).2 (an4 (S, L) (L.getD (fr + j) 0)).1 (ch ++ [L.getD (fr + j) 0]) (fr + j + 1))
def cgK (kd : Nat) : Nat → List Nat → Nat → List Nat → Nat → Bool
  | 0, _, _, _, _ => true
  | m + 1, L, S, ch, fr => allN (L.length - fr) (fun j => if m = 0 then wantK kd (ch ++ [L.getD (fr + j) 0]) else cgK kd m (an4 (S, L) (L.getD (fr + j) 0)).2 (an4 (S, L) (L.getD (fr + j) 0)).1 (ch ++ [L.getD (fr + j) 0]) (fr + j + 1))
def FR3 (V V1 : Nat → Nat → Int) (c : Nat) : Prop := ∀ a, a ≠ c + 28 → a ≠ c + 29 → V1 a = V a
set_option maxRecDepth 100000 in
theorem x_addCell {w : aW} {d : Nat} (hd : 1 ≤ d) {h : aH} {c : Nat} (cs : CS h c) (V : Nat → Nat → Int) (S : Nat) (L : List Nat) (gs : GS V c S L) (x y : Int) (hx : -100 ≤ x ∧ x ≤ 100) (hy : -100 ≤ y ∧ y ≤ 100) : WP w d 11 [aO (some (c + 27)), aI x, aI y, aI ((L.length : Int))] (hw h V) (RI (fun r h1 => ∃ V1, h1 = hw h V1 ∧ FR3 V V1 c ∧ GS V1 c (acP S L x y).1 (acP S L x y).2 ∧ r = ((acP S L x y).2.length : Nat))) := by
  obtain ⟨d, rfl⟩ : ∃ d1, d = d1 + 1 := ⟨d - 1, by omega⟩
  refine WP.enter (cd := cd_X0_addCell) rfl ?_
  have hr3 := gs.2.2.1
  have hls : largs 0 [aO (some (c + 27)), aI x, aI y, aI ((L.length : Int))] = [(0, aO (some (c + 27))), (1, aI x), (2, aI y), (3, aI ((L.length : Int)))] := rfl
  rw [hls]
  clear hls
  have j19 : Wk w d cd_X0_addCell 19 [(0, aO (some (c + 27))), (1, aI x), (2, aI y), (3, aI ((L.length : Int)))] [aI (if y < 0 ∨ (y = 0 ∧ x < 8) then 1 else 0)] (hw h V) (RI (fun r h1 => ∃ V1, h1 = hw h V1 ∧ FR3 V V1 c ∧ GS V1 c (acP S L x y).1 (acP S L x y).2 ∧ r = ((acP S L x y).2.length : Nat))) := by
    skip
    refine g_istore (l1 := [(4, aI (if y < 0 ∨ (y = 0 ∧ x < 8) then 1 else 0)), (0, aO (some (c + 27))), (1, aI x), (2, aI y), (3, aI ((L.length : Int)))]) rfl rfl ?_
    refine g_iload rfl rfl ?_
    refine g_b_ne rfl (fun c23 => ?_) (fun c23 => ?_)
    · skip
      refine g_iload_n rfl rfl ?_
      refine g_iret rfl ?_
      refine ⟨V, rfl, fun _ _ _ => rfl, ?_⟩
      have e : acP S L x y = (S, L) := by
        unfold acP
        refine if_pos ?_
        first | omega | exact Or.inr (Or.inr (Or.inr (Or.inr (Or.inr (Or.inr (by assumption))))))
      rw [e]
      exact ⟨gs, rfl⟩
    · skip
      refine g_iload_n rfl rfl ?_
      refine g_if_lt rfl (fun c27 => ?_) (fun c27 => ?_)
      · skip
        refine g_iload_n rfl rfl ?_
        refine g_iret rfl ?_
        refine ⟨V, rfl, fun _ _ _ => rfl, ?_⟩
        have e : acP S L x y = (S, L) := by
          unfold acP
          refine if_pos ?_
          first | omega | exact Or.inr (Or.inr (Or.inr (Or.inr (Or.inr (Or.inr (by assumption))))))
        rw [e]
        exact ⟨gs, rfl⟩
      · skip
        refine g_iload_n rfl rfl ?_
        refine g_bipush rfl ?_
        refine g_icmp_ge rfl (fun c33 => ?_) (fun c33 => ?_)
        · skip
          refine g_iload_n rfl rfl ?_
          refine g_iret rfl ?_
          refine ⟨V, rfl, fun _ _ _ => rfl, ?_⟩
          have e : acP S L x y = (S, L) := by
            unfold acP
            refine if_pos ?_
            first | omega | exact Or.inr (Or.inr (Or.inr (Or.inr (Or.inr (Or.inr (by assumption))))))
          rw [e]
          exact ⟨gs, rfl⟩
        · skip
          refine g_iload_n rfl rfl ?_
          refine g_bipush rfl ?_
          refine g_icmp_ge rfl (fun c39 => ?_) (fun c39 => ?_)
          · skip
            refine g_iload_n rfl rfl ?_
            refine g_iret rfl ?_
            refine ⟨V, rfl, fun _ _ _ => rfl, ?_⟩
            have e : acP S L x y = (S, L) := by
              unfold acP
              refine if_pos ?_
              first | omega | exact Or.inr (Or.inr (Or.inr (Or.inr (Or.inr (Or.inr (by assumption))))))
            rw [e]
            exact ⟨gs, rfl⟩
          · skip
            refine g_iload_n rfl rfl ?_
            refine g_if_lt_f rfl (by omega) ?_
            refine g_iload_n rfl rfl ?_
            refine g_bipush rfl ?_
            refine g_icmp_ge rfl (fun c49 => ?_) (fun c49 => ?_)
            · skip
              refine g_iload_n rfl rfl ?_
              refine g_iret rfl ?_
              refine ⟨V, rfl, fun _ _ _ => rfl, ?_⟩
              have e : acP S L x y = (S, L) := by
                unfold acP
                refine if_pos ?_
                first | omega | exact Or.inr (Or.inr (Or.inr (Or.inr (Or.inr (Or.inr (by assumption))))))
              rw [e]
              exact ⟨gs, rfl⟩
            · skip
              refine g_aload_n rfl rfl ?_
              refine g_getR rfl (cs.kd 27 (by omega) rfl) (cs.rf 32 (by omega) rfl) ?_
              refine g_iload_n rfl rfl ?_
              refine g_bipush rfl ?_
              refine g_imul rfl (by omega) (by omega) ?_
              refine g_iload_n rfl rfl ?_
              refine g_iadd rfl (by omega) (by omega) ?_
              refine g_bald (i := 17 * y.toNat + x.toNat) rfl (cs.ar 28 (by omega) rfl) (by omega) (by omega) ?_
              refine g_top (v2 := aI (if S.testBit (17 * y.toNat + x.toNat) = true then 1 else 0)) (congrArg aI (by show V (c + 28) (17 * y.toNat + x.toNat) = _; exact gs.1 _ (by omega))) ?_
              refine g_b_eq rfl (fun c63 => ?_) (fun c63 => ?_)
              · skip
                refine g_aload_n rfl rfl ?_
                refine g_getR rfl (cs.kd 27 (by omega) rfl) (cs.rf 32 (by omega) rfl) ?_
                refine g_iload_n rfl rfl ?_
                refine g_bipush rfl ?_
                refine g_imul rfl (by omega) (by omega) ?_
                refine g_iload_n rfl rfl ?_
                refine g_iadd rfl (by omega) (by omega) ?_
                refine g_iconst rfl ?_
                refine g_bast (i := 17 * y.toNat + x.toNat) rfl (cs.ar 28 (by omega) rfl) (by omega) (by omega) (by exact Or.inr rfl) ?_
                refine g_aload_n rfl rfl ?_
                refine g_getR rfl (cs.kd 27 (by omega) rfl) (cs.rf 33 (by omega) rfl) ?_
                refine g_iload_n rfl rfl ?_
                refine g_iload_n rfl rfl ?_
                refine g_bipush rfl ?_
                refine g_imul rfl (by omega) (by omega) ?_
                refine g_iload_n rfl rfl ?_
                refine g_iadd rfl (by omega) (by omega) ?_
                refine g_iast (i := L.length) rfl (cs.ar 29 (by omega) rfl) (by omega) (by omega) ?_
                refine g_iload_n rfl rfl ?_
                refine g_iconst rfl ?_
                refine g_iadd rfl (by omega) (by omega) ?_
                refine g_iret rfl ?_
                have e : acP S L x y = (S ||| 2 ^ (17 * y.toNat + x.toNat), L ++ [17 * y.toNat + x.toNat]) := by
                  unfold acP
                  refine if_neg ?_
                  rintro (u | u | u | u | u | u | u)
                  · omega
                  · omega
                  · omega
                  · omega
                  · omega
                  · omega
                  · exact absurd u (by assumption)
                rw [e]
                have e2 : y * 17 + x = ((17 * y.toNat + x.toNat : Nat) : Int) := by omega
                refine ⟨vset (vset V (c + 28) (17 * y.toNat + x.toNat) 1) (c + 29) L.length ((17 * y.toNat + x.toNat : Nat) : Int), by rw [← e2]; rfl, fun a h1 h2 => ?_, gs.push (by omega) (by omega), ?_⟩
                · funext j
                  rw [vset_ne _ _ _ _ (by omega), vset_ne _ _ _ _ (by omega)]
                · simp
              · skip
                refine g_iload_n rfl rfl ?_
                refine g_iret rfl ?_
                refine ⟨V, rfl, fun _ _ _ => rfl, ?_⟩
                have e : acP S L x y = (S, L) := by
                  unfold acP
                  refine if_pos ?_
                  first | omega | exact Or.inr (Or.inr (Or.inr (Or.inr (Or.inr (Or.inr (by assumption))))))
                rw [e]
                exact ⟨gs, rfl⟩
  refine g_iload_n rfl rfl ?_
  refine g_if_lt rfl (fun c1 => ?_) (fun c1 => ?_)
  · skip
    refine g_iconst rfl ?_
    refine g_goto rfl ?_
    refine g_top (v2 := aI (if y < 0 ∨ (y = 0 ∧ x < 8) then 1 else 0)) (congrArg aI (bi_t (by omega))) ?_
    exact j19 
  · skip
    refine g_iload_n rfl rfl ?_
    refine g_if_ne rfl (fun c5 => ?_) (fun c5 => ?_)
    · skip
      refine g_iconst rfl ?_
      refine g_top (v2 := aI (if y < 0 ∨ (y = 0 ∧ x < 8) then 1 else 0)) (congrArg aI (bi_f (by omega))) ?_
      exact j19 
    · skip
      refine g_iload_n rfl rfl ?_
      refine g_bipush rfl ?_
      refine g_icmp_ge rfl (fun c11 => ?_) (fun c11 => ?_)
      · skip
        refine g_iconst rfl ?_
        refine g_top (v2 := aI (if y < 0 ∨ (y = 0 ∧ x < 8) then 1 else 0)) (congrArg aI (bi_f (by omega))) ?_
        exact j19 
      · skip
        refine g_iconst rfl ?_
        refine g_goto rfl ?_
        refine g_top (v2 := aI (if y < 0 ∨ (y = 0 ∧ x < 8) then 1 else 0)) (congrArg aI (bi_t (by omega))) ?_
        exact j19 
set_option maxRecDepth 100000 in
theorem x_addNb {w : aW} {d : Nat} (hd : 2 ≤ d) {h : aH} {c : Nat} (cs : CS h c) (V : Nat → Nat → Int) (S : Nat) (L : List Nat) (gs : GS V c S L) (cl : Nat) (hcl : cl < 153) : WP w d 10 [aO (some (c + 27)), aI ((cl : Int)), aI ((L.length : Int))] (hw h V) (RI (fun r h1 => ∃ V1, h1 = hw h V1 ∧ FR3 V V1 c ∧ GS V1 c (an4 (S, L) cl).1 (an4 (S, L) cl).2 ∧ r = ((an4 (S, L) cl).2.length : Nat))) := by
  obtain ⟨d, rfl⟩ : ∃ d1, d = d1 + 1 := ⟨d - 1, by omega⟩
  refine WP.enter (cd := cd_X0_addNeighbours) rfl ?_
  have hls : largs 0 [aO (some (c + 27)), aI ((cl : Int)), aI ((L.length : Int))] = [(0, aO (some (c + 27))), (1, aI ((cl : Int))), (2, aI ((L.length : Int)))] := rfl
  rw [hls]
  clear hls
  refine g_iload_n rfl rfl ?_
  refine g_bipush rfl ?_
  refine g_iremN (m := 17) (n := cl) rfl (by omega) ?_
  refine g_istore_n (l1 := [(3, aI (((cl % 17 : Nat) : Int))), (0, aO (some (c + 27))), (1, aI ((cl : Int))), (2, aI ((L.length : Int)))]) rfl rfl ?_
  refine g_iload_n rfl rfl ?_
  refine g_bipush rfl ?_
  refine g_idivN (m := 17) (n := cl) rfl (by omega) (by omega) ?_
  refine g_istore (l1 := [(4, aI (((cl / 17 : Nat) : Int))), (3, aI (((cl % 17 : Nat) : Int))), (0, aO (some (c + 27))), (1, aI ((cl : Int))), (2, aI ((L.length : Int)))]) rfl rfl ?_
  refine g_aload_n rfl rfl ?_
  refine g_iload_n rfl rfl ?_
  refine g_iconst rfl ?_
  refine g_iadd rfl (by omega) (by omega) ?_
  refine g_iload rfl rfl ?_
  refine g_iload_n rfl rfl ?_
  refine g_callVI [aI ((((cl % 17 : Nat) : Int)) + 1), aI (((cl / 17 : Nat) : Int)), aI ((L.length : Int))] [] rfl rfl rfl rfl (Nat.le_of_ble_eq_true rfl) (cs.kd 27 (by omega) rfl) (x_addCell (by omega) cs V S L gs ((((cl % 17 : Nat) : Int)) + 1) (((cl / 17 : Nat) : Int)) (by omega) (by omega)) ?_
  rintro _ _ ⟨U1, rfl, hf2, gs2, rfl⟩
  have hf : FR3 V U1 c := fun a h1 h2 => by rw [hf2 a h1 h2]
  have gA := gs2
  refine g_istore (l1 := [(5, aI ((((acP S L ((((cl % 17 : Nat) : Int)) + 1) (((cl / 17 : Nat) : Int))).2.length : Nat) : Int))), (4, aI (((cl / 17 : Nat) : Int))), (3, aI (((cl % 17 : Nat) : Int))), (0, aO (some (c + 27))), (1, aI ((cl : Int))), (2, aI ((L.length : Int)))]) rfl rfl ?_
  refine g_aload_n rfl rfl ?_
  refine g_iload_n rfl rfl ?_
  refine g_iload rfl rfl ?_
  refine g_iconst rfl ?_
  refine g_iadd rfl (by omega) (by omega) ?_
  refine g_iload rfl rfl ?_
  refine g_callVI [aI (((cl % 17 : Nat) : Int)), aI ((((cl / 17 : Nat) : Int)) + 1), aI ((((acP S L ((((cl % 17 : Nat) : Int)) + 1) (((cl / 17 : Nat) : Int))).2.length : Nat) : Int))] [] rfl rfl rfl rfl (Nat.le_of_ble_eq_true rfl) (cs.kd 27 (by omega) rfl) (x_addCell (by omega) cs U1 ((acP S L (((cl % 17 : Nat) : Int) + 1) ((cl / 17 : Nat) : Int)).1) ((acP S L (((cl % 17 : Nat) : Int) + 1) ((cl / 17 : Nat) : Int)).2) gA (((cl % 17 : Nat) : Int)) ((((cl / 17 : Nat) : Int)) + 1) (by omega) (by omega)) ?_
  rintro _ _ ⟨U2, rfl, hf2, gs2, rfl⟩
  have hf : FR3 V U2 c := fun a h1 h2 => by rw [hf2 a h1 h2, hf a h1 h2]
  have gB := gs2
  refine g_istore (l1 := [(5, aI ((((acP ((acP S L (((cl % 17 : Nat) : Int) + 1) ((cl / 17 : Nat) : Int)).1) ((acP S L (((cl % 17 : Nat) : Int) + 1) ((cl / 17 : Nat) : Int)).2) (((cl % 17 : Nat) : Int)) ((((cl / 17 : Nat) : Int)) + 1)).2.length : Nat) : Int))), (4, aI (((cl / 17 : Nat) : Int))), (3, aI (((cl % 17 : Nat) : Int))), (0, aO (some (c + 27))), (1, aI ((cl : Int))), (2, aI ((L.length : Int)))]) rfl rfl ?_
  refine g_aload_n rfl rfl ?_
  refine g_iload_n rfl rfl ?_
  refine g_iconst rfl ?_
  refine g_isub rfl (by omega) (by omega) ?_
  refine g_iload rfl rfl ?_
  refine g_iload rfl rfl ?_
  refine g_callVI [aI ((((cl % 17 : Nat) : Int)) - 1), aI (((cl / 17 : Nat) : Int)), aI ((((acP ((acP S L (((cl % 17 : Nat) : Int) + 1) ((cl / 17 : Nat) : Int)).1) ((acP S L (((cl % 17 : Nat) : Int) + 1) ((cl / 17 : Nat) : Int)).2) (((cl % 17 : Nat) : Int)) ((((cl / 17 : Nat) : Int)) + 1)).2.length : Nat) : Int))] [] rfl rfl rfl rfl (Nat.le_of_ble_eq_true rfl) (cs.kd 27 (by omega) rfl) (x_addCell (by omega) cs U2 ((acP (acP S L (((cl % 17 : Nat) : Int) + 1) ((cl / 17 : Nat) : Int)).1 (acP S L (((cl % 17 : Nat) : Int) + 1) ((cl / 17 : Nat) : Int)).2 ((cl % 17 : Nat) : Int) (((cl / 17 : Nat) : Int) + 1)).1) ((acP (acP S L (((cl % 17 : Nat) : Int) + 1) ((cl / 17 : Nat) : Int)).1 (acP S L (((cl % 17 : Nat) : Int) + 1) ((cl / 17 : Nat) : Int)).2 ((cl % 17 : Nat) : Int) (((cl / 17 : Nat) : Int) + 1)).2) gB ((((cl % 17 : Nat) : Int)) - 1) (((cl / 17 : Nat) : Int)) (by omega) (by omega)) ?_
  rintro _ _ ⟨U3, rfl, hf2, gs2, rfl⟩
  have hf : FR3 V U3 c := fun a h1 h2 => by rw [hf2 a h1 h2, hf a h1 h2]
  have gC := gs2
  refine g_istore (l1 := [(5, aI ((((acP ((acP (acP S L (((cl % 17 : Nat) : Int) + 1) ((cl / 17 : Nat) : Int)).1 (acP S L (((cl % 17 : Nat) : Int) + 1) ((cl / 17 : Nat) : Int)).2 ((cl % 17 : Nat) : Int) (((cl / 17 : Nat) : Int) + 1)).1) ((acP (acP S L (((cl % 17 : Nat) : Int) + 1) ((cl / 17 : Nat) : Int)).1 (acP S L (((cl % 17 : Nat) : Int) + 1) ((cl / 17 : Nat) : Int)).2 ((cl % 17 : Nat) : Int) (((cl / 17 : Nat) : Int) + 1)).2) ((((cl % 17 : Nat) : Int)) - 1) (((cl / 17 : Nat) : Int))).2.length : Nat) : Int))), (4, aI (((cl / 17 : Nat) : Int))), (3, aI (((cl % 17 : Nat) : Int))), (0, aO (some (c + 27))), (1, aI ((cl : Int))), (2, aI ((L.length : Int)))]) rfl rfl ?_
  refine g_aload_n rfl rfl ?_
  refine g_iload_n rfl rfl ?_
  refine g_iload rfl rfl ?_
  refine g_iconst rfl ?_
  refine g_isub rfl (by omega) (by omega) ?_
  refine g_iload rfl rfl ?_
  refine g_callVI [aI (((cl % 17 : Nat) : Int)), aI ((((cl / 17 : Nat) : Int)) - 1), aI ((((acP ((acP (acP S L (((cl % 17 : Nat) : Int) + 1) ((cl / 17 : Nat) : Int)).1 (acP S L (((cl % 17 : Nat) : Int) + 1) ((cl / 17 : Nat) : Int)).2 ((cl % 17 : Nat) : Int) (((cl / 17 : Nat) : Int) + 1)).1) ((acP (acP S L (((cl % 17 : Nat) : Int) + 1) ((cl / 17 : Nat) : Int)).1 (acP S L (((cl % 17 : Nat) : Int) + 1) ((cl / 17 : Nat) : Int)).2 ((cl % 17 : Nat) : Int) (((cl / 17 : Nat) : Int) + 1)).2) ((((cl % 17 : Nat) : Int)) - 1) (((cl / 17 : Nat) : Int))).2.length : Nat) : Int))] [] rfl rfl rfl rfl (Nat.le_of_ble_eq_true rfl) (cs.kd 27 (by omega) rfl) (x_addCell (by omega) cs U3 ((acP (acP (acP S L (((cl % 17 : Nat) : Int) + 1) ((cl / 17 : Nat) : Int)).1 (acP S L (((cl % 17 : Nat) : Int) + 1) ((cl / 17 : Nat) : Int)).2 ((cl % 17 : Nat) : Int) (((cl / 17 : Nat) : Int) + 1)).1 (acP (acP S L (((cl % 17 : Nat) : Int) + 1) ((cl / 17 : Nat) : Int)).1 (acP S L (((cl % 17 : Nat) : Int) + 1) ((cl / 17 : Nat) : Int)).2 ((cl % 17 : Nat) : Int) (((cl / 17 : Nat) : Int) + 1)).2 (((cl % 17 : Nat) : Int) - 1) ((cl / 17 : Nat) : Int)).1) ((acP (acP (acP S L (((cl % 17 : Nat) : Int) + 1) ((cl / 17 : Nat) : Int)).1 (acP S L (((cl % 17 : Nat) : Int) + 1) ((cl / 17 : Nat) : Int)).2 ((cl % 17 : Nat) : Int) (((cl / 17 : Nat) : Int) + 1)).1 (acP (acP S L (((cl % 17 : Nat) : Int) + 1) ((cl / 17 : Nat) : Int)).1 (acP S L (((cl % 17 : Nat) : Int) + 1) ((cl / 17 : Nat) : Int)).2 ((cl % 17 : Nat) : Int) (((cl / 17 : Nat) : Int) + 1)).2 (((cl % 17 : Nat) : Int) - 1) ((cl / 17 : Nat) : Int)).2) gC (((cl % 17 : Nat) : Int)) ((((cl / 17 : Nat) : Int)) - 1) (by omega) (by omega)) ?_
  rintro _ _ ⟨U4, rfl, hf2, gs2, rfl⟩
  have hf : FR3 V U4 c := fun a h1 h2 => by rw [hf2 a h1 h2, hf a h1 h2]
  have gD := gs2
  refine g_iret rfl ?_
  exact ⟨_, rfl, hf, gD, rfl⟩
theorem fg_step {V V1 : Nat → Nat → Int} {c fr i : Nat} {L : List Nat} (hz : ∀ j < 153, V1 (c + 28) j = if j ∈ (L.take i).drop fr then 0 else V (c + 28) j) (hi : i < L.length) (hfr : fr ≤ i) {j : Nat} (hj : j < 153) : vset V1 (c + 28) (L[i]'(by omega)) 0 (c + 28) j = if j ∈ (L.take (i + 1)).drop fr then 0 else V (c + 28) j := by
  have e : (L.take (i + 1)).drop fr = (L.take i).drop fr ++ [L[i]] := by
    rw [List.take_add_one, List.getElem?_eq_getElem hi, List.drop_append_of_le_length (by rw [List.length_take]; omega)]
    rfl
  rw [e]
  by_cases q : j = L[i]
  · subst q
    rw [vset_eq, if_pos (by simp)]
  · rw [vset_ne _ _ _ _ (by omega), hz j hj]
    have : j ∈ (L.take i).drop fr ++ [L[i]] ↔ j ∈ (L.take i).drop fr := by simp [q]
    simp only [this]
theorem x_forget {w : aW} {d : Nat} (hd : 1 ≤ d) {h : aH} {c : Nat} (cs : CS h c) (V : Nat → Nat → Int) (L : List Nat) (fr : Nat) (hfr : fr ≤ L.length) (hL : L.length ≤ 64) (hw9 : ∀ i (hi : i < L.length), V (c + 29) i = (L[i] : Nat)) (hb : ∀ x ∈ L, x < 153) : WP w d 12 [aO (some (c + 27)), aI ((fr : Int)), aI ((L.length : Int))] (hw h V) (RN (fun h1 => ∃ V1, h1 = hw h V1 ∧ (∀ a, a ≠ c + 28 → V1 a = V a) ∧ ∀ j < 153, V1 (c + 28) j = if j ∈ L.drop fr then 0 else V (c + 28) j)) := by
  obtain ⟨d, rfl⟩ : ∃ d1, d = d1 + 1 := ⟨d - 1, by omega⟩
  refine WP.enter (cd := cd_X0_forget) rfl ?_
  have hls : largs 0 [aO (some (c + 27)), aI ((fr : Int)), aI ((L.length : Int))] = [(0, aO (some (c + 27))), (1, aI ((fr : Int))), (2, aI ((L.length : Int)))] := rfl
  rw [hls]
  clear hls
  have l2 : ∀ (fuel : Nat) (i : Nat) (V1 : Nat → Nat → Int), (fr ≤ i ∧ i ≤ L.length) → (∀ a, a ≠ c + 28 → V1 a = V a) → (∀ j < 153, V1 (c + 28) j = if j ∈ (L.take i).drop fr then 0 else V (c + 28) j) → L.length - i < fuel → Wk w d cd_X0_forget 2 [(3, aI ((i : Int))), (0, aO (some (c + 27))), (1, aI ((fr : Int))), (2, aI ((L.length : Int)))] [] (hw h V1) (RN (fun h1 => ∃ V1, h1 = hw h V1 ∧ (∀ a, a ≠ c + 28 → V1 a = V a) ∧ ∀ j < 153, V1 (c + 28) j = if j ∈ L.drop fr then 0 else V (c + 28) j)) := by
    intro fuel
    induction fuel with
    | zero => intros; omega
    | succ fuel ih2 =>
      intro i V1 hi hf hz hfuel
      refine g_iload_n rfl rfl ?_
      refine g_if_lt_f rfl (by omega) ?_
      refine g_iload_n rfl rfl ?_
      refine g_iload_n rfl rfl ?_
      refine g_icmp_ge rfl (fun c8 => ?_) (fun c8 => ?_)
      · skip
        refine g_vret rfl ?_
        refine ⟨V1, rfl, hf, fun j hj => ?_⟩
        have h9 := hz j hj
        rw [List.take_of_length_le (by omega)] at h9
        exact h9
      · skip
        refine g_iload_n rfl rfl ?_
        refine g_bipush rfl ?_
        refine g_icmp_ge_f rfl (by omega) ?_
        refine g_aload_n rfl rfl ?_
        refine g_getR rfl (cs.kd 27 (by omega) rfl) (cs.rf 33 (by omega) rfl) ?_
        refine g_iload_n rfl rfl ?_
        refine g_iald (i := i) rfl (cs.ar 29 (by omega) rfl) (by omega) (by omega) ?_
        refine g_top (v2 := aI (((L[i]'(by omega) : Nat) : Int))) (congrArg aI (by show V1 (c + 29) i = _; rw [hf _ (by omega)]; exact hw9 i (by omega))) ?_
        refine g_istore (l1 := [(4, aI (((L[i]'(by omega) : Nat) : Int))), (3, aI ((i : Int))), (0, aO (some (c + 27))), (1, aI ((fr : Int))), (2, aI ((L.length : Int)))]) rfl rfl ?_
        refine g_iload rfl rfl ?_
        have hb1 : L[i]'(by omega) < 153 := hb _ (List.getElem_mem _)
        refine g_if_lt_f rfl (by omega) ?_
        refine g_iload rfl rfl ?_
        refine g_aload_n rfl rfl ?_
        refine g_getR rfl (cs.kd 27 (by omega) rfl) (cs.rf 32 (by omega) rfl) ?_
        refine g_alen rfl (cs.ar 28 (by omega) rfl) (by decide) ?_
        refine g_icmp_ge_f rfl (by omega) ?_
        refine g_aload_n rfl rfl ?_
        refine g_getR rfl (cs.kd 27 (by omega) rfl) (cs.rf 32 (by omega) rfl) ?_
        refine g_iload rfl rfl ?_
        refine g_iconst rfl ?_
        refine g_bast (i := (L[i]'(by omega))) rfl (cs.ar 28 (by omega) rfl) (by omega) (by omega) (by exact Or.inl rfl) ?_
        refine g_iinc (l1 := [(3, aI ((i : Int) + 1)), (4, aI (((L[i]'(by omega) : Nat) : Int))), (0, aO (some (c + 27))), (1, aI ((fr : Int))), (2, aI ((L.length : Int)))]) rfl rfl (by omega) (by omega) rfl ?_
        refine g_goto rfl ?_
        refine g_ls [0, 2, 3, 4] rfl rfl ?_
        exact ih2 (i + 1) (vset V1 (c + 28) (L[i]'(by omega)) 0) (by omega) (by intro a ha; funext j; rw [vset_ne _ _ _ _ (by omega), hf a ha]) (by intro j hj; exact fg_step hz (by omega) (by omega) hj) (by omega)
  refine g_iload_n rfl rfl ?_
  refine g_istore_n (l1 := [(3, aI ((fr : Int))), (0, aO (some (c + 27))), (1, aI ((fr : Int))), (2, aI ((L.length : Int)))]) rfl rfl ?_
  exact l2 _ fr V (by omega) (by intro a _; rfl) (by intro j hj; rw [if_neg]; simp [List.drop_eq_nil_of_le, List.length_take]) (Nat.lt_succ_self _)
