/-! the class judges a figure: printed by wip/whole/s63.py -/
def rchP (R : Nat) (Q : List Nat) (x y : Int) : Nat × List Nat := if x < 0 ∨ y < 0 ∨ 10 ≤ x ∨ 10 ≤ y ∨ 100 ≤ Q.length ∨ R.testBit (10 * y.toNat + x.toNat) = true then (R, Q) else (R ||| 2 ^ (10 * y.toNat + x.toNat), Q ++ [10 * y.toNat + x.toNat])
def holL (ch : List Nat) : Int := ch.foldl (fun a c => min a ((c % 17 : Nat) : Int)) 17
def holM (ch : List Nat) (lx : Int) (l : List Nat) : Nat := l.foldl (fun R c => (rchP R [] (((c % 17 : Nat) : Int) - lx + 1) (((c / 17 : Nat) : Int) + 1)).1) 0
def bfs4 (s : Nat × List Nat) (cl : Nat) : Nat × List Nat :=
  let s1 := rchP s.1 s.2 (((cl % 10 : Nat) : Int) + 1) ((cl / 10 : Nat) : Int)
  let s2 := rchP s1.1 s1.2 (((cl % 10 : Nat) : Int) - 1) ((cl / 10 : Nat) : Int)
  let s3 := rchP s2.1 s2.2 ((cl % 10 : Nat) : Int) (((cl / 10 : Nat) : Int) + 1)
  rchP s3.1 s3.2 ((cl % 10 : Nat) : Int) (((cl / 10 : Nat) : Int) - 1)
def bfs : Nat → Nat → Nat × List Nat → Nat × List Nat
  | 0, _, s => s
  | f + 1, i, s => if i < s.2.length then bfs f (i + 1) (bfs4 s (s.2.getD i 0)) else s
def holeB (n : Nat) (ch : List Nat) : Bool := decide ((bfs 100 0 (rchP (holM ch (holL ch) ch) [] 0 0)).2.length + n < 100)
/-- the cells reached, and those to be visited, in memory -/
def RS (V : Nat → Nat → Int) (c : Nat) (R : Nat) (Q : List Nat) : Prop := (∀ i < 100, V (c + 31) i = if R.testBit i = true then 1 else 0) ∧ (∀ i (hi : i < Q.length), V (c + 32) i = (Q[i] : Nat)) ∧ Q.length ≤ 100 ∧ ∀ x ∈ Q, x < 100
theorem RS.push {V : Nat → Nat → Int} {c R : Nat} {Q : List Nat} (r : RS V c R Q) {t : Nat} (ht : t < 100) (hq : Q.length < 100) : RS (vset (vset V (c + 31) t 1) (c + 32) Q.length t) c (R ||| 2 ^ t) (Q ++ [t]) := by
  obtain ⟨r1, r2, r3, r4⟩ := r
  refine ⟨fun i hi => ?_, fun i hi => ?_, by rw [List.length_append]; simp; omega, fun x hx => ?_⟩
  · rw [vset_ne _ _ _ _ (by omega), Nat.testBit_or]
    by_cases e : i = t
    · rw [e, vset_eq, Nat.testBit_two_pow_self, Bool.or_true, if_pos rfl]
    · rw [vset_ne _ _ _ _ (by omega), r1 i hi, Nat.testBit_two_pow_of_ne (fun q => e q.symm), Bool.or_false]
  · rw [List.length_append] at hi
    simp at hi
    by_cases e : i = Q.length
    · subst e
      rw [vset_eq]
      simp
    · rw [vset_ne _ _ _ _ (by omega), vset_ne _ _ _ _ (by omega), r2 i (by omega), List.getElem_append_left (by omega)]
  · rcases List.mem_append.mp hx with hx | hx
    · exact r4 x hx
    · simp at hx; omega
theorem RS.nil {V : Nat → Nat → Int} {c R : Nat} {Q : List Nat} (r : RS V c R Q) : RS V c R [] := ⟨r.1, fun i hi => by simp at hi, by simp, fun x hx => by cases hx⟩
def FR2 (V V1 : Nat → Nat → Int) (c : Nat) : Prop := ∀ a, a ≠ c + 31 → a ≠ c + 32 → V1 a = V a
set_option maxRecDepth 100000 in
theorem x_isLeast {w : aW} {d : Nat} (hd : 3 ≤ d) {h : aH} {c : Nat} (cs : CS h c) (V : Nat → Nat → Int) (n : Nat) (hn : V (c + 27) 13 = n) (hn8 : n ≤ 8) (ch : List Nat) (hcl : ch.length = n) (hch : ∀ i (hi : i < n), V (c + 30) i = (ch[i]'(by omega) : Nat)) (hcb : ∀ x ∈ ch, x < 153) (kd : Nat) (hkd : V (c + 27) 12 = kd) (hk : leastK ch = true) : WP w d 14 [aO (some (c + 27))] (hw h V) (RI (fun r h1 => h1 = hw h V ∧ r = if leastB kd ch = true then 1 else 0)) := by
  obtain ⟨d, rfl⟩ : ∃ d1, d = d1 + 1 := ⟨d - 1, by omega⟩
  refine WP.enter (cd := cd_X0_isLeastImage) rfl ?_
  have hk4 : ∀ q, q < 4 → imgK ch q false = true ∧ imgK ch q true = true := fun q hq => by
    have := List.all_eq_true.mp hk q (List.mem_range.mpr hq)
    rwa [Bool.and_eq_true] at this
  have hls : largs 0 [aO (some (c + 27))] = [(0, aO (some (c + 27)))] := rfl
  rw [hls]
  clear hls
  have l9 : ∀ (fuel : Nat) (q : Nat), (q ≤ 4) → (∀ j < q, (fun q => !decide (img ch q false < img ch 0 false) && !(kd == 2 && decide (img ch q true < img ch 0 false))) j = true) → 4 - q < fuel → Wk w d cd_X0_isLeastImage 9 [(3, aI ((q : Int))), (1, aJ ((img ch 0 false : Nat))), (0, aO (some (c + 27)))] [] (hw h V) (RI (fun r h1 => h1 = hw h V ∧ r = if leastB kd ch = true then 1 else 0)) := by
    intro fuel
    induction fuel with
    | zero => intros; omega
    | succ fuel ih9 =>
      intro q hq hall hfuel
      refine g_iload_n rfl rfl ?_
      refine g_iconst rfl ?_
      refine g_icmp_ge rfl (fun c11 => ?_) (fun c11 => ?_)
      · skip
        refine g_iconst rfl ?_
        refine g_zret rfl (by omega) ?_
        refine ⟨rfl, (if_pos ?_).symm⟩
        refine List.all_eq_true.mpr fun j hj => hall j (by have := List.mem_range.mp hj; omega)
      · skip
        refine g_aload_n rfl rfl ?_
        refine g_iload_n rfl rfl ?_
        refine g_iconst rfl ?_
        refine g_callVJ [aI ((q : Int)), aI 0] [] rfl rfl rfl rfl (Nat.le_of_ble_eq_true rfl) (cs.kd 27 (by omega) rfl) (x_image (by omega) cs V n hn hn8 ch hcl hch hcb (q) (by omega) false (by exact (hk4 q (by omega)).1)) ?_
        rintro _ _ ⟨rfl, rfl⟩
        refine g_lload_n rfl rfl ?_
        refine g_lc_lt rfl rfl (fun c21 => ?_) (fun c21 => ?_)
        · skip
          refine g_iconst rfl ?_
          refine g_zret rfl (by omega) ?_
          refine ⟨rfl, (if_neg fun u => ?_).symm⟩
          have := List.all_eq_true.mp u q (List.mem_range.mpr (by omega))
          simp only [Bool.and_eq_true, Bool.not_eq_true', decide_eq_false_iff_not, Bool.and_eq_false_iff, beq_eq_false_iff_ne, ne_eq] at this
          omega
        · skip
          refine g_aload_n rfl rfl ?_
          refine g_getI rfl (cs.kd 27 (by omega) rfl) ?_
          refine g_top (v2 := aI ((kd : Int))) (congrArg aI (by show V (c + 27) 12 = (kd : Int); exact hkd)) ?_
          refine g_iconst rfl ?_
          refine g_icmp_ne rfl (fun c30 => ?_) (fun c30 => ?_)
          · skip
            refine g_iinc (l1 := [(3, aI ((q : Int) + 1)), (1, aJ ((img ch 0 false : Nat))), (0, aO (some (c + 27)))]) rfl rfl (by omega) (by omega) rfl ?_
            refine g_goto rfl ?_
            exact ih9 (q + 1) (by omega) (by intro j hj; by_cases e : j = q; (rw [e]; simp only [Bool.and_eq_true, Bool.not_eq_true', decide_eq_false_iff_not, Bool.and_eq_false_iff, beq_eq_false_iff_ne, ne_eq, beq_iff_eq]; omega); exact hall j (by omega)) (by omega)
          · skip
            refine g_aload_n rfl rfl ?_
            refine g_iload_n rfl rfl ?_
            refine g_iconst rfl ?_
            refine g_callVJ [aI ((q : Int)), aI 1] [] rfl rfl rfl rfl (Nat.le_of_ble_eq_true rfl) (cs.kd 27 (by omega) rfl) (x_image (by omega) cs V n hn hn8 ch hcl hch hcb (q) (by omega) true (by exact (hk4 q (by omega)).2)) ?_
            rintro _ _ ⟨rfl, rfl⟩
            refine g_lload_n rfl rfl ?_
            refine g_lc_ge rfl rfl (fun c40 => ?_) (fun c40 => ?_)
            · skip
              refine g_iinc (l1 := [(3, aI ((q : Int) + 1)), (1, aJ ((img ch 0 false : Nat))), (0, aO (some (c + 27)))]) rfl rfl (by omega) (by omega) rfl ?_
              refine g_goto rfl ?_
              exact ih9 (q + 1) (by omega) (by intro j hj; by_cases e : j = q; (rw [e]; simp only [Bool.and_eq_true, Bool.not_eq_true', decide_eq_false_iff_not, Bool.and_eq_false_iff, beq_eq_false_iff_ne, ne_eq, beq_iff_eq]; omega); exact hall j (by omega)) (by omega)
            · skip
              refine g_iconst rfl ?_
              refine g_zret rfl (by omega) ?_
              refine ⟨rfl, (if_neg fun u => ?_).symm⟩
              have := List.all_eq_true.mp u q (List.mem_range.mpr (by omega))
              simp only [Bool.and_eq_true, Bool.not_eq_true', decide_eq_false_iff_not, Bool.and_eq_false_iff, beq_eq_false_iff_ne, ne_eq] at this
              omega
  refine g_aload_n rfl rfl ?_
  refine g_iconst rfl ?_
  refine g_iconst rfl ?_
  refine g_callVJ [aI 0, aI 0] [] rfl rfl rfl rfl (Nat.le_of_ble_eq_true rfl) (cs.kd 27 (by omega) rfl) (x_image (by omega) cs V n hn hn8 ch hcl hch hcb (0) (by omega) false (by exact (hk4 0 (by omega)).1)) ?_
  rintro _ _ ⟨rfl, rfl⟩
  refine g_lstore_n (l1 := [(1, aJ ((img ch (0) false : Nat))), (0, aO (some (c + 27)))]) rfl rfl ?_
  refine g_iconst rfl ?_
  refine g_istore_n (l1 := [(3, aI 0), (1, aJ ((img ch (0) false : Nat))), (0, aO (some (c + 27)))]) rfl rfl ?_
  exact l9 _ 0 (by omega) (by intro j hj; omega) (Nat.lt_succ_self _)
set_option maxRecDepth 100000 in
theorem x_reach {w : aW} {d : Nat} (hd : 1 ≤ d) {h : aH} {c : Nat} (cs : CS h c) (V : Nat → Nat → Int) (R : Nat) (Q : List Nat) (rs : RS V c R Q) (x y : Int) (hx : -100 ≤ x ∧ x ≤ 100) (hy : -100 ≤ y ∧ y ≤ 100) : WP w d 18 [aO (some (c + 27)), aI x, aI y, aI ((Q.length : Int))] (hw h V) (RI (fun r h1 => ∃ V1, h1 = hw h V1 ∧ FR2 V V1 c ∧ RS V1 c (rchP R Q x y).1 (rchP R Q x y).2 ∧ r = ((rchP R Q x y).2.length : Nat))) := by
  obtain ⟨d, rfl⟩ : ∃ d1, d = d1 + 1 := ⟨d - 1, by omega⟩
  refine WP.enter (cd := cd_X0_reach) rfl ?_
  have hr3 := rs.2.2.1
  have hls : largs 0 [aO (some (c + 27)), aI x, aI y, aI ((Q.length : Int))] = [(0, aO (some (c + 27))), (1, aI x), (2, aI y), (3, aI ((Q.length : Int)))] := rfl
  rw [hls]
  clear hls
  refine g_iload_n rfl rfl ?_
  refine g_if_lt rfl (fun c1 => ?_) (fun c1 => ?_)
  · skip
    refine g_iload_n rfl rfl ?_
    refine g_iret rfl ?_
    refine ⟨V, rfl, fun _ _ _ => rfl, ?_⟩
    have e : rchP R Q x y = (R, Q) := by
      unfold rchP
      refine if_pos ?_
      first | omega | exact Or.inr (Or.inr (Or.inr (Or.inr (Or.inr (by assumption)))))
    rw [e]
    exact ⟨rs, rfl⟩
  · skip
    refine g_iload_n rfl rfl ?_
    refine g_if_lt rfl (fun c5 => ?_) (fun c5 => ?_)
    · skip
      refine g_iload_n rfl rfl ?_
      refine g_iret rfl ?_
      refine ⟨V, rfl, fun _ _ _ => rfl, ?_⟩
      have e : rchP R Q x y = (R, Q) := by
        unfold rchP
        refine if_pos ?_
        first | omega | exact Or.inr (Or.inr (Or.inr (Or.inr (Or.inr (by assumption)))))
      rw [e]
      exact ⟨rs, rfl⟩
    · skip
      refine g_iload_n rfl rfl ?_
      refine g_bipush rfl ?_
      refine g_icmp_ge rfl (fun c11 => ?_) (fun c11 => ?_)
      · skip
        refine g_iload_n rfl rfl ?_
        refine g_iret rfl ?_
        refine ⟨V, rfl, fun _ _ _ => rfl, ?_⟩
        have e : rchP R Q x y = (R, Q) := by
          unfold rchP
          refine if_pos ?_
          first | omega | exact Or.inr (Or.inr (Or.inr (Or.inr (Or.inr (by assumption)))))
        rw [e]
        exact ⟨rs, rfl⟩
      · skip
        refine g_iload_n rfl rfl ?_
        refine g_bipush rfl ?_
        refine g_icmp_ge rfl (fun c17 => ?_) (fun c17 => ?_)
        · skip
          refine g_iload_n rfl rfl ?_
          refine g_iret rfl ?_
          refine ⟨V, rfl, fun _ _ _ => rfl, ?_⟩
          have e : rchP R Q x y = (R, Q) := by
            unfold rchP
            refine if_pos ?_
            first | omega | exact Or.inr (Or.inr (Or.inr (Or.inr (Or.inr (by assumption)))))
          rw [e]
          exact ⟨rs, rfl⟩
        · skip
          refine g_iload_n rfl rfl ?_
          refine g_if_lt_f rfl (by omega) ?_
          refine g_iload_n rfl rfl ?_
          refine g_aload_n rfl rfl ?_
          refine g_getR rfl (cs.kd 27 (by omega) rfl) (cs.rf 36 (by omega) rfl) ?_
          refine g_alen rfl (cs.ar 32 (by omega) rfl) (by decide) ?_
          refine g_icmp_ge rfl (fun c30 => ?_) (fun c30 => ?_)
          · skip
            refine g_iload_n rfl rfl ?_
            refine g_iret rfl ?_
            refine ⟨V, rfl, fun _ _ _ => rfl, ?_⟩
            have e : rchP R Q x y = (R, Q) := by
              unfold rchP
              refine if_pos ?_
              first | omega | exact Or.inr (Or.inr (Or.inr (Or.inr (Or.inr (by assumption)))))
            rw [e]
            exact ⟨rs, rfl⟩
          · skip
            refine g_aload_n rfl rfl ?_
            refine g_getR rfl (cs.kd 27 (by omega) rfl) (cs.rf 35 (by omega) rfl) ?_
            refine g_iload_n rfl rfl ?_
            refine g_bipush rfl ?_
            refine g_imul rfl (by omega) (by omega) ?_
            refine g_iload_n rfl rfl ?_
            refine g_iadd rfl (by omega) (by omega) ?_
            refine g_bald (i := 10 * y.toNat + x.toNat) rfl (cs.ar 31 (by omega) rfl) (by omega) (by omega) ?_
            refine g_top (v2 := aI (if R.testBit (10 * y.toNat + x.toNat) = true then 1 else 0)) (congrArg aI (by show V (c + 31) (10 * y.toNat + x.toNat) = _; exact rs.1 _ (by omega))) ?_
            refine g_b_eq rfl (fun c44 => ?_) (fun c44 => ?_)
            · skip
              refine g_aload_n rfl rfl ?_
              refine g_getR rfl (cs.kd 27 (by omega) rfl) (cs.rf 35 (by omega) rfl) ?_
              refine g_iload_n rfl rfl ?_
              refine g_bipush rfl ?_
              refine g_imul rfl (by omega) (by omega) ?_
              refine g_iload_n rfl rfl ?_
              refine g_iadd rfl (by omega) (by omega) ?_
              refine g_iconst rfl ?_
              refine g_bast (i := 10 * y.toNat + x.toNat) rfl (cs.ar 31 (by omega) rfl) (by omega) (by omega) (by exact Or.inr rfl) ?_
              refine g_aload_n rfl rfl ?_
              refine g_getR rfl (cs.kd 27 (by omega) rfl) (cs.rf 36 (by omega) rfl) ?_
              refine g_iload_n rfl rfl ?_
              refine g_iload_n rfl rfl ?_
              refine g_bipush rfl ?_
              refine g_imul rfl (by omega) (by omega) ?_
              refine g_iload_n rfl rfl ?_
              refine g_iadd rfl (by omega) (by omega) ?_
              refine g_iast (i := Q.length) rfl (cs.ar 32 (by omega) rfl) (by omega) (by omega) ?_
              refine g_iload_n rfl rfl ?_
              refine g_iconst rfl ?_
              refine g_iadd rfl (by omega) (by omega) ?_
              refine g_iret rfl ?_
              have e : rchP R Q x y = (R ||| 2 ^ (10 * y.toNat + x.toNat), Q ++ [10 * y.toNat + x.toNat]) := by
                unfold rchP
                refine if_neg ?_
                rintro (u | u | u | u | u | u)
                · omega
                · omega
                · omega
                · omega
                · omega
                · exact absurd u (by assumption)
              rw [e]
              have e2 : y * 10 + x = ((10 * y.toNat + x.toNat : Nat) : Int) := by omega
              refine ⟨vset (vset V (c + 31) (10 * y.toNat + x.toNat) 1) (c + 32) Q.length ((10 * y.toNat + x.toNat : Nat) : Int), by rw [← e2]; rfl, fun a h1 h2 => ?_, rs.push (by omega) (by omega), ?_⟩
              · funext j
                rw [vset_ne _ _ _ _ (by omega), vset_ne _ _ _ _ (by omega)]
              · simp
            · skip
              refine g_iload_n rfl rfl ?_
              refine g_iret rfl ?_
              refine ⟨V, rfl, fun _ _ _ => rfl, ?_⟩
              have e : rchP R Q x y = (R, Q) := by
                unfold rchP
                refine if_pos ?_
                first | omega | exact Or.inr (Or.inr (Or.inr (Or.inr (Or.inr (by assumption)))))
              rw [e]
              exact ⟨rs, rfl⟩
