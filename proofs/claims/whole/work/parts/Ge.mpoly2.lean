/-! the reference's polygons, loops: printed by wip/whole/ge_.py -/
abbrev gOnly (S : aS) (p a b q : Nat) : Prop := ¬(¬ gSame S p q b ∧ gOn S p a b q) ∧ ¬(¬ gSame S p a b ∧ gOn S p b q a)
/-- what the reference wants of two sides -/
abbrev gPr (S : aS) (p i j : Nat) : Prop := ¬ gSame S p i j ∧ (j = i + 1 → gOnly S p i (gAft S p i) (gAft S p j)) ∧ ((i = 0 ∧ j = sGn S p - 1) → gOnly S p j i (gAft S p i)) ∧ ((j ≠ i + 1 ∧ ¬(i = 0 ∧ j = sGn S p - 1)) → ¬ gMeet S p i (gAft S p i) j (gAft S p j))
def gSim2 (S : aS) (p : Nat) : Prop := 3 ≤ sGn S p ∧ ∀ i j, i < j → j < sGn S p → gPr S p i j
theorem minl {v u : Int} : min v u ≤ 0 ∧ 0 ≤ max v u ↔ ¬ oneS v u := by
  unfold oneS
  omega
set_option maxRecDepth 100000 in
theorem m_pgSim {w : aW} {d : Nat} (hd : 5 ≤ d) {h : aH} {o : Nat} (ms : MS h o) (V : Nat → Nat → Int) {S : aS} (mg : MG V o S) (ok : OkG S) (p : Nat) (hp : p < sG S) : WP w d 338 [aO (some o), aI ((p : Int))] (hw h V) (RI (fun r h1 => h1 = hw h V ∧ r = if bt (gSim2 S p) = true then 1 else 0)) := by
  obtain ⟨d, rfl⟩ : ∃ d1, d = d1 + 1 := ⟨d - 1, by omega⟩
  refine WP.enter (cd := cd_X12_isSimple) rfl ?_
  have hok := ok.1
  have hok2 := (ok.2 p hp).1
  have hls : largs 0 [aO (some o), aI ((p : Int))] = [(0, aO (some o)), (1, aI ((p : Int)))] := rfl
  rw [hls]
  clear hls
  have l21 : ∀ (fuel : Nat) (i : Nat) (s : Int), (i ≤ sGn S p) → ((s = 1 ∧ 3 ≤ sGn S p ∧ ∀ a b, a < i → a < b → b < sGn S p → gPr S p a b) ∨ (s = 0 ∧ ¬ gSim2 S p)) → sGn S p - i < fuel → Wk w d cd_X12_isSimple 21 [(4, aI ((i : Int))), (3, aI s), (2, aI (((sGn S p : Nat) : Int))), (0, aO (some o)), (1, aI ((p : Int)))] [] (hw h V) (RI (fun r h1 => h1 = hw h V ∧ r = if bt (gSim2 S p) = true then 1 else 0)) := by
    intro fuel
    induction fuel with
    | zero => intros; omega
    | succ fuel ih21 =>
      intro i s hi hs hfuel
      have hok := ok.1
      have hok2 := (ok.2 p hp).1
      have l37 : ∀ (fuel : Nat) (j : Nat) (s : Int), (i + 1 ≤ j) → (j ≤ sGn S p) → ((s = 1 ∧ ∀ b, i < b → b < j → gPr S p i b) ∨ (s = 0 ∧ ∃ b, i < b ∧ b < sGn S p ∧ ¬ gPr S p i b)) → sGn S p - j < fuel → Wk w d cd_X12_isSimple 37 [(5, aI ((j : Int))), (4, aI ((i : Int))), (3, aI s), (2, aI (((sGn S p : Nat) : Int))), (0, aO (some o)), (1, aI ((p : Int)))] [] (hw h V) (RI (fun r h1 => h1 = hw h V ∧ r = if bt (gSim2 S p) = true then 1 else 0)) := by
        intro fuel
        induction fuel with
        | zero => intros; omega
        | succ fuel ih37 =>
          intro j s hj hj2 hq hfuel
          refine g_iload rfl rfl ?_
          refine g_iload_n rfl rfl ?_
          refine g_icmp_ge rfl (fun cq40 => ?_) (fun cq40 => ?_)
          · skip
            refine g_iinc (l1 := [(4, aI ((i : Int) + 1)), (5, aI ((j : Int))), (3, aI s), (2, aI (((sGn S p : Nat) : Int))), (0, aO (some o)), (1, aI ((p : Int)))]) rfl rfl (by (try clear cq147); (try clear cq119); (try clear cq96); omega) (by (try clear cq147); (try clear cq119); (try clear cq96); omega) rfl ?_
            refine g_goto rfl ?_
            refine g_ls [0, 2, 3, 4, 5] rfl rfl ?_
            exact ih21 (i + 1) _ (by (try clear cq147); (try clear cq119); (try clear cq96); omega) (by exact hq.elim (fun z => Or.inl ⟨z.1, by omega, fun a b h1 h2 h3 => if e : a = i then by subst e; exact z.2 b h2 (by omega) else (hs.elim (fun y => y.2.2 a b (by omega) h2 h3) (fun y => by omega))⟩) (fun z => Or.inr ⟨z.1, fun y => by obtain ⟨b, h1, h2, h3⟩ := z.2; exact h3 (y.2 i b h1 h2)⟩)) (by (try clear cq147); (try clear cq119); (try clear cq96); omega)
          · skip
            refine g_iload_n rfl rfl ?_
            refine g_if_eq rfl (fun cq44 => ?_) (fun cq44 => ?_)
            · skip
              refine g_iinc (l1 := [(4, aI ((i : Int) + 1)), (5, aI ((j : Int))), (3, aI s), (2, aI (((sGn S p : Nat) : Int))), (0, aO (some o)), (1, aI ((p : Int)))]) rfl rfl (by (try clear cq147); (try clear cq119); (try clear cq96); omega) (by (try clear cq147); (try clear cq119); (try clear cq96); omega) rfl ?_
              refine g_goto rfl ?_
              refine g_ls [0, 2, 3, 4, 5] rfl rfl ?_
              exact ih21 (i + 1) _ (by (try clear cq147); (try clear cq119); (try clear cq96); omega) (by exact hq.elim (fun z => Or.inl ⟨z.1, by omega, fun a b h1 h2 h3 => if e : a = i then by subst e; exact z.2 b h2 (by omega) else (hs.elim (fun y => y.2.2 a b (by omega) h2 h3) (fun y => by omega))⟩) (fun z => Or.inr ⟨z.1, fun y => by obtain ⟨b, h1, h2, h3⟩ := z.2; exact h3 (y.2 i b h1 h2)⟩)) (by (try clear cq147); (try clear cq119); (try clear cq96); omega)
            · skip
              have li := gAft_lt (S := S) (p := p) (i := i) (by omega)
              have lj := gAft_lt (S := S) (p := p) (i := j) (by omega)
              refine g_aload_n rfl rfl ?_
              refine g_iload_n rfl rfl ?_
              refine g_iload rfl rfl ?_
              refine g_callVI [aI ((p : Int)), aI ((i : Int))] [] rfl rfl rfl rfl (Nat.le_of_ble_eq_true rfl) ms.1 (m_pgAt0 (by omega) ms V mg ok p hp i (by omega)) ?_
              rintro r1 hx1 ⟨ehx1, rfl⟩
              rw [ehx1]
              clear ehx1 hx1
              refine g_istore (l1 := [(6, aI ((12 * p + i : Int))), (5, aI ((j : Int))), (4, aI ((i : Int))), (3, aI s), (2, aI (((sGn S p : Nat) : Int))), (0, aO (some o)), (1, aI ((p : Int)))]) rfl rfl ?_
              refine g_aload_n rfl rfl ?_
              refine g_iload_n rfl rfl ?_
              refine g_iload rfl rfl ?_
              refine g_iconst rfl ?_
              refine g_iadd rfl (by (try clear cq147); (try clear cq119); (try clear cq96); omega) (by (try clear cq147); (try clear cq119); (try clear cq96); omega) ?_
              refine g_callVI [aI ((p : Int)), aI (((i : Int)) + 1)] [] rfl rfl rfl rfl (Nat.le_of_ble_eq_true rfl) ms.1 (m_pgAt1 (by omega) ms V mg ok p hp i (by omega)) ?_
              rintro r2 hx2 ⟨ehx2, rfl⟩
              rw [ehx2]
              clear ehx2 hx2
              refine g_istore (l1 := [(7, aI (((12 * p + (gAft S p i) : Nat) : Int))), (6, aI ((12 * p + i : Int))), (5, aI ((j : Int))), (4, aI ((i : Int))), (3, aI s), (2, aI (((sGn S p : Nat) : Int))), (0, aO (some o)), (1, aI ((p : Int)))]) rfl rfl ?_
              refine g_aload_n rfl rfl ?_
              refine g_iload_n rfl rfl ?_
              refine g_iload rfl rfl ?_
              refine g_callVI [aI ((p : Int)), aI ((j : Int))] [] rfl rfl rfl rfl (Nat.le_of_ble_eq_true rfl) ms.1 (m_pgAt0 (by omega) ms V mg ok p hp j (by omega)) ?_
              rintro r3 hx3 ⟨ehx3, rfl⟩
              rw [ehx3]
              clear ehx3 hx3
              refine g_istore (l1 := [(8, aI ((12 * p + j : Int))), (7, aI (((12 * p + (gAft S p i) : Nat) : Int))), (6, aI ((12 * p + i : Int))), (5, aI ((j : Int))), (4, aI ((i : Int))), (3, aI s), (2, aI (((sGn S p : Nat) : Int))), (0, aO (some o)), (1, aI ((p : Int)))]) rfl rfl ?_
              refine g_aload_n rfl rfl ?_
              refine g_iload_n rfl rfl ?_
              refine g_iload rfl rfl ?_
              refine g_iconst rfl ?_
              refine g_iadd rfl (by (try clear cq147); (try clear cq119); (try clear cq96); omega) (by (try clear cq147); (try clear cq119); (try clear cq96); omega) ?_
              refine g_callVI [aI ((p : Int)), aI (((j : Int)) + 1)] [] rfl rfl rfl rfl (Nat.le_of_ble_eq_true rfl) ms.1 (m_pgAt1 (by omega) ms V mg ok p hp j (by omega)) ?_
              rintro r4 hx4 ⟨ehx4, rfl⟩
              rw [ehx4]
              clear ehx4 hx4
              refine g_istore (l1 := [(9, aI (((12 * p + (gAft S p j) : Nat) : Int))), (8, aI ((12 * p + j : Int))), (7, aI (((12 * p + (gAft S p i) : Nat) : Int))), (6, aI ((12 * p + i : Int))), (5, aI ((j : Int))), (4, aI ((i : Int))), (3, aI s), (2, aI (((sGn S p : Nat) : Int))), (0, aO (some o)), (1, aI ((p : Int)))]) rfl rfl ?_
              refine g_aload_n rfl rfl ?_
              refine g_iload rfl rfl ?_
              refine g_iload rfl rfl ?_
              refine g_callVI [aI ((12 * p + i : Int)), aI ((12 * p + j : Int))] [] rfl rfl rfl rfl (Nat.le_of_ble_eq_true rfl) ms.1 (m_pgOther (by omega) ms V mg ok p hp i (by omega) j (by omega)) ?_
              rintro r5 hx5 ⟨ehx5, rfl⟩
              rw [ehx5]
              clear ehx5 hx5
              by_cases cq96 : ¬ gSame S p i j
              · refine g_top (v2 := aI 1) (congrArg aI (if_pos cq96)) ?_
                refine g_istore_n (l1 := [(3, aI 1), (9, aI (((12 * p + (gAft S p j) : Nat) : Int))), (8, aI ((12 * p + j : Int))), (7, aI (((12 * p + (gAft S p i) : Nat) : Int))), (6, aI ((12 * p + i : Int))), (5, aI ((j : Int))), (4, aI ((i : Int))), (2, aI (((sGn S p : Nat) : Int))), (0, aO (some o)), (1, aI ((p : Int)))]) rfl rfl ?_
                refine g_iload_n rfl rfl ?_
                refine g_if_eq_f rfl (by (try clear cq147); (try clear cq119); (try clear cq96); omega) ?_
                refine g_iload rfl rfl ?_
                refine g_iload rfl rfl ?_
                refine g_iconst rfl ?_
                refine g_iadd rfl (by (try clear cq147); (try clear cq119); (try clear cq96); omega) (by (try clear cq147); (try clear cq119); (try clear cq96); omega) ?_
                refine g_icmp_ne rfl (fun cq106 => ?_) (fun cq106 => ?_)
                · skip
                  refine g_iload_n rfl rfl ?_
                  refine g_if_eq_f rfl (by (try clear cq147); (try clear cq119); (try clear cq96); omega) ?_
                  refine g_iload rfl rfl ?_
                  refine g_if_ne rfl (fun cq126 => ?_) (fun cq126 => ?_)
                  · skip
                    refine g_iload_n rfl rfl ?_
                    refine g_if_eq_f rfl (by (try clear cq147); (try clear cq119); (try clear cq96); omega) ?_
                    refine g_iload rfl rfl ?_
                    refine g_iload rfl rfl ?_
                    refine g_iconst rfl ?_
                    refine g_iadd rfl (by (try clear cq147); (try clear cq119); (try clear cq96); omega) (by (try clear cq147); (try clear cq119); (try clear cq96); omega) ?_
                    refine g_icmp_eq rfl (fun cq158 => ?_) (fun cq158 => ?_)
                    · skip
                      refine g_iinc (l1 := [(5, aI ((j : Int) + 1)), (3, aI 1), (9, aI (((12 * p + (gAft S p j) : Nat) : Int))), (8, aI ((12 * p + j : Int))), (7, aI (((12 * p + (gAft S p i) : Nat) : Int))), (6, aI ((12 * p + i : Int))), (4, aI ((i : Int))), (2, aI (((sGn S p : Nat) : Int))), (0, aO (some o)), (1, aI ((p : Int)))]) rfl rfl (by (try clear cq147); (try clear cq119); (try clear cq96); omega) (by (try clear cq147); (try clear cq119); (try clear cq96); omega) rfl ?_
                      refine g_goto rfl ?_
                      refine g_ls [0, 6, 1, 7, 8, 9] rfl rfl ?_
                      exact ih37 (j + 1) _ (by (try clear cq147); (try clear cq119); (try clear cq96); omega) (by (try clear cq147); (try clear cq119); (try clear cq96); omega) (by 
                                                                                                                                                                                                                                                                                                                                                                                                                exact Or.inl ⟨by omega, fun b h1 h2 => if e : b = j then by
                                                                                                                                                                                                                                                                                                                                                                                                                    subst e
                                                                                                                                                                                                                                                                                                                                                                                                                    refine ⟨cq96, fun z => ?_, fun z => ?_, fun z => ?_⟩
                                                                                                                                                                                                                                                                                                                                                                                                                    · first
                                                                                                                                                                                                                                                                                                                                                                                                                        | (exfalso; omega)
                                                                                                                                                                                                                                                                                                                                                                                                                        | exact cq119
                                                                                                                                                                                                                                                                                                                                                                                                                    · first
                                                                                                                                                                                                                                                                                                                                                                                                                        | (exfalso; omega)
                                                                                                                                                                                                                                                                                                                                                                                                                        | exact cq147
                                                                                                                                                                                                                                                                                                                                                                                                                    · first
                                                                                                                                                                                                                                                                                                                                                                                                                        | (exfalso; omega)
                                                                                                                                                                                                                                                                                                                                                                                                                        | exact cq186
                                                                                                                                                                                                                                                                                                                                                                                                                  else (hq.elim (fun z => z.2 b h1 (by omega)) (fun z => by omega))⟩) (by (try clear cq147); (try clear cq119); (try clear cq96); omega)
                    · skip
                      refine g_iload rfl rfl ?_
                      refine g_if_ne rfl (fun cq163 => ?_) (fun cq163 => ?_)
                      · skip
                        refine g_aload_n rfl rfl ?_
                        refine g_iload rfl rfl ?_
                        refine g_iload rfl rfl ?_
                        refine g_iload rfl rfl ?_
                        refine g_iload rfl rfl ?_
                        refine g_callVI [aI ((12 * p + i : Int)), aI (((12 * p + (gAft S p i) : Nat) : Int)), aI ((12 * p + j : Int)), aI (((12 * p + (gAft S p j) : Nat) : Int))] [] rfl rfl rfl rfl (Nat.le_of_ble_eq_true rfl) ms.1 (m_pgMeets (by omega) ms V mg ok p hp i (by omega) (gAft S p i) (by omega) j (by omega) (gAft S p j) (by omega)) ?_
                        rintro r6 hx6 ⟨ehx6, rfl⟩
                        rw [ehx6]
                        clear ehx6 hx6
                        refine g_b_ne rfl (fun cq186 => ?_) (fun cq186 => ?_)
                        · skip
                          refine g_iconst rfl ?_
                          refine g_istore_n (l1 := [(3, aI 0), (9, aI (((12 * p + (gAft S p j) : Nat) : Int))), (8, aI ((12 * p + j : Int))), (7, aI (((12 * p + (gAft S p i) : Nat) : Int))), (6, aI ((12 * p + i : Int))), (5, aI ((j : Int))), (4, aI ((i : Int))), (2, aI (((sGn S p : Nat) : Int))), (0, aO (some o)), (1, aI ((p : Int)))]) rfl rfl ?_
                          refine g_iinc (l1 := [(5, aI ((j : Int) + 1)), (3, aI 0), (9, aI (((12 * p + (gAft S p j) : Nat) : Int))), (8, aI ((12 * p + j : Int))), (7, aI (((12 * p + (gAft S p i) : Nat) : Int))), (6, aI ((12 * p + i : Int))), (4, aI ((i : Int))), (2, aI (((sGn S p : Nat) : Int))), (0, aO (some o)), (1, aI ((p : Int)))]) rfl rfl (by (try clear cq147); (try clear cq119); (try clear cq96); omega) (by (try clear cq147); (try clear cq119); (try clear cq96); omega) rfl ?_
                          refine g_goto rfl ?_
                          refine g_ls [0, 6, 1, 7, 8, 9] rfl rfl ?_
                          exact ih37 (j + 1) _ (by (try clear cq147); (try clear cq119); (try clear cq96); omega) (by (try clear cq147); (try clear cq119); (try clear cq96); omega) (by 
                                                                                                                                                                                                                                                                                                                                                                                                                exact Or.inr ⟨by omega, j, by omega, by omega, fun z => by
                                                                                                                                                                                                                                                                                                                                                                                                                  obtain ⟨z1, z2, z3, z4⟩ := z
                                                                                                                                                                                                                                                                                                                                                                                                                  first
                                                                                                                                                                                                                                                                                                                                                                                                                    | (exact cq96 z1)
                                                                                                                                                                                                                                                                                                                                                                                                                    | (have z2 := z2 (by omega); exact cq119 z2)
                                                                                                                                                                                                                                                                                                                                                                                                                    | (have z3 := z3 (by omega); exact cq147 z3)
                                                                                                                                                                                                                                                                                                                                                                                                                    | (have z4 := z4 (by omega); exact z4 cq186)⟩) (by (try clear cq147); (try clear cq119); (try clear cq96); omega)
                        · skip
                          refine g_iconst rfl ?_
                          refine g_goto rfl ?_
                          refine g_istore_n (l1 := [(3, aI 1), (9, aI (((12 * p + (gAft S p j) : Nat) : Int))), (8, aI ((12 * p + j : Int))), (7, aI (((12 * p + (gAft S p i) : Nat) : Int))), (6, aI ((12 * p + i : Int))), (5, aI ((j : Int))), (4, aI ((i : Int))), (2, aI (((sGn S p : Nat) : Int))), (0, aO (some o)), (1, aI ((p : Int)))]) rfl rfl ?_
                          refine g_iinc (l1 := [(5, aI ((j : Int) + 1)), (3, aI 1), (9, aI (((12 * p + (gAft S p j) : Nat) : Int))), (8, aI ((12 * p + j : Int))), (7, aI (((12 * p + (gAft S p i) : Nat) : Int))), (6, aI ((12 * p + i : Int))), (4, aI ((i : Int))), (2, aI (((sGn S p : Nat) : Int))), (0, aO (some o)), (1, aI ((p : Int)))]) rfl rfl (by (try clear cq147); (try clear cq119); (try clear cq96); omega) (by (try clear cq147); (try clear cq119); (try clear cq96); omega) rfl ?_
                          refine g_goto rfl ?_
                          refine g_ls [0, 6, 1, 7, 8, 9] rfl rfl ?_
                          exact ih37 (j + 1) _ (by (try clear cq147); (try clear cq119); (try clear cq96); omega) (by (try clear cq147); (try clear cq119); (try clear cq96); omega) (by 
                                                                                                                                                                                                                                                                                                                                                                                                                exact Or.inl ⟨by omega, fun b h1 h2 => if e : b = j then by
                                                                                                                                                                                                                                                                                                                                                                                                                    subst e
                                                                                                                                                                                                                                                                                                                                                                                                                    refine ⟨cq96, fun z => ?_, fun z => ?_, fun z => ?_⟩
                                                                                                                                                                                                                                                                                                                                                                                                                    · first
                                                                                                                                                                                                                                                                                                                                                                                                                        | (exfalso; omega)
                                                                                                                                                                                                                                                                                                                                                                                                                        | exact cq119
                                                                                                                                                                                                                                                                                                                                                                                                                    · first
                                                                                                                                                                                                                                                                                                                                                                                                                        | (exfalso; omega)
                                                                                                                                                                                                                                                                                                                                                                                                                        | exact cq147
                                                                                                                                                                                                                                                                                                                                                                                                                    · first
                                                                                                                                                                                                                                                                                                                                                                                                                        | (exfalso; omega)
                                                                                                                                                                                                                                                                                                                                                                                                                        | exact cq186
                                                                                                                                                                                                                                                                                                                                                                                                                  else (hq.elim (fun z => z.2 b h1 (by omega)) (fun z => by omega))⟩) (by (try clear cq147); (try clear cq119); (try clear cq96); omega)
                      · skip
                        refine g_iload rfl rfl ?_
                        refine g_iload_n rfl rfl ?_
                        refine g_iconst rfl ?_
                        refine g_isub rfl (by (try clear cq147); (try clear cq119); (try clear cq96); omega) (by (try clear cq147); (try clear cq119); (try clear cq96); omega) ?_
                        refine g_icmp_eq rfl (fun cq171 => ?_) (fun cq171 => ?_)
                        · skip
                          refine g_iinc (l1 := [(5, aI ((j : Int) + 1)), (3, aI 1), (9, aI (((12 * p + (gAft S p j) : Nat) : Int))), (8, aI ((12 * p + j : Int))), (7, aI (((12 * p + (gAft S p i) : Nat) : Int))), (6, aI ((12 * p + i : Int))), (4, aI ((i : Int))), (2, aI (((sGn S p : Nat) : Int))), (0, aO (some o)), (1, aI ((p : Int)))]) rfl rfl (by (try clear cq147); (try clear cq119); (try clear cq96); omega) (by (try clear cq147); (try clear cq119); (try clear cq96); omega) rfl ?_
                          refine g_goto rfl ?_
                          refine g_ls [0, 6, 1, 7, 8, 9] rfl rfl ?_
                          exact ih37 (j + 1) _ (by (try clear cq147); (try clear cq119); (try clear cq96); omega) (by (try clear cq147); (try clear cq119); (try clear cq96); omega) (by 
                                                                                                                                                                                                                                                                                                                                                                                                                exact Or.inl ⟨by omega, fun b h1 h2 => if e : b = j then by
                                                                                                                                                                                                                                                                                                                                                                                                                    subst e
                                                                                                                                                                                                                                                                                                                                                                                                                    refine ⟨cq96, fun z => ?_, fun z => ?_, fun z => ?_⟩
                                                                                                                                                                                                                                                                                                                                                                                                                    · first
                                                                                                                                                                                                                                                                                                                                                                                                                        | (exfalso; omega)
                                                                                                                                                                                                                                                                                                                                                                                                                        | exact cq119
                                                                                                                                                                                                                                                                                                                                                                                                                    · first
                                                                                                                                                                                                                                                                                                                                                                                                                        | (exfalso; omega)
                                                                                                                                                                                                                                                                                                                                                                                                                        | exact cq147
                                                                                                                                                                                                                                                                                                                                                                                                                    · first
                                                                                                                                                                                                                                                                                                                                                                                                                        | (exfalso; omega)
                                                                                                                                                                                                                                                                                                                                                                                                                        | exact cq186
                                                                                                                                                                                                                                                                                                                                                                                                                  else (hq.elim (fun z => z.2 b h1 (by omega)) (fun z => by omega))⟩) (by (try clear cq147); (try clear cq119); (try clear cq96); omega)
                        · skip
                          refine g_aload_n rfl rfl ?_
                          refine g_iload rfl rfl ?_
                          refine g_iload rfl rfl ?_
                          refine g_iload rfl rfl ?_
                          refine g_iload rfl rfl ?_
                          refine g_callVI [aI ((12 * p + i : Int)), aI (((12 * p + (gAft S p i) : Nat) : Int)), aI ((12 * p + j : Int)), aI (((12 * p + (gAft S p j) : Nat) : Int))] [] rfl rfl rfl rfl (Nat.le_of_ble_eq_true rfl) ms.1 (m_pgMeets (by omega) ms V mg ok p hp i (by omega) (gAft S p i) (by omega) j (by omega) (gAft S p j) (by omega)) ?_
                          rintro r7 hx7 ⟨ehx7, rfl⟩
                          rw [ehx7]
                          clear ehx7 hx7
                          refine g_b_ne rfl (fun cq186 => ?_) (fun cq186 => ?_)
                          · skip
                            refine g_iconst rfl ?_
                            refine g_istore_n (l1 := [(3, aI 0), (9, aI (((12 * p + (gAft S p j) : Nat) : Int))), (8, aI ((12 * p + j : Int))), (7, aI (((12 * p + (gAft S p i) : Nat) : Int))), (6, aI ((12 * p + i : Int))), (5, aI ((j : Int))), (4, aI ((i : Int))), (2, aI (((sGn S p : Nat) : Int))), (0, aO (some o)), (1, aI ((p : Int)))]) rfl rfl ?_
                            refine g_iinc (l1 := [(5, aI ((j : Int) + 1)), (3, aI 0), (9, aI (((12 * p + (gAft S p j) : Nat) : Int))), (8, aI ((12 * p + j : Int))), (7, aI (((12 * p + (gAft S p i) : Nat) : Int))), (6, aI ((12 * p + i : Int))), (4, aI ((i : Int))), (2, aI (((sGn S p : Nat) : Int))), (0, aO (some o)), (1, aI ((p : Int)))]) rfl rfl (by (try clear cq147); (try clear cq119); (try clear cq96); omega) (by (try clear cq147); (try clear cq119); (try clear cq96); omega) rfl ?_
                            refine g_goto rfl ?_
                            refine g_ls [0, 6, 1, 7, 8, 9] rfl rfl ?_
                            exact ih37 (j + 1) _ (by (try clear cq147); (try clear cq119); (try clear cq96); omega) (by (try clear cq147); (try clear cq119); (try clear cq96); omega) (by 
                                                                                                                                                                                                                                                                                                                                                                                                                exact Or.inr ⟨by omega, j, by omega, by omega, fun z => by
                                                                                                                                                                                                                                                                                                                                                                                                                  obtain ⟨z1, z2, z3, z4⟩ := z
                                                                                                                                                                                                                                                                                                                                                                                                                  first
                                                                                                                                                                                                                                                                                                                                                                                                                    | (exact cq96 z1)
                                                                                                                                                                                                                                                                                                                                                                                                                    | (have z2 := z2 (by omega); exact cq119 z2)
                                                                                                                                                                                                                                                                                                                                                                                                                    | (have z3 := z3 (by omega); exact cq147 z3)
                                                                                                                                                                                                                                                                                                                                                                                                                    | (have z4 := z4 (by omega); exact z4 cq186)⟩) (by (try clear cq147); (try clear cq119); (try clear cq96); omega)
                          · skip
                            refine g_iconst rfl ?_
                            refine g_goto rfl ?_
                            refine g_istore_n (l1 := [(3, aI 1), (9, aI (((12 * p + (gAft S p j) : Nat) : Int))), (8, aI ((12 * p + j : Int))), (7, aI (((12 * p + (gAft S p i) : Nat) : Int))), (6, aI ((12 * p + i : Int))), (5, aI ((j : Int))), (4, aI ((i : Int))), (2, aI (((sGn S p : Nat) : Int))), (0, aO (some o)), (1, aI ((p : Int)))]) rfl rfl ?_
                            refine g_iinc (l1 := [(5, aI ((j : Int) + 1)), (3, aI 1), (9, aI (((12 * p + (gAft S p j) : Nat) : Int))), (8, aI ((12 * p + j : Int))), (7, aI (((12 * p + (gAft S p i) : Nat) : Int))), (6, aI ((12 * p + i : Int))), (4, aI ((i : Int))), (2, aI (((sGn S p : Nat) : Int))), (0, aO (some o)), (1, aI ((p : Int)))]) rfl rfl (by (try clear cq147); (try clear cq119); (try clear cq96); omega) (by (try clear cq147); (try clear cq119); (try clear cq96); omega) rfl ?_
                            refine g_goto rfl ?_
                            refine g_ls [0, 6, 1, 7, 8, 9] rfl rfl ?_
                            exact ih37 (j + 1) _ (by (try clear cq147); (try clear cq119); (try clear cq96); omega) (by (try clear cq147); (try clear cq119); (try clear cq96); omega) (by 
                                                                                                                                                                                                                                                                                                                                                                                                                exact Or.inl ⟨by omega, fun b h1 h2 => if e : b = j then by
                                                                                                                                                                                                                                                                                                                                                                                                                    subst e
                                                                                                                                                                                                                                                                                                                                                                                                                    refine ⟨cq96, fun z => ?_, fun z => ?_, fun z => ?_⟩
                                                                                                                                                                                                                                                                                                                                                                                                                    · first
                                                                                                                                                                                                                                                                                                                                                                                                                        | (exfalso; omega)
                                                                                                                                                                                                                                                                                                                                                                                                                        | exact cq119
                                                                                                                                                                                                                                                                                                                                                                                                                    · first
                                                                                                                                                                                                                                                                                                                                                                                                                        | (exfalso; omega)
                                                                                                                                                                                                                                                                                                                                                                                                                        | exact cq147
                                                                                                                                                                                                                                                                                                                                                                                                                    · first
                                                                                                                                                                                                                                                                                                                                                                                                                        | (exfalso; omega)
                                                                                                                                                                                                                                                                                                                                                                                                                        | exact cq186
                                                                                                                                                                                                                                                                                                                                                                                                                  else (hq.elim (fun z => z.2 b h1 (by omega)) (fun z => by omega))⟩) (by (try clear cq147); (try clear cq119); (try clear cq96); omega)
                  · skip
                    refine g_iload rfl rfl ?_
                    refine g_iload_n rfl rfl ?_
                    refine g_iconst rfl ?_
                    refine g_isub rfl (by (try clear cq147); (try clear cq119); (try clear cq96); omega) (by (try clear cq147); (try clear cq119); (try clear cq96); omega) ?_
                    refine g_icmp_ne rfl (fun cq134 => ?_) (fun cq134 => ?_)
                    · skip
                      refine g_iload_n rfl rfl ?_
                      refine g_if_eq_f rfl (by (try clear cq147); (try clear cq119); (try clear cq96); omega) ?_
                      refine g_iload rfl rfl ?_
                      refine g_iload rfl rfl ?_
                      refine g_iconst rfl ?_
                      refine g_iadd rfl (by (try clear cq147); (try clear cq119); (try clear cq96); omega) (by (try clear cq147); (try clear cq119); (try clear cq96); omega) ?_
                      refine g_icmp_eq rfl (fun cq158 => ?_) (fun cq158 => ?_)
                      · skip
                        refine g_iinc (l1 := [(5, aI ((j : Int) + 1)), (3, aI 1), (9, aI (((12 * p + (gAft S p j) : Nat) : Int))), (8, aI ((12 * p + j : Int))), (7, aI (((12 * p + (gAft S p i) : Nat) : Int))), (6, aI ((12 * p + i : Int))), (4, aI ((i : Int))), (2, aI (((sGn S p : Nat) : Int))), (0, aO (some o)), (1, aI ((p : Int)))]) rfl rfl (by (try clear cq147); (try clear cq119); (try clear cq96); omega) (by (try clear cq147); (try clear cq119); (try clear cq96); omega) rfl ?_
                        refine g_goto rfl ?_
                        refine g_ls [0, 6, 1, 7, 8, 9] rfl rfl ?_
                        exact ih37 (j + 1) _ (by (try clear cq147); (try clear cq119); (try clear cq96); omega) (by (try clear cq147); (try clear cq119); (try clear cq96); omega) (by 
                                                                                                                                                                                                                                                                                                                                                                                                                exact Or.inl ⟨by omega, fun b h1 h2 => if e : b = j then by
                                                                                                                                                                                                                                                                                                                                                                                                                    subst e
                                                                                                                                                                                                                                                                                                                                                                                                                    refine ⟨cq96, fun z => ?_, fun z => ?_, fun z => ?_⟩
                                                                                                                                                                                                                                                                                                                                                                                                                    · first
                                                                                                                                                                                                                                                                                                                                                                                                                        | (exfalso; omega)
                                                                                                                                                                                                                                                                                                                                                                                                                        | exact cq119
                                                                                                                                                                                                                                                                                                                                                                                                                    · first
                                                                                                                                                                                                                                                                                                                                                                                                                        | (exfalso; omega)
                                                                                                                                                                                                                                                                                                                                                                                                                        | exact cq147
                                                                                                                                                                                                                                                                                                                                                                                                                    · first
                                                                                                                                                                                                                                                                                                                                                                                                                        | (exfalso; omega)
                                                                                                                                                                                                                                                                                                                                                                                                                        | exact cq186
                                                                                                                                                                                                                                                                                                                                                                                                                  else (hq.elim (fun z => z.2 b h1 (by omega)) (fun z => by omega))⟩) (by (try clear cq147); (try clear cq119); (try clear cq96); omega)
                      · skip
                        refine g_iload rfl rfl ?_
                        refine g_if_ne rfl (fun cq163 => ?_) (fun cq163 => ?_)
                        · skip
                          refine g_aload_n rfl rfl ?_
                          refine g_iload rfl rfl ?_
                          refine g_iload rfl rfl ?_
                          refine g_iload rfl rfl ?_
                          refine g_iload rfl rfl ?_
                          refine g_callVI [aI ((12 * p + i : Int)), aI (((12 * p + (gAft S p i) : Nat) : Int)), aI ((12 * p + j : Int)), aI (((12 * p + (gAft S p j) : Nat) : Int))] [] rfl rfl rfl rfl (Nat.le_of_ble_eq_true rfl) ms.1 (m_pgMeets (by omega) ms V mg ok p hp i (by omega) (gAft S p i) (by omega) j (by omega) (gAft S p j) (by omega)) ?_
                          rintro r8 hx8 ⟨ehx8, rfl⟩
                          rw [ehx8]
                          clear ehx8 hx8
                          refine g_b_ne rfl (fun cq186 => ?_) (fun cq186 => ?_)
                          · skip
                            refine g_iconst rfl ?_
                            refine g_istore_n (l1 := [(3, aI 0), (9, aI (((12 * p + (gAft S p j) : Nat) : Int))), (8, aI ((12 * p + j : Int))), (7, aI (((12 * p + (gAft S p i) : Nat) : Int))), (6, aI ((12 * p + i : Int))), (5, aI ((j : Int))), (4, aI ((i : Int))), (2, aI (((sGn S p : Nat) : Int))), (0, aO (some o)), (1, aI ((p : Int)))]) rfl rfl ?_
                            refine g_iinc (l1 := [(5, aI ((j : Int) + 1)), (3, aI 0), (9, aI (((12 * p + (gAft S p j) : Nat) : Int))), (8, aI ((12 * p + j : Int))), (7, aI (((12 * p + (gAft S p i) : Nat) : Int))), (6, aI ((12 * p + i : Int))), (4, aI ((i : Int))), (2, aI (((sGn S p : Nat) : Int))), (0, aO (some o)), (1, aI ((p : Int)))]) rfl rfl (by (try clear cq147); (try clear cq119); (try clear cq96); omega) (by (try clear cq147); (try clear cq119); (try clear cq96); omega) rfl ?_
                            refine g_goto rfl ?_
                            refine g_ls [0, 6, 1, 7, 8, 9] rfl rfl ?_
                            exact ih37 (j + 1) _ (by (try clear cq147); (try clear cq119); (try clear cq96); omega) (by (try clear cq147); (try clear cq119); (try clear cq96); omega) (by 
                                                                                                                                                                                                                                                                                                                                                                                                                exact Or.inr ⟨by omega, j, by omega, by omega, fun z => by
                                                                                                                                                                                                                                                                                                                                                                                                                  obtain ⟨z1, z2, z3, z4⟩ := z
                                                                                                                                                                                                                                                                                                                                                                                                                  first
                                                                                                                                                                                                                                                                                                                                                                                                                    | (exact cq96 z1)
                                                                                                                                                                                                                                                                                                                                                                                                                    | (have z2 := z2 (by omega); exact cq119 z2)
                                                                                                                                                                                                                                                                                                                                                                                                                    | (have z3 := z3 (by omega); exact cq147 z3)
                                                                                                                                                                                                                                                                                                                                                                                                                    | (have z4 := z4 (by omega); exact z4 cq186)⟩) (by (try clear cq147); (try clear cq119); (try clear cq96); omega)
                          · skip
                            refine g_iconst rfl ?_
                            refine g_goto rfl ?_
                            refine g_istore_n (l1 := [(3, aI 1), (9, aI (((12 * p + (gAft S p j) : Nat) : Int))), (8, aI ((12 * p + j : Int))), (7, aI (((12 * p + (gAft S p i) : Nat) : Int))), (6, aI ((12 * p + i : Int))), (5, aI ((j : Int))), (4, aI ((i : Int))), (2, aI (((sGn S p : Nat) : Int))), (0, aO (some o)), (1, aI ((p : Int)))]) rfl rfl ?_
                            refine g_iinc (l1 := [(5, aI ((j : Int) + 1)), (3, aI 1), (9, aI (((12 * p + (gAft S p j) : Nat) : Int))), (8, aI ((12 * p + j : Int))), (7, aI (((12 * p + (gAft S p i) : Nat) : Int))), (6, aI ((12 * p + i : Int))), (4, aI ((i : Int))), (2, aI (((sGn S p : Nat) : Int))), (0, aO (some o)), (1, aI ((p : Int)))]) rfl rfl (by (try clear cq147); (try clear cq119); (try clear cq96); omega) (by (try clear cq147); (try clear cq119); (try clear cq96); omega) rfl ?_
                            refine g_goto rfl ?_
                            refine g_ls [0, 6, 1, 7, 8, 9] rfl rfl ?_
                            exact ih37 (j + 1) _ (by (try clear cq147); (try clear cq119); (try clear cq96); omega) (by (try clear cq147); (try clear cq119); (try clear cq96); omega) (by 
                                                                                                                                                                                                                                                                                                                                                                                                                exact Or.inl ⟨by omega, fun b h1 h2 => if e : b = j then by
                                                                                                                                                                                                                                                                                                                                                                                                                    subst e
                                                                                                                                                                                                                                                                                                                                                                                                                    refine ⟨cq96, fun z => ?_, fun z => ?_, fun z => ?_⟩
                                                                                                                                                                                                                                                                                                                                                                                                                    · first
                                                                                                                                                                                                                                                                                                                                                                                                                        | (exfalso; omega)
                                                                                                                                                                                                                                                                                                                                                                                                                        | exact cq119
                                                                                                                                                                                                                                                                                                                                                                                                                    · first
                                                                                                                                                                                                                                                                                                                                                                                                                        | (exfalso; omega)
                                                                                                                                                                                                                                                                                                                                                                                                                        | exact cq147
                                                                                                                                                                                                                                                                                                                                                                                                                    · first
                                                                                                                                                                                                                                                                                                                                                                                                                        | (exfalso; omega)
                                                                                                                                                                                                                                                                                                                                                                                                                        | exact cq186
                                                                                                                                                                                                                                                                                                                                                                                                                  else (hq.elim (fun z => z.2 b h1 (by omega)) (fun z => by omega))⟩) (by (try clear cq147); (try clear cq119); (try clear cq96); omega)
                        · skip
                          refine g_iload rfl rfl ?_
                          refine g_iload_n rfl rfl ?_
                          refine g_iconst rfl ?_
                          refine g_isub rfl (by (try clear cq147); (try clear cq119); (try clear cq96); omega) (by (try clear cq147); (try clear cq119); (try clear cq96); omega) ?_
                          refine g_icmp_eq rfl (fun cq171 => ?_) (fun cq171 => ?_)
                          · skip
                            refine g_iinc (l1 := [(5, aI ((j : Int) + 1)), (3, aI 1), (9, aI (((12 * p + (gAft S p j) : Nat) : Int))), (8, aI ((12 * p + j : Int))), (7, aI (((12 * p + (gAft S p i) : Nat) : Int))), (6, aI ((12 * p + i : Int))), (4, aI ((i : Int))), (2, aI (((sGn S p : Nat) : Int))), (0, aO (some o)), (1, aI ((p : Int)))]) rfl rfl (by (try clear cq147); (try clear cq119); (try clear cq96); omega) (by (try clear cq147); (try clear cq119); (try clear cq96); omega) rfl ?_
                            refine g_goto rfl ?_
                            refine g_ls [0, 6, 1, 7, 8, 9] rfl rfl ?_
                            exact ih37 (j + 1) _ (by (try clear cq147); (try clear cq119); (try clear cq96); omega) (by (try clear cq147); (try clear cq119); (try clear cq96); omega) (by 
                                                                                                                                                                                                                                                                                                                                                                                                                exact Or.inl ⟨by omega, fun b h1 h2 => if e : b = j then by
                                                                                                                                                                                                                                                                                                                                                                                                                    subst e
                                                                                                                                                                                                                                                                                                                                                                                                                    refine ⟨cq96, fun z => ?_, fun z => ?_, fun z => ?_⟩
                                                                                                                                                                                                                                                                                                                                                                                                                    · first
                                                                                                                                                                                                                                                                                                                                                                                                                        | (exfalso; omega)
                                                                                                                                                                                                                                                                                                                                                                                                                        | exact cq119
                                                                                                                                                                                                                                                                                                                                                                                                                    · first
                                                                                                                                                                                                                                                                                                                                                                                                                        | (exfalso; omega)
                                                                                                                                                                                                                                                                                                                                                                                                                        | exact cq147
                                                                                                                                                                                                                                                                                                                                                                                                                    · first
                                                                                                                                                                                                                                                                                                                                                                                                                        | (exfalso; omega)
                                                                                                                                                                                                                                                                                                                                                                                                                        | exact cq186
                                                                                                                                                                                                                                                                                                                                                                                                                  else (hq.elim (fun z => z.2 b h1 (by omega)) (fun z => by omega))⟩) (by (try clear cq147); (try clear cq119); (try clear cq96); omega)
                          · skip
                            refine g_aload_n rfl rfl ?_
                            refine g_iload rfl rfl ?_
                            refine g_iload rfl rfl ?_
                            refine g_iload rfl rfl ?_
                            refine g_iload rfl rfl ?_
                            refine g_callVI [aI ((12 * p + i : Int)), aI (((12 * p + (gAft S p i) : Nat) : Int)), aI ((12 * p + j : Int)), aI (((12 * p + (gAft S p j) : Nat) : Int))] [] rfl rfl rfl rfl (Nat.le_of_ble_eq_true rfl) ms.1 (m_pgMeets (by omega) ms V mg ok p hp i (by omega) (gAft S p i) (by omega) j (by omega) (gAft S p j) (by omega)) ?_
                            rintro r9 hx9 ⟨ehx9, rfl⟩
                            rw [ehx9]
                            clear ehx9 hx9
                            refine g_b_ne rfl (fun cq186 => ?_) (fun cq186 => ?_)
                            · skip
                              refine g_iconst rfl ?_
                              refine g_istore_n (l1 := [(3, aI 0), (9, aI (((12 * p + (gAft S p j) : Nat) : Int))), (8, aI ((12 * p + j : Int))), (7, aI (((12 * p + (gAft S p i) : Nat) : Int))), (6, aI ((12 * p + i : Int))), (5, aI ((j : Int))), (4, aI ((i : Int))), (2, aI (((sGn S p : Nat) : Int))), (0, aO (some o)), (1, aI ((p : Int)))]) rfl rfl ?_
                              refine g_iinc (l1 := [(5, aI ((j : Int) + 1)), (3, aI 0), (9, aI (((12 * p + (gAft S p j) : Nat) : Int))), (8, aI ((12 * p + j : Int))), (7, aI (((12 * p + (gAft S p i) : Nat) : Int))), (6, aI ((12 * p + i : Int))), (4, aI ((i : Int))), (2, aI (((sGn S p : Nat) : Int))), (0, aO (some o)), (1, aI ((p : Int)))]) rfl rfl (by (try clear cq147); (try clear cq119); (try clear cq96); omega) (by (try clear cq147); (try clear cq119); (try clear cq96); omega) rfl ?_
                              refine g_goto rfl ?_
                              refine g_ls [0, 6, 1, 7, 8, 9] rfl rfl ?_
                              exact ih37 (j + 1) _ (by (try clear cq147); (try clear cq119); (try clear cq96); omega) (by (try clear cq147); (try clear cq119); (try clear cq96); omega) (by 
                                                                                                                                                                                                                                                                                                                                                                                                                exact Or.inr ⟨by omega, j, by omega, by omega, fun z => by
                                                                                                                                                                                                                                                                                                                                                                                                                  obtain ⟨z1, z2, z3, z4⟩ := z
                                                                                                                                                                                                                                                                                                                                                                                                                  first
                                                                                                                                                                                                                                                                                                                                                                                                                    | (exact cq96 z1)
                                                                                                                                                                                                                                                                                                                                                                                                                    | (have z2 := z2 (by omega); exact cq119 z2)
                                                                                                                                                                                                                                                                                                                                                                                                                    | (have z3 := z3 (by omega); exact cq147 z3)
                                                                                                                                                                                                                                                                                                                                                                                                                    | (have z4 := z4 (by omega); exact z4 cq186)⟩) (by (try clear cq147); (try clear cq119); (try clear cq96); omega)
                            · skip
                              refine g_iconst rfl ?_
                              refine g_goto rfl ?_
                              refine g_istore_n (l1 := [(3, aI 1), (9, aI (((12 * p + (gAft S p j) : Nat) : Int))), (8, aI ((12 * p + j : Int))), (7, aI (((12 * p + (gAft S p i) : Nat) : Int))), (6, aI ((12 * p + i : Int))), (5, aI ((j : Int))), (4, aI ((i : Int))), (2, aI (((sGn S p : Nat) : Int))), (0, aO (some o)), (1, aI ((p : Int)))]) rfl rfl ?_
                              refine g_iinc (l1 := [(5, aI ((j : Int) + 1)), (3, aI 1), (9, aI (((12 * p + (gAft S p j) : Nat) : Int))), (8, aI ((12 * p + j : Int))), (7, aI (((12 * p + (gAft S p i) : Nat) : Int))), (6, aI ((12 * p + i : Int))), (4, aI ((i : Int))), (2, aI (((sGn S p : Nat) : Int))), (0, aO (some o)), (1, aI ((p : Int)))]) rfl rfl (by (try clear cq147); (try clear cq119); (try clear cq96); omega) (by (try clear cq147); (try clear cq119); (try clear cq96); omega) rfl ?_
                              refine g_goto rfl ?_
                              refine g_ls [0, 6, 1, 7, 8, 9] rfl rfl ?_
                              exact ih37 (j + 1) _ (by (try clear cq147); (try clear cq119); (try clear cq96); omega) (by (try clear cq147); (try clear cq119); (try clear cq96); omega) (by 
                                                                                                                                                                                                                                                                                                                                                                                                                exact Or.inl ⟨by omega, fun b h1 h2 => if e : b = j then by
                                                                                                                                                                                                                                                                                                                                                                                                                    subst e
                                                                                                                                                                                                                                                                                                                                                                                                                    refine ⟨cq96, fun z => ?_, fun z => ?_, fun z => ?_⟩
                                                                                                                                                                                                                                                                                                                                                                                                                    · first
                                                                                                                                                                                                                                                                                                                                                                                                                        | (exfalso; omega)
                                                                                                                                                                                                                                                                                                                                                                                                                        | exact cq119
                                                                                                                                                                                                                                                                                                                                                                                                                    · first
                                                                                                                                                                                                                                                                                                                                                                                                                        | (exfalso; omega)
                                                                                                                                                                                                                                                                                                                                                                                                                        | exact cq147
                                                                                                                                                                                                                                                                                                                                                                                                                    · first
                                                                                                                                                                                                                                                                                                                                                                                                                        | (exfalso; omega)
                                                                                                                                                                                                                                                                                                                                                                                                                        | exact cq186
                                                                                                                                                                                                                                                                                                                                                                                                                  else (hq.elim (fun z => z.2 b h1 (by omega)) (fun z => by omega))⟩) (by (try clear cq147); (try clear cq119); (try clear cq96); omega)
                    · skip
                      refine g_aload_n rfl rfl ?_
                      refine g_iload rfl rfl ?_
                      refine g_iload rfl rfl ?_
                      refine g_iload rfl rfl ?_
                      refine g_callVI [aI ((12 * p + j : Int)), aI ((12 * p + i : Int)), aI (((12 * p + (gAft S p i) : Nat) : Int))] [] rfl rfl rfl rfl (Nat.le_of_ble_eq_true rfl) ms.1 (m_pgOnly (by omega) ms V mg ok p hp j (by omega) i (by omega) (gAft S p i) (by omega)) ?_
                      rintro r10 hx10 ⟨ehx10, rfl⟩
                      rw [ehx10]
                      clear ehx10 hx10
                      by_cases cq147 : ¬(¬ gSame S p (gAft S p i) i ∧ gOn S p j i (gAft S p i)) ∧ ¬(¬ gSame S p j i ∧ gOn S p i (gAft S p i) j)
                      · refine g_top (v2 := aI 1) (congrArg aI (if_pos cq147)) ?_
                        refine g_istore_n (l1 := [(3, aI 1), (9, aI (((12 * p + (gAft S p j) : Nat) : Int))), (8, aI ((12 * p + j : Int))), (7, aI (((12 * p + (gAft S p i) : Nat) : Int))), (6, aI ((12 * p + i : Int))), (5, aI ((j : Int))), (4, aI ((i : Int))), (2, aI (((sGn S p : Nat) : Int))), (0, aO (some o)), (1, aI ((p : Int)))]) rfl rfl ?_
                        refine g_iload_n rfl rfl ?_
                        refine g_if_eq_f rfl (by (try clear cq147); (try clear cq119); (try clear cq96); omega) ?_
                        refine g_iload rfl rfl ?_
                        refine g_iload rfl rfl ?_
                        refine g_iconst rfl ?_
                        refine g_iadd rfl (by (try clear cq147); (try clear cq119); (try clear cq96); omega) (by (try clear cq147); (try clear cq119); (try clear cq96); omega) ?_
                        refine g_icmp_eq rfl (fun cq158 => ?_) (fun cq158 => ?_)
                        · skip
                          refine g_iinc (l1 := [(5, aI ((j : Int) + 1)), (3, aI 1), (9, aI (((12 * p + (gAft S p j) : Nat) : Int))), (8, aI ((12 * p + j : Int))), (7, aI (((12 * p + (gAft S p i) : Nat) : Int))), (6, aI ((12 * p + i : Int))), (4, aI ((i : Int))), (2, aI (((sGn S p : Nat) : Int))), (0, aO (some o)), (1, aI ((p : Int)))]) rfl rfl (by (try clear cq147); (try clear cq119); (try clear cq96); omega) (by (try clear cq147); (try clear cq119); (try clear cq96); omega) rfl ?_
                          refine g_goto rfl ?_
                          refine g_ls [0, 6, 1, 7, 8, 9] rfl rfl ?_
                          exact ih37 (j + 1) _ (by (try clear cq147); (try clear cq119); (try clear cq96); omega) (by (try clear cq147); (try clear cq119); (try clear cq96); omega) (by 
                                                                                                                                                                                                                                                                                                                                                                                                                exact Or.inl ⟨by omega, fun b h1 h2 => if e : b = j then by
                                                                                                                                                                                                                                                                                                                                                                                                                    subst e
                                                                                                                                                                                                                                                                                                                                                                                                                    refine ⟨cq96, fun z => ?_, fun z => ?_, fun z => ?_⟩
                                                                                                                                                                                                                                                                                                                                                                                                                    · first
                                                                                                                                                                                                                                                                                                                                                                                                                        | (exfalso; omega)
                                                                                                                                                                                                                                                                                                                                                                                                                        | exact cq119
                                                                                                                                                                                                                                                                                                                                                                                                                    · first
                                                                                                                                                                                                                                                                                                                                                                                                                        | (exfalso; omega)
                                                                                                                                                                                                                                                                                                                                                                                                                        | exact cq147
                                                                                                                                                                                                                                                                                                                                                                                                                    · first
                                                                                                                                                                                                                                                                                                                                                                                                                        | (exfalso; omega)
                                                                                                                                                                                                                                                                                                                                                                                                                        | exact cq186
                                                                                                                                                                                                                                                                                                                                                                                                                  else (hq.elim (fun z => z.2 b h1 (by omega)) (fun z => by omega))⟩) (by (try clear cq147); (try clear cq119); (try clear cq96); omega)
                        · skip
                          refine g_iload rfl rfl ?_
                          refine g_if_ne rfl (fun cq163 => ?_) (fun cq163 => ?_)
                          · skip
                            refine g_aload_n rfl rfl ?_
                            refine g_iload rfl rfl ?_
                            refine g_iload rfl rfl ?_
                            refine g_iload rfl rfl ?_
                            refine g_iload rfl rfl ?_
                            refine g_callVI [aI ((12 * p + i : Int)), aI (((12 * p + (gAft S p i) : Nat) : Int)), aI ((12 * p + j : Int)), aI (((12 * p + (gAft S p j) : Nat) : Int))] [] rfl rfl rfl rfl (Nat.le_of_ble_eq_true rfl) ms.1 (m_pgMeets (by omega) ms V mg ok p hp i (by omega) (gAft S p i) (by omega) j (by omega) (gAft S p j) (by omega)) ?_
                            rintro r11 hx11 ⟨ehx11, rfl⟩
                            rw [ehx11]
                            clear ehx11 hx11
                            refine g_b_ne rfl (fun cq186 => ?_) (fun cq186 => ?_)
                            · skip
                              refine g_iconst rfl ?_
                              refine g_istore_n (l1 := [(3, aI 0), (9, aI (((12 * p + (gAft S p j) : Nat) : Int))), (8, aI ((12 * p + j : Int))), (7, aI (((12 * p + (gAft S p i) : Nat) : Int))), (6, aI ((12 * p + i : Int))), (5, aI ((j : Int))), (4, aI ((i : Int))), (2, aI (((sGn S p : Nat) : Int))), (0, aO (some o)), (1, aI ((p : Int)))]) rfl rfl ?_
                              refine g_iinc (l1 := [(5, aI ((j : Int) + 1)), (3, aI 0), (9, aI (((12 * p + (gAft S p j) : Nat) : Int))), (8, aI ((12 * p + j : Int))), (7, aI (((12 * p + (gAft S p i) : Nat) : Int))), (6, aI ((12 * p + i : Int))), (4, aI ((i : Int))), (2, aI (((sGn S p : Nat) : Int))), (0, aO (some o)), (1, aI ((p : Int)))]) rfl rfl (by (try clear cq147); (try clear cq119); (try clear cq96); omega) (by (try clear cq147); (try clear cq119); (try clear cq96); omega) rfl ?_
                              refine g_goto rfl ?_
                              refine g_ls [0, 6, 1, 7, 8, 9] rfl rfl ?_
                              exact ih37 (j + 1) _ (by (try clear cq147); (try clear cq119); (try clear cq96); omega) (by (try clear cq147); (try clear cq119); (try clear cq96); omega) (by 
                                                                                                                                                                                                                                                                                                                                                                                                                exact Or.inr ⟨by omega, j, by omega, by omega, fun z => by
                                                                                                                                                                                                                                                                                                                                                                                                                  obtain ⟨z1, z2, z3, z4⟩ := z
                                                                                                                                                                                                                                                                                                                                                                                                                  first
                                                                                                                                                                                                                                                                                                                                                                                                                    | (exact cq96 z1)
                                                                                                                                                                                                                                                                                                                                                                                                                    | (have z2 := z2 (by omega); exact cq119 z2)
                                                                                                                                                                                                                                                                                                                                                                                                                    | (have z3 := z3 (by omega); exact cq147 z3)
                                                                                                                                                                                                                                                                                                                                                                                                                    | (have z4 := z4 (by omega); exact z4 cq186)⟩) (by (try clear cq147); (try clear cq119); (try clear cq96); omega)
                            · skip
                              refine g_iconst rfl ?_
                              refine g_goto rfl ?_
                              refine g_istore_n (l1 := [(3, aI 1), (9, aI (((12 * p + (gAft S p j) : Nat) : Int))), (8, aI ((12 * p + j : Int))), (7, aI (((12 * p + (gAft S p i) : Nat) : Int))), (6, aI ((12 * p + i : Int))), (5, aI ((j : Int))), (4, aI ((i : Int))), (2, aI (((sGn S p : Nat) : Int))), (0, aO (some o)), (1, aI ((p : Int)))]) rfl rfl ?_
                              refine g_iinc (l1 := [(5, aI ((j : Int) + 1)), (3, aI 1), (9, aI (((12 * p + (gAft S p j) : Nat) : Int))), (8, aI ((12 * p + j : Int))), (7, aI (((12 * p + (gAft S p i) : Nat) : Int))), (6, aI ((12 * p + i : Int))), (4, aI ((i : Int))), (2, aI (((sGn S p : Nat) : Int))), (0, aO (some o)), (1, aI ((p : Int)))]) rfl rfl (by (try clear cq147); (try clear cq119); (try clear cq96); omega) (by (try clear cq147); (try clear cq119); (try clear cq96); omega) rfl ?_
                              refine g_goto rfl ?_
                              refine g_ls [0, 6, 1, 7, 8, 9] rfl rfl ?_
                              exact ih37 (j + 1) _ (by (try clear cq147); (try clear cq119); (try clear cq96); omega) (by (try clear cq147); (try clear cq119); (try clear cq96); omega) (by 
                                                                                                                                                                                                                                                                                                                                                                                                                exact Or.inl ⟨by omega, fun b h1 h2 => if e : b = j then by
                                                                                                                                                                                                                                                                                                                                                                                                                    subst e
                                                                                                                                                                                                                                                                                                                                                                                                                    refine ⟨cq96, fun z => ?_, fun z => ?_, fun z => ?_⟩
                                                                                                                                                                                                                                                                                                                                                                                                                    · first
                                                                                                                                                                                                                                                                                                                                                                                                                        | (exfalso; omega)
                                                                                                                                                                                                                                                                                                                                                                                                                        | exact cq119
                                                                                                                                                                                                                                                                                                                                                                                                                    · first
                                                                                                                                                                                                                                                                                                                                                                                                                        | (exfalso; omega)
                                                                                                                                                                                                                                                                                                                                                                                                                        | exact cq147
                                                                                                                                                                                                                                                                                                                                                                                                                    · first
                                                                                                                                                                                                                                                                                                                                                                                                                        | (exfalso; omega)
                                                                                                                                                                                                                                                                                                                                                                                                                        | exact cq186
                                                                                                                                                                                                                                                                                                                                                                                                                  else (hq.elim (fun z => z.2 b h1 (by omega)) (fun z => by omega))⟩) (by (try clear cq147); (try clear cq119); (try clear cq96); omega)
                          · skip
                            refine g_iload rfl rfl ?_
                            refine g_iload_n rfl rfl ?_
                            refine g_iconst rfl ?_
                            refine g_isub rfl (by (try clear cq147); (try clear cq119); (try clear cq96); omega) (by (try clear cq147); (try clear cq119); (try clear cq96); omega) ?_
                            refine g_icmp_eq rfl (fun cq171 => ?_) (fun cq171 => ?_)
                            · skip
                              refine g_iinc (l1 := [(5, aI ((j : Int) + 1)), (3, aI 1), (9, aI (((12 * p + (gAft S p j) : Nat) : Int))), (8, aI ((12 * p + j : Int))), (7, aI (((12 * p + (gAft S p i) : Nat) : Int))), (6, aI ((12 * p + i : Int))), (4, aI ((i : Int))), (2, aI (((sGn S p : Nat) : Int))), (0, aO (some o)), (1, aI ((p : Int)))]) rfl rfl (by (try clear cq147); (try clear cq119); (try clear cq96); omega) (by (try clear cq147); (try clear cq119); (try clear cq96); omega) rfl ?_
                              refine g_goto rfl ?_
                              refine g_ls [0, 6, 1, 7, 8, 9] rfl rfl ?_
                              exact ih37 (j + 1) _ (by (try clear cq147); (try clear cq119); (try clear cq96); omega) (by (try clear cq147); (try clear cq119); (try clear cq96); omega) (by 
                                                                                                                                                                                                                                                                                                                                                                                                                exact Or.inl ⟨by omega, fun b h1 h2 => if e : b = j then by
                                                                                                                                                                                                                                                                                                                                                                                                                    subst e
                                                                                                                                                                                                                                                                                                                                                                                                                    refine ⟨cq96, fun z => ?_, fun z => ?_, fun z => ?_⟩
                                                                                                                                                                                                                                                                                                                                                                                                                    · first
                                                                                                                                                                                                                                                                                                                                                                                                                        | (exfalso; omega)
                                                                                                                                                                                                                                                                                                                                                                                                                        | exact cq119
                                                                                                                                                                                                                                                                                                                                                                                                                    · first
                                                                                                                                                                                                                                                                                                                                                                                                                        | (exfalso; omega)
                                                                                                                                                                                                                                                                                                                                                                                                                        | exact cq147
                                                                                                                                                                                                                                                                                                                                                                                                                    · first
                                                                                                                                                                                                                                                                                                                                                                                                                        | (exfalso; omega)
                                                                                                                                                                                                                                                                                                                                                                                                                        | exact cq186
                                                                                                                                                                                                                                                                                                                                                                                                                  else (hq.elim (fun z => z.2 b h1 (by omega)) (fun z => by omega))⟩) (by (try clear cq147); (try clear cq119); (try clear cq96); omega)
                            · skip
                              refine g_aload_n rfl rfl ?_
                              refine g_iload rfl rfl ?_
                              refine g_iload rfl rfl ?_
                              refine g_iload rfl rfl ?_
                              refine g_iload rfl rfl ?_
                              refine g_callVI [aI ((12 * p + i : Int)), aI (((12 * p + (gAft S p i) : Nat) : Int)), aI ((12 * p + j : Int)), aI (((12 * p + (gAft S p j) : Nat) : Int))] [] rfl rfl rfl rfl (Nat.le_of_ble_eq_true rfl) ms.1 (m_pgMeets (by omega) ms V mg ok p hp i (by omega) (gAft S p i) (by omega) j (by omega) (gAft S p j) (by omega)) ?_
                              rintro r12 hx12 ⟨ehx12, rfl⟩
                              rw [ehx12]
                              clear ehx12 hx12
                              refine g_b_ne rfl (fun cq186 => ?_) (fun cq186 => ?_)
                              · skip
                                refine g_iconst rfl ?_
                                refine g_istore_n (l1 := [(3, aI 0), (9, aI (((12 * p + (gAft S p j) : Nat) : Int))), (8, aI ((12 * p + j : Int))), (7, aI (((12 * p + (gAft S p i) : Nat) : Int))), (6, aI ((12 * p + i : Int))), (5, aI ((j : Int))), (4, aI ((i : Int))), (2, aI (((sGn S p : Nat) : Int))), (0, aO (some o)), (1, aI ((p : Int)))]) rfl rfl ?_
                                refine g_iinc (l1 := [(5, aI ((j : Int) + 1)), (3, aI 0), (9, aI (((12 * p + (gAft S p j) : Nat) : Int))), (8, aI ((12 * p + j : Int))), (7, aI (((12 * p + (gAft S p i) : Nat) : Int))), (6, aI ((12 * p + i : Int))), (4, aI ((i : Int))), (2, aI (((sGn S p : Nat) : Int))), (0, aO (some o)), (1, aI ((p : Int)))]) rfl rfl (by (try clear cq147); (try clear cq119); (try clear cq96); omega) (by (try clear cq147); (try clear cq119); (try clear cq96); omega) rfl ?_
                                refine g_goto rfl ?_
                                refine g_ls [0, 6, 1, 7, 8, 9] rfl rfl ?_
                                exact ih37 (j + 1) _ (by (try clear cq147); (try clear cq119); (try clear cq96); omega) (by (try clear cq147); (try clear cq119); (try clear cq96); omega) (by 
                                                                                                                                                                                                                                                                                                                                                                                                                exact Or.inr ⟨by omega, j, by omega, by omega, fun z => by
                                                                                                                                                                                                                                                                                                                                                                                                                  obtain ⟨z1, z2, z3, z4⟩ := z
                                                                                                                                                                                                                                                                                                                                                                                                                  first
                                                                                                                                                                                                                                                                                                                                                                                                                    | (exact cq96 z1)
                                                                                                                                                                                                                                                                                                                                                                                                                    | (have z2 := z2 (by omega); exact cq119 z2)
                                                                                                                                                                                                                                                                                                                                                                                                                    | (have z3 := z3 (by omega); exact cq147 z3)
                                                                                                                                                                                                                                                                                                                                                                                                                    | (have z4 := z4 (by omega); exact z4 cq186)⟩) (by (try clear cq147); (try clear cq119); (try clear cq96); omega)
                              · skip
                                refine g_iconst rfl ?_
                                refine g_goto rfl ?_
                                refine g_istore_n (l1 := [(3, aI 1), (9, aI (((12 * p + (gAft S p j) : Nat) : Int))), (8, aI ((12 * p + j : Int))), (7, aI (((12 * p + (gAft S p i) : Nat) : Int))), (6, aI ((12 * p + i : Int))), (5, aI ((j : Int))), (4, aI ((i : Int))), (2, aI (((sGn S p : Nat) : Int))), (0, aO (some o)), (1, aI ((p : Int)))]) rfl rfl ?_
                                refine g_iinc (l1 := [(5, aI ((j : Int) + 1)), (3, aI 1), (9, aI (((12 * p + (gAft S p j) : Nat) : Int))), (8, aI ((12 * p + j : Int))), (7, aI (((12 * p + (gAft S p i) : Nat) : Int))), (6, aI ((12 * p + i : Int))), (4, aI ((i : Int))), (2, aI (((sGn S p : Nat) : Int))), (0, aO (some o)), (1, aI ((p : Int)))]) rfl rfl (by (try clear cq147); (try clear cq119); (try clear cq96); omega) (by (try clear cq147); (try clear cq119); (try clear cq96); omega) rfl ?_
                                refine g_goto rfl ?_
                                refine g_ls [0, 6, 1, 7, 8, 9] rfl rfl ?_
                                exact ih37 (j + 1) _ (by (try clear cq147); (try clear cq119); (try clear cq96); omega) (by (try clear cq147); (try clear cq119); (try clear cq96); omega) (by 
                                                                                                                                                                                                                                                                                                                                                                                                                exact Or.inl ⟨by omega, fun b h1 h2 => if e : b = j then by
                                                                                                                                                                                                                                                                                                                                                                                                                    subst e
                                                                                                                                                                                                                                                                                                                                                                                                                    refine ⟨cq96, fun z => ?_, fun z => ?_, fun z => ?_⟩
                                                                                                                                                                                                                                                                                                                                                                                                                    · first
                                                                                                                                                                                                                                                                                                                                                                                                                        | (exfalso; omega)
                                                                                                                                                                                                                                                                                                                                                                                                                        | exact cq119
                                                                                                                                                                                                                                                                                                                                                                                                                    · first
                                                                                                                                                                                                                                                                                                                                                                                                                        | (exfalso; omega)
                                                                                                                                                                                                                                                                                                                                                                                                                        | exact cq147
                                                                                                                                                                                                                                                                                                                                                                                                                    · first
                                                                                                                                                                                                                                                                                                                                                                                                                        | (exfalso; omega)
                                                                                                                                                                                                                                                                                                                                                                                                                        | exact cq186
                                                                                                                                                                                                                                                                                                                                                                                                                  else (hq.elim (fun z => z.2 b h1 (by omega)) (fun z => by omega))⟩) (by (try clear cq147); (try clear cq119); (try clear cq96); omega)
                      · refine g_top (v2 := aI 0) (congrArg aI (if_neg cq147)) ?_
                        refine g_istore_n (l1 := [(3, aI 0), (9, aI (((12 * p + (gAft S p j) : Nat) : Int))), (8, aI ((12 * p + j : Int))), (7, aI (((12 * p + (gAft S p i) : Nat) : Int))), (6, aI ((12 * p + i : Int))), (5, aI ((j : Int))), (4, aI ((i : Int))), (2, aI (((sGn S p : Nat) : Int))), (0, aO (some o)), (1, aI ((p : Int)))]) rfl rfl ?_
                        refine g_iload_n rfl rfl ?_
                        refine g_if_eq_t rfl (by (try clear cq147); (try clear cq119); (try clear cq96); omega) ?_
                        refine g_iinc (l1 := [(5, aI ((j : Int) + 1)), (3, aI 0), (9, aI (((12 * p + (gAft S p j) : Nat) : Int))), (8, aI ((12 * p + j : Int))), (7, aI (((12 * p + (gAft S p i) : Nat) : Int))), (6, aI ((12 * p + i : Int))), (4, aI ((i : Int))), (2, aI (((sGn S p : Nat) : Int))), (0, aO (some o)), (1, aI ((p : Int)))]) rfl rfl (by (try clear cq147); (try clear cq119); (try clear cq96); omega) (by (try clear cq147); (try clear cq119); (try clear cq96); omega) rfl ?_
                        refine g_goto rfl ?_
                        refine g_ls [0, 6, 1, 7, 8, 9] rfl rfl ?_
                        exact ih37 (j + 1) _ (by (try clear cq147); (try clear cq119); (try clear cq96); omega) (by (try clear cq147); (try clear cq119); (try clear cq96); omega) (by 
                                                                                                                                                                                                                                                                                                                                                                                                                exact Or.inr ⟨by omega, j, by omega, by omega, fun z => by
                                                                                                                                                                                                                                                                                                                                                                                                                  obtain ⟨z1, z2, z3, z4⟩ := z
                                                                                                                                                                                                                                                                                                                                                                                                                  first
                                                                                                                                                                                                                                                                                                                                                                                                                    | (exact cq96 z1)
                                                                                                                                                                                                                                                                                                                                                                                                                    | (have z2 := z2 (by omega); exact cq119 z2)
                                                                                                                                                                                                                                                                                                                                                                                                                    | (have z3 := z3 (by omega); exact cq147 z3)
                                                                                                                                                                                                                                                                                                                                                                                                                    | (have z4 := z4 (by omega); exact z4 cq186)⟩) (by (try clear cq147); (try clear cq119); (try clear cq96); omega)
                · skip
                  refine g_aload_n rfl rfl ?_
                  refine g_iload rfl rfl ?_
                  refine g_iload rfl rfl ?_
                  refine g_iload rfl rfl ?_
                  refine g_callVI [aI ((12 * p + i : Int)), aI (((12 * p + (gAft S p i) : Nat) : Int)), aI (((12 * p + (gAft S p j) : Nat) : Int))] [] rfl rfl rfl rfl (Nat.le_of_ble_eq_true rfl) ms.1 (m_pgOnly (by omega) ms V mg ok p hp i (by omega) (gAft S p i) (by omega) (gAft S p j) (by omega)) ?_
                  rintro r13 hx13 ⟨ehx13, rfl⟩
                  rw [ehx13]
                  clear ehx13 hx13
                  by_cases cq119 : ¬(¬ gSame S p (gAft S p j) (gAft S p i) ∧ gOn S p i (gAft S p i) (gAft S p j)) ∧ ¬(¬ gSame S p i (gAft S p i) ∧ gOn S p (gAft S p i) (gAft S p j) i)
                  · refine g_top (v2 := aI 1) (congrArg aI (if_pos cq119)) ?_
                    refine g_istore_n (l1 := [(3, aI 1), (9, aI (((12 * p + (gAft S p j) : Nat) : Int))), (8, aI ((12 * p + j : Int))), (7, aI (((12 * p + (gAft S p i) : Nat) : Int))), (6, aI ((12 * p + i : Int))), (5, aI ((j : Int))), (4, aI ((i : Int))), (2, aI (((sGn S p : Nat) : Int))), (0, aO (some o)), (1, aI ((p : Int)))]) rfl rfl ?_
                    refine g_iload_n rfl rfl ?_
                    refine g_if_eq_f rfl (by (try clear cq147); (try clear cq119); (try clear cq96); omega) ?_
                    refine g_iload rfl rfl ?_
                    refine g_if_ne rfl (fun cq126 => ?_) (fun cq126 => ?_)
                    · skip
                      refine g_iload_n rfl rfl ?_
                      refine g_if_eq_f rfl (by (try clear cq147); (try clear cq119); (try clear cq96); omega) ?_
                      refine g_iload rfl rfl ?_
                      refine g_iload rfl rfl ?_
                      refine g_iconst rfl ?_
                      refine g_iadd rfl (by (try clear cq147); (try clear cq119); (try clear cq96); omega) (by (try clear cq147); (try clear cq119); (try clear cq96); omega) ?_
                      refine g_icmp_eq rfl (fun cq158 => ?_) (fun cq158 => ?_)
                      · skip
                        refine g_iinc (l1 := [(5, aI ((j : Int) + 1)), (3, aI 1), (9, aI (((12 * p + (gAft S p j) : Nat) : Int))), (8, aI ((12 * p + j : Int))), (7, aI (((12 * p + (gAft S p i) : Nat) : Int))), (6, aI ((12 * p + i : Int))), (4, aI ((i : Int))), (2, aI (((sGn S p : Nat) : Int))), (0, aO (some o)), (1, aI ((p : Int)))]) rfl rfl (by (try clear cq147); (try clear cq119); (try clear cq96); omega) (by (try clear cq147); (try clear cq119); (try clear cq96); omega) rfl ?_
                        refine g_goto rfl ?_
                        refine g_ls [0, 6, 1, 7, 8, 9] rfl rfl ?_
                        exact ih37 (j + 1) _ (by (try clear cq147); (try clear cq119); (try clear cq96); omega) (by (try clear cq147); (try clear cq119); (try clear cq96); omega) (by 
                                                                                                                                                                                                                                                                                                                                                                                                                exact Or.inl ⟨by omega, fun b h1 h2 => if e : b = j then by
                                                                                                                                                                                                                                                                                                                                                                                                                    subst e
                                                                                                                                                                                                                                                                                                                                                                                                                    refine ⟨cq96, fun z => ?_, fun z => ?_, fun z => ?_⟩
                                                                                                                                                                                                                                                                                                                                                                                                                    · first
                                                                                                                                                                                                                                                                                                                                                                                                                        | (exfalso; omega)
                                                                                                                                                                                                                                                                                                                                                                                                                        | exact cq119
                                                                                                                                                                                                                                                                                                                                                                                                                    · first
                                                                                                                                                                                                                                                                                                                                                                                                                        | (exfalso; omega)
                                                                                                                                                                                                                                                                                                                                                                                                                        | exact cq147
                                                                                                                                                                                                                                                                                                                                                                                                                    · first
                                                                                                                                                                                                                                                                                                                                                                                                                        | (exfalso; omega)
                                                                                                                                                                                                                                                                                                                                                                                                                        | exact cq186
                                                                                                                                                                                                                                                                                                                                                                                                                  else (hq.elim (fun z => z.2 b h1 (by omega)) (fun z => by omega))⟩) (by (try clear cq147); (try clear cq119); (try clear cq96); omega)
                      · skip
                        refine g_iload rfl rfl ?_
                        refine g_if_ne rfl (fun cq163 => ?_) (fun cq163 => ?_)
                        · skip
                          refine g_aload_n rfl rfl ?_
                          refine g_iload rfl rfl ?_
                          refine g_iload rfl rfl ?_
                          refine g_iload rfl rfl ?_
                          refine g_iload rfl rfl ?_
                          refine g_callVI [aI ((12 * p + i : Int)), aI (((12 * p + (gAft S p i) : Nat) : Int)), aI ((12 * p + j : Int)), aI (((12 * p + (gAft S p j) : Nat) : Int))] [] rfl rfl rfl rfl (Nat.le_of_ble_eq_true rfl) ms.1 (m_pgMeets (by omega) ms V mg ok p hp i (by omega) (gAft S p i) (by omega) j (by omega) (gAft S p j) (by omega)) ?_
                          rintro r14 hx14 ⟨ehx14, rfl⟩
                          rw [ehx14]
                          clear ehx14 hx14
                          refine g_b_ne rfl (fun cq186 => ?_) (fun cq186 => ?_)
                          · skip
                            refine g_iconst rfl ?_
                            refine g_istore_n (l1 := [(3, aI 0), (9, aI (((12 * p + (gAft S p j) : Nat) : Int))), (8, aI ((12 * p + j : Int))), (7, aI (((12 * p + (gAft S p i) : Nat) : Int))), (6, aI ((12 * p + i : Int))), (5, aI ((j : Int))), (4, aI ((i : Int))), (2, aI (((sGn S p : Nat) : Int))), (0, aO (some o)), (1, aI ((p : Int)))]) rfl rfl ?_
                            refine g_iinc (l1 := [(5, aI ((j : Int) + 1)), (3, aI 0), (9, aI (((12 * p + (gAft S p j) : Nat) : Int))), (8, aI ((12 * p + j : Int))), (7, aI (((12 * p + (gAft S p i) : Nat) : Int))), (6, aI ((12 * p + i : Int))), (4, aI ((i : Int))), (2, aI (((sGn S p : Nat) : Int))), (0, aO (some o)), (1, aI ((p : Int)))]) rfl rfl (by (try clear cq147); (try clear cq119); (try clear cq96); omega) (by (try clear cq147); (try clear cq119); (try clear cq96); omega) rfl ?_
                            refine g_goto rfl ?_
                            refine g_ls [0, 6, 1, 7, 8, 9] rfl rfl ?_
                            exact ih37 (j + 1) _ (by (try clear cq147); (try clear cq119); (try clear cq96); omega) (by (try clear cq147); (try clear cq119); (try clear cq96); omega) (by 
                                                                                                                                                                                                                                                                                                                                                                                                                exact Or.inr ⟨by omega, j, by omega, by omega, fun z => by
                                                                                                                                                                                                                                                                                                                                                                                                                  obtain ⟨z1, z2, z3, z4⟩ := z
                                                                                                                                                                                                                                                                                                                                                                                                                  first
                                                                                                                                                                                                                                                                                                                                                                                                                    | (exact cq96 z1)
                                                                                                                                                                                                                                                                                                                                                                                                                    | (have z2 := z2 (by omega); exact cq119 z2)
                                                                                                                                                                                                                                                                                                                                                                                                                    | (have z3 := z3 (by omega); exact cq147 z3)
                                                                                                                                                                                                                                                                                                                                                                                                                    | (have z4 := z4 (by omega); exact z4 cq186)⟩) (by (try clear cq147); (try clear cq119); (try clear cq96); omega)
                          · skip
                            refine g_iconst rfl ?_
                            refine g_goto rfl ?_
                            refine g_istore_n (l1 := [(3, aI 1), (9, aI (((12 * p + (gAft S p j) : Nat) : Int))), (8, aI ((12 * p + j : Int))), (7, aI (((12 * p + (gAft S p i) : Nat) : Int))), (6, aI ((12 * p + i : Int))), (5, aI ((j : Int))), (4, aI ((i : Int))), (2, aI (((sGn S p : Nat) : Int))), (0, aO (some o)), (1, aI ((p : Int)))]) rfl rfl ?_
                            refine g_iinc (l1 := [(5, aI ((j : Int) + 1)), (3, aI 1), (9, aI (((12 * p + (gAft S p j) : Nat) : Int))), (8, aI ((12 * p + j : Int))), (7, aI (((12 * p + (gAft S p i) : Nat) : Int))), (6, aI ((12 * p + i : Int))), (4, aI ((i : Int))), (2, aI (((sGn S p : Nat) : Int))), (0, aO (some o)), (1, aI ((p : Int)))]) rfl rfl (by (try clear cq147); (try clear cq119); (try clear cq96); omega) (by (try clear cq147); (try clear cq119); (try clear cq96); omega) rfl ?_
                            refine g_goto rfl ?_
                            refine g_ls [0, 6, 1, 7, 8, 9] rfl rfl ?_
                            exact ih37 (j + 1) _ (by (try clear cq147); (try clear cq119); (try clear cq96); omega) (by (try clear cq147); (try clear cq119); (try clear cq96); omega) (by 
                                                                                                                                                                                                                                                                                                                                                                                                                exact Or.inl ⟨by omega, fun b h1 h2 => if e : b = j then by
                                                                                                                                                                                                                                                                                                                                                                                                                    subst e
                                                                                                                                                                                                                                                                                                                                                                                                                    refine ⟨cq96, fun z => ?_, fun z => ?_, fun z => ?_⟩
                                                                                                                                                                                                                                                                                                                                                                                                                    · first
                                                                                                                                                                                                                                                                                                                                                                                                                        | (exfalso; omega)
                                                                                                                                                                                                                                                                                                                                                                                                                        | exact cq119
                                                                                                                                                                                                                                                                                                                                                                                                                    · first
                                                                                                                                                                                                                                                                                                                                                                                                                        | (exfalso; omega)
                                                                                                                                                                                                                                                                                                                                                                                                                        | exact cq147
                                                                                                                                                                                                                                                                                                                                                                                                                    · first
                                                                                                                                                                                                                                                                                                                                                                                                                        | (exfalso; omega)
                                                                                                                                                                                                                                                                                                                                                                                                                        | exact cq186
                                                                                                                                                                                                                                                                                                                                                                                                                  else (hq.elim (fun z => z.2 b h1 (by omega)) (fun z => by omega))⟩) (by (try clear cq147); (try clear cq119); (try clear cq96); omega)
                        · skip
                          refine g_iload rfl rfl ?_
                          refine g_iload_n rfl rfl ?_
                          refine g_iconst rfl ?_
                          refine g_isub rfl (by (try clear cq147); (try clear cq119); (try clear cq96); omega) (by (try clear cq147); (try clear cq119); (try clear cq96); omega) ?_
                          refine g_icmp_eq rfl (fun cq171 => ?_) (fun cq171 => ?_)
                          · skip
                            refine g_iinc (l1 := [(5, aI ((j : Int) + 1)), (3, aI 1), (9, aI (((12 * p + (gAft S p j) : Nat) : Int))), (8, aI ((12 * p + j : Int))), (7, aI (((12 * p + (gAft S p i) : Nat) : Int))), (6, aI ((12 * p + i : Int))), (4, aI ((i : Int))), (2, aI (((sGn S p : Nat) : Int))), (0, aO (some o)), (1, aI ((p : Int)))]) rfl rfl (by (try clear cq147); (try clear cq119); (try clear cq96); omega) (by (try clear cq147); (try clear cq119); (try clear cq96); omega) rfl ?_
                            refine g_goto rfl ?_
                            refine g_ls [0, 6, 1, 7, 8, 9] rfl rfl ?_
                            exact ih37 (j + 1) _ (by (try clear cq147); (try clear cq119); (try clear cq96); omega) (by (try clear cq147); (try clear cq119); (try clear cq96); omega) (by 
                                                                                                                                                                                                                                                                                                                                                                                                                exact Or.inl ⟨by omega, fun b h1 h2 => if e : b = j then by
                                                                                                                                                                                                                                                                                                                                                                                                                    subst e
                                                                                                                                                                                                                                                                                                                                                                                                                    refine ⟨cq96, fun z => ?_, fun z => ?_, fun z => ?_⟩
                                                                                                                                                                                                                                                                                                                                                                                                                    · first
                                                                                                                                                                                                                                                                                                                                                                                                                        | (exfalso; omega)
                                                                                                                                                                                                                                                                                                                                                                                                                        | exact cq119
                                                                                                                                                                                                                                                                                                                                                                                                                    · first
                                                                                                                                                                                                                                                                                                                                                                                                                        | (exfalso; omega)
                                                                                                                                                                                                                                                                                                                                                                                                                        | exact cq147
                                                                                                                                                                                                                                                                                                                                                                                                                    · first
                                                                                                                                                                                                                                                                                                                                                                                                                        | (exfalso; omega)
                                                                                                                                                                                                                                                                                                                                                                                                                        | exact cq186
                                                                                                                                                                                                                                                                                                                                                                                                                  else (hq.elim (fun z => z.2 b h1 (by omega)) (fun z => by omega))⟩) (by (try clear cq147); (try clear cq119); (try clear cq96); omega)
                          · skip
                            refine g_aload_n rfl rfl ?_
                            refine g_iload rfl rfl ?_
                            refine g_iload rfl rfl ?_
                            refine g_iload rfl rfl ?_
                            refine g_iload rfl rfl ?_
                            refine g_callVI [aI ((12 * p + i : Int)), aI (((12 * p + (gAft S p i) : Nat) : Int)), aI ((12 * p + j : Int)), aI (((12 * p + (gAft S p j) : Nat) : Int))] [] rfl rfl rfl rfl (Nat.le_of_ble_eq_true rfl) ms.1 (m_pgMeets (by omega) ms V mg ok p hp i (by omega) (gAft S p i) (by omega) j (by omega) (gAft S p j) (by omega)) ?_
                            rintro r15 hx15 ⟨ehx15, rfl⟩
                            rw [ehx15]
                            clear ehx15 hx15
                            refine g_b_ne rfl (fun cq186 => ?_) (fun cq186 => ?_)
                            · skip
                              refine g_iconst rfl ?_
                              refine g_istore_n (l1 := [(3, aI 0), (9, aI (((12 * p + (gAft S p j) : Nat) : Int))), (8, aI ((12 * p + j : Int))), (7, aI (((12 * p + (gAft S p i) : Nat) : Int))), (6, aI ((12 * p + i : Int))), (5, aI ((j : Int))), (4, aI ((i : Int))), (2, aI (((sGn S p : Nat) : Int))), (0, aO (some o)), (1, aI ((p : Int)))]) rfl rfl ?_
                              refine g_iinc (l1 := [(5, aI ((j : Int) + 1)), (3, aI 0), (9, aI (((12 * p + (gAft S p j) : Nat) : Int))), (8, aI ((12 * p + j : Int))), (7, aI (((12 * p + (gAft S p i) : Nat) : Int))), (6, aI ((12 * p + i : Int))), (4, aI ((i : Int))), (2, aI (((sGn S p : Nat) : Int))), (0, aO (some o)), (1, aI ((p : Int)))]) rfl rfl (by (try clear cq147); (try clear cq119); (try clear cq96); omega) (by (try clear cq147); (try clear cq119); (try clear cq96); omega) rfl ?_
                              refine g_goto rfl ?_
                              refine g_ls [0, 6, 1, 7, 8, 9] rfl rfl ?_
                              exact ih37 (j + 1) _ (by (try clear cq147); (try clear cq119); (try clear cq96); omega) (by (try clear cq147); (try clear cq119); (try clear cq96); omega) (by 
                                                                                                                                                                                                                                                                                                                                                                                                                exact Or.inr ⟨by omega, j, by omega, by omega, fun z => by
                                                                                                                                                                                                                                                                                                                                                                                                                  obtain ⟨z1, z2, z3, z4⟩ := z
                                                                                                                                                                                                                                                                                                                                                                                                                  first
                                                                                                                                                                                                                                                                                                                                                                                                                    | (exact cq96 z1)
                                                                                                                                                                                                                                                                                                                                                                                                                    | (have z2 := z2 (by omega); exact cq119 z2)
                                                                                                                                                                                                                                                                                                                                                                                                                    | (have z3 := z3 (by omega); exact cq147 z3)
                                                                                                                                                                                                                                                                                                                                                                                                                    | (have z4 := z4 (by omega); exact z4 cq186)⟩) (by (try clear cq147); (try clear cq119); (try clear cq96); omega)
                            · skip
                              refine g_iconst rfl ?_
                              refine g_goto rfl ?_
                              refine g_istore_n (l1 := [(3, aI 1), (9, aI (((12 * p + (gAft S p j) : Nat) : Int))), (8, aI ((12 * p + j : Int))), (7, aI (((12 * p + (gAft S p i) : Nat) : Int))), (6, aI ((12 * p + i : Int))), (5, aI ((j : Int))), (4, aI ((i : Int))), (2, aI (((sGn S p : Nat) : Int))), (0, aO (some o)), (1, aI ((p : Int)))]) rfl rfl ?_
                              refine g_iinc (l1 := [(5, aI ((j : Int) + 1)), (3, aI 1), (9, aI (((12 * p + (gAft S p j) : Nat) : Int))), (8, aI ((12 * p + j : Int))), (7, aI (((12 * p + (gAft S p i) : Nat) : Int))), (6, aI ((12 * p + i : Int))), (4, aI ((i : Int))), (2, aI (((sGn S p : Nat) : Int))), (0, aO (some o)), (1, aI ((p : Int)))]) rfl rfl (by (try clear cq147); (try clear cq119); (try clear cq96); omega) (by (try clear cq147); (try clear cq119); (try clear cq96); omega) rfl ?_
                              refine g_goto rfl ?_
                              refine g_ls [0, 6, 1, 7, 8, 9] rfl rfl ?_
                              exact ih37 (j + 1) _ (by (try clear cq147); (try clear cq119); (try clear cq96); omega) (by (try clear cq147); (try clear cq119); (try clear cq96); omega) (by 
                                                                                                                                                                                                                                                                                                                                                                                                                exact Or.inl ⟨by omega, fun b h1 h2 => if e : b = j then by
                                                                                                                                                                                                                                                                                                                                                                                                                    subst e
                                                                                                                                                                                                                                                                                                                                                                                                                    refine ⟨cq96, fun z => ?_, fun z => ?_, fun z => ?_⟩
                                                                                                                                                                                                                                                                                                                                                                                                                    · first
                                                                                                                                                                                                                                                                                                                                                                                                                        | (exfalso; omega)
                                                                                                                                                                                                                                                                                                                                                                                                                        | exact cq119
                                                                                                                                                                                                                                                                                                                                                                                                                    · first
                                                                                                                                                                                                                                                                                                                                                                                                                        | (exfalso; omega)
                                                                                                                                                                                                                                                                                                                                                                                                                        | exact cq147
                                                                                                                                                                                                                                                                                                                                                                                                                    · first
                                                                                                                                                                                                                                                                                                                                                                                                                        | (exfalso; omega)
                                                                                                                                                                                                                                                                                                                                                                                                                        | exact cq186
                                                                                                                                                                                                                                                                                                                                                                                                                  else (hq.elim (fun z => z.2 b h1 (by omega)) (fun z => by omega))⟩) (by (try clear cq147); (try clear cq119); (try clear cq96); omega)
                    · skip
                      refine g_iload rfl rfl ?_
                      refine g_iload_n rfl rfl ?_
                      refine g_iconst rfl ?_
                      refine g_isub rfl (by (try clear cq147); (try clear cq119); (try clear cq96); omega) (by (try clear cq147); (try clear cq119); (try clear cq96); omega) ?_
                      refine g_icmp_ne rfl (fun cq134 => ?_) (fun cq134 => ?_)
                      · skip
                        refine g_iload_n rfl rfl ?_
                        refine g_if_eq_f rfl (by (try clear cq147); (try clear cq119); (try clear cq96); omega) ?_
                        refine g_iload rfl rfl ?_
                        refine g_iload rfl rfl ?_
                        refine g_iconst rfl ?_
                        refine g_iadd rfl (by (try clear cq147); (try clear cq119); (try clear cq96); omega) (by (try clear cq147); (try clear cq119); (try clear cq96); omega) ?_
                        refine g_icmp_eq rfl (fun cq158 => ?_) (fun cq158 => ?_)
                        · skip
                          refine g_iinc (l1 := [(5, aI ((j : Int) + 1)), (3, aI 1), (9, aI (((12 * p + (gAft S p j) : Nat) : Int))), (8, aI ((12 * p + j : Int))), (7, aI (((12 * p + (gAft S p i) : Nat) : Int))), (6, aI ((12 * p + i : Int))), (4, aI ((i : Int))), (2, aI (((sGn S p : Nat) : Int))), (0, aO (some o)), (1, aI ((p : Int)))]) rfl rfl (by (try clear cq147); (try clear cq119); (try clear cq96); omega) (by (try clear cq147); (try clear cq119); (try clear cq96); omega) rfl ?_
                          refine g_goto rfl ?_
                          refine g_ls [0, 6, 1, 7, 8, 9] rfl rfl ?_
                          exact ih37 (j + 1) _ (by (try clear cq147); (try clear cq119); (try clear cq96); omega) (by (try clear cq147); (try clear cq119); (try clear cq96); omega) (by 
                                                                                                                                                                                                                                                                                                                                                                                                                exact Or.inl ⟨by omega, fun b h1 h2 => if e : b = j then by
                                                                                                                                                                                                                                                                                                                                                                                                                    subst e
                                                                                                                                                                                                                                                                                                                                                                                                                    refine ⟨cq96, fun z => ?_, fun z => ?_, fun z => ?_⟩
                                                                                                                                                                                                                                                                                                                                                                                                                    · first
                                                                                                                                                                                                                                                                                                                                                                                                                        | (exfalso; omega)
                                                                                                                                                                                                                                                                                                                                                                                                                        | exact cq119
                                                                                                                                                                                                                                                                                                                                                                                                                    · first
                                                                                                                                                                                                                                                                                                                                                                                                                        | (exfalso; omega)
                                                                                                                                                                                                                                                                                                                                                                                                                        | exact cq147
                                                                                                                                                                                                                                                                                                                                                                                                                    · first
                                                                                                                                                                                                                                                                                                                                                                                                                        | (exfalso; omega)
                                                                                                                                                                                                                                                                                                                                                                                                                        | exact cq186
                                                                                                                                                                                                                                                                                                                                                                                                                  else (hq.elim (fun z => z.2 b h1 (by omega)) (fun z => by omega))⟩) (by (try clear cq147); (try clear cq119); (try clear cq96); omega)
                        · skip
                          refine g_iload rfl rfl ?_
                          refine g_if_ne rfl (fun cq163 => ?_) (fun cq163 => ?_)
                          · skip
                            refine g_aload_n rfl rfl ?_
                            refine g_iload rfl rfl ?_
                            refine g_iload rfl rfl ?_
                            refine g_iload rfl rfl ?_
                            refine g_iload rfl rfl ?_
                            refine g_callVI [aI ((12 * p + i : Int)), aI (((12 * p + (gAft S p i) : Nat) : Int)), aI ((12 * p + j : Int)), aI (((12 * p + (gAft S p j) : Nat) : Int))] [] rfl rfl rfl rfl (Nat.le_of_ble_eq_true rfl) ms.1 (m_pgMeets (by omega) ms V mg ok p hp i (by omega) (gAft S p i) (by omega) j (by omega) (gAft S p j) (by omega)) ?_
                            rintro r16 hx16 ⟨ehx16, rfl⟩
                            rw [ehx16]
                            clear ehx16 hx16
                            refine g_b_ne rfl (fun cq186 => ?_) (fun cq186 => ?_)
                            · skip
                              refine g_iconst rfl ?_
                              refine g_istore_n (l1 := [(3, aI 0), (9, aI (((12 * p + (gAft S p j) : Nat) : Int))), (8, aI ((12 * p + j : Int))), (7, aI (((12 * p + (gAft S p i) : Nat) : Int))), (6, aI ((12 * p + i : Int))), (5, aI ((j : Int))), (4, aI ((i : Int))), (2, aI (((sGn S p : Nat) : Int))), (0, aO (some o)), (1, aI ((p : Int)))]) rfl rfl ?_
                              refine g_iinc (l1 := [(5, aI ((j : Int) + 1)), (3, aI 0), (9, aI (((12 * p + (gAft S p j) : Nat) : Int))), (8, aI ((12 * p + j : Int))), (7, aI (((12 * p + (gAft S p i) : Nat) : Int))), (6, aI ((12 * p + i : Int))), (4, aI ((i : Int))), (2, aI (((sGn S p : Nat) : Int))), (0, aO (some o)), (1, aI ((p : Int)))]) rfl rfl (by (try clear cq147); (try clear cq119); (try clear cq96); omega) (by (try clear cq147); (try clear cq119); (try clear cq96); omega) rfl ?_
                              refine g_goto rfl ?_
                              refine g_ls [0, 6, 1, 7, 8, 9] rfl rfl ?_
                              exact ih37 (j + 1) _ (by (try clear cq147); (try clear cq119); (try clear cq96); omega) (by (try clear cq147); (try clear cq119); (try clear cq96); omega) (by 
                                                                                                                                                                                                                                                                                                                                                                                                                exact Or.inr ⟨by omega, j, by omega, by omega, fun z => by
                                                                                                                                                                                                                                                                                                                                                                                                                  obtain ⟨z1, z2, z3, z4⟩ := z
                                                                                                                                                                                                                                                                                                                                                                                                                  first
                                                                                                                                                                                                                                                                                                                                                                                                                    | (exact cq96 z1)
                                                                                                                                                                                                                                                                                                                                                                                                                    | (have z2 := z2 (by omega); exact cq119 z2)
                                                                                                                                                                                                                                                                                                                                                                                                                    | (have z3 := z3 (by omega); exact cq147 z3)
                                                                                                                                                                                                                                                                                                                                                                                                                    | (have z4 := z4 (by omega); exact z4 cq186)⟩) (by (try clear cq147); (try clear cq119); (try clear cq96); omega)
                            · skip
                              refine g_iconst rfl ?_
                              refine g_goto rfl ?_
                              refine g_istore_n (l1 := [(3, aI 1), (9, aI (((12 * p + (gAft S p j) : Nat) : Int))), (8, aI ((12 * p + j : Int))), (7, aI (((12 * p + (gAft S p i) : Nat) : Int))), (6, aI ((12 * p + i : Int))), (5, aI ((j : Int))), (4, aI ((i : Int))), (2, aI (((sGn S p : Nat) : Int))), (0, aO (some o)), (1, aI ((p : Int)))]) rfl rfl ?_
                              refine g_iinc (l1 := [(5, aI ((j : Int) + 1)), (3, aI 1), (9, aI (((12 * p + (gAft S p j) : Nat) : Int))), (8, aI ((12 * p + j : Int))), (7, aI (((12 * p + (gAft S p i) : Nat) : Int))), (6, aI ((12 * p + i : Int))), (4, aI ((i : Int))), (2, aI (((sGn S p : Nat) : Int))), (0, aO (some o)), (1, aI ((p : Int)))]) rfl rfl (by (try clear cq147); (try clear cq119); (try clear cq96); omega) (by (try clear cq147); (try clear cq119); (try clear cq96); omega) rfl ?_
                              refine g_goto rfl ?_
                              refine g_ls [0, 6, 1, 7, 8, 9] rfl rfl ?_
                              exact ih37 (j + 1) _ (by (try clear cq147); (try clear cq119); (try clear cq96); omega) (by (try clear cq147); (try clear cq119); (try clear cq96); omega) (by 
                                                                                                                                                                                                                                                                                                                                                                                                                exact Or.inl ⟨by omega, fun b h1 h2 => if e : b = j then by
                                                                                                                                                                                                                                                                                                                                                                                                                    subst e
                                                                                                                                                                                                                                                                                                                                                                                                                    refine ⟨cq96, fun z => ?_, fun z => ?_, fun z => ?_⟩
                                                                                                                                                                                                                                                                                                                                                                                                                    · first
                                                                                                                                                                                                                                                                                                                                                                                                                        | (exfalso; omega)
                                                                                                                                                                                                                                                                                                                                                                                                                        | exact cq119
                                                                                                                                                                                                                                                                                                                                                                                                                    · first
                                                                                                                                                                                                                                                                                                                                                                                                                        | (exfalso; omega)
                                                                                                                                                                                                                                                                                                                                                                                                                        | exact cq147
                                                                                                                                                                                                                                                                                                                                                                                                                    · first
                                                                                                                                                                                                                                                                                                                                                                                                                        | (exfalso; omega)
                                                                                                                                                                                                                                                                                                                                                                                                                        | exact cq186
                                                                                                                                                                                                                                                                                                                                                                                                                  else (hq.elim (fun z => z.2 b h1 (by omega)) (fun z => by omega))⟩) (by (try clear cq147); (try clear cq119); (try clear cq96); omega)
                          · skip
                            refine g_iload rfl rfl ?_
                            refine g_iload_n rfl rfl ?_
                            refine g_iconst rfl ?_
                            refine g_isub rfl (by (try clear cq147); (try clear cq119); (try clear cq96); omega) (by (try clear cq147); (try clear cq119); (try clear cq96); omega) ?_
                            refine g_icmp_eq rfl (fun cq171 => ?_) (fun cq171 => ?_)
                            · skip
                              refine g_iinc (l1 := [(5, aI ((j : Int) + 1)), (3, aI 1), (9, aI (((12 * p + (gAft S p j) : Nat) : Int))), (8, aI ((12 * p + j : Int))), (7, aI (((12 * p + (gAft S p i) : Nat) : Int))), (6, aI ((12 * p + i : Int))), (4, aI ((i : Int))), (2, aI (((sGn S p : Nat) : Int))), (0, aO (some o)), (1, aI ((p : Int)))]) rfl rfl (by (try clear cq147); (try clear cq119); (try clear cq96); omega) (by (try clear cq147); (try clear cq119); (try clear cq96); omega) rfl ?_
                              refine g_goto rfl ?_
                              refine g_ls [0, 6, 1, 7, 8, 9] rfl rfl ?_
                              exact ih37 (j + 1) _ (by (try clear cq147); (try clear cq119); (try clear cq96); omega) (by (try clear cq147); (try clear cq119); (try clear cq96); omega) (by 
                                                                                                                                                                                                                                                                                                                                                                                                                exact Or.inl ⟨by omega, fun b h1 h2 => if e : b = j then by
                                                                                                                                                                                                                                                                                                                                                                                                                    subst e
                                                                                                                                                                                                                                                                                                                                                                                                                    refine ⟨cq96, fun z => ?_, fun z => ?_, fun z => ?_⟩
                                                                                                                                                                                                                                                                                                                                                                                                                    · first
                                                                                                                                                                                                                                                                                                                                                                                                                        | (exfalso; omega)
                                                                                                                                                                                                                                                                                                                                                                                                                        | exact cq119
                                                                                                                                                                                                                                                                                                                                                                                                                    · first
                                                                                                                                                                                                                                                                                                                                                                                                                        | (exfalso; omega)
                                                                                                                                                                                                                                                                                                                                                                                                                        | exact cq147
                                                                                                                                                                                                                                                                                                                                                                                                                    · first
                                                                                                                                                                                                                                                                                                                                                                                                                        | (exfalso; omega)
                                                                                                                                                                                                                                                                                                                                                                                                                        | exact cq186
                                                                                                                                                                                                                                                                                                                                                                                                                  else (hq.elim (fun z => z.2 b h1 (by omega)) (fun z => by omega))⟩) (by (try clear cq147); (try clear cq119); (try clear cq96); omega)
                            · skip
                              refine g_aload_n rfl rfl ?_
                              refine g_iload rfl rfl ?_
                              refine g_iload rfl rfl ?_
                              refine g_iload rfl rfl ?_
                              refine g_iload rfl rfl ?_
                              refine g_callVI [aI ((12 * p + i : Int)), aI (((12 * p + (gAft S p i) : Nat) : Int)), aI ((12 * p + j : Int)), aI (((12 * p + (gAft S p j) : Nat) : Int))] [] rfl rfl rfl rfl (Nat.le_of_ble_eq_true rfl) ms.1 (m_pgMeets (by omega) ms V mg ok p hp i (by omega) (gAft S p i) (by omega) j (by omega) (gAft S p j) (by omega)) ?_
                              rintro r17 hx17 ⟨ehx17, rfl⟩
                              rw [ehx17]
                              clear ehx17 hx17
                              refine g_b_ne rfl (fun cq186 => ?_) (fun cq186 => ?_)
                              · skip
                                refine g_iconst rfl ?_
                                refine g_istore_n (l1 := [(3, aI 0), (9, aI (((12 * p + (gAft S p j) : Nat) : Int))), (8, aI ((12 * p + j : Int))), (7, aI (((12 * p + (gAft S p i) : Nat) : Int))), (6, aI ((12 * p + i : Int))), (5, aI ((j : Int))), (4, aI ((i : Int))), (2, aI (((sGn S p : Nat) : Int))), (0, aO (some o)), (1, aI ((p : Int)))]) rfl rfl ?_
                                refine g_iinc (l1 := [(5, aI ((j : Int) + 1)), (3, aI 0), (9, aI (((12 * p + (gAft S p j) : Nat) : Int))), (8, aI ((12 * p + j : Int))), (7, aI (((12 * p + (gAft S p i) : Nat) : Int))), (6, aI ((12 * p + i : Int))), (4, aI ((i : Int))), (2, aI (((sGn S p : Nat) : Int))), (0, aO (some o)), (1, aI ((p : Int)))]) rfl rfl (by (try clear cq147); (try clear cq119); (try clear cq96); omega) (by (try clear cq147); (try clear cq119); (try clear cq96); omega) rfl ?_
                                refine g_goto rfl ?_
                                refine g_ls [0, 6, 1, 7, 8, 9] rfl rfl ?_
                                exact ih37 (j + 1) _ (by (try clear cq147); (try clear cq119); (try clear cq96); omega) (by (try clear cq147); (try clear cq119); (try clear cq96); omega) (by 
                                                                                                                                                                                                                                                                                                                                                                                                                exact Or.inr ⟨by omega, j, by omega, by omega, fun z => by
                                                                                                                                                                                                                                                                                                                                                                                                                  obtain ⟨z1, z2, z3, z4⟩ := z
                                                                                                                                                                                                                                                                                                                                                                                                                  first
                                                                                                                                                                                                                                                                                                                                                                                                                    | (exact cq96 z1)
                                                                                                                                                                                                                                                                                                                                                                                                                    | (have z2 := z2 (by omega); exact cq119 z2)
                                                                                                                                                                                                                                                                                                                                                                                                                    | (have z3 := z3 (by omega); exact cq147 z3)
                                                                                                                                                                                                                                                                                                                                                                                                                    | (have z4 := z4 (by omega); exact z4 cq186)⟩) (by (try clear cq147); (try clear cq119); (try clear cq96); omega)
                              · skip
                                refine g_iconst rfl ?_
                                refine g_goto rfl ?_
                                refine g_istore_n (l1 := [(3, aI 1), (9, aI (((12 * p + (gAft S p j) : Nat) : Int))), (8, aI ((12 * p + j : Int))), (7, aI (((12 * p + (gAft S p i) : Nat) : Int))), (6, aI ((12 * p + i : Int))), (5, aI ((j : Int))), (4, aI ((i : Int))), (2, aI (((sGn S p : Nat) : Int))), (0, aO (some o)), (1, aI ((p : Int)))]) rfl rfl ?_
                                refine g_iinc (l1 := [(5, aI ((j : Int) + 1)), (3, aI 1), (9, aI (((12 * p + (gAft S p j) : Nat) : Int))), (8, aI ((12 * p + j : Int))), (7, aI (((12 * p + (gAft S p i) : Nat) : Int))), (6, aI ((12 * p + i : Int))), (4, aI ((i : Int))), (2, aI (((sGn S p : Nat) : Int))), (0, aO (some o)), (1, aI ((p : Int)))]) rfl rfl (by (try clear cq147); (try clear cq119); (try clear cq96); omega) (by (try clear cq147); (try clear cq119); (try clear cq96); omega) rfl ?_
                                refine g_goto rfl ?_
                                refine g_ls [0, 6, 1, 7, 8, 9] rfl rfl ?_
                                exact ih37 (j + 1) _ (by (try clear cq147); (try clear cq119); (try clear cq96); omega) (by (try clear cq147); (try clear cq119); (try clear cq96); omega) (by 
                                                                                                                                                                                                                                                                                                                                                                                                                exact Or.inl ⟨by omega, fun b h1 h2 => if e : b = j then by
                                                                                                                                                                                                                                                                                                                                                                                                                    subst e
                                                                                                                                                                                                                                                                                                                                                                                                                    refine ⟨cq96, fun z => ?_, fun z => ?_, fun z => ?_⟩
                                                                                                                                                                                                                                                                                                                                                                                                                    · first
                                                                                                                                                                                                                                                                                                                                                                                                                        | (exfalso; omega)
                                                                                                                                                                                                                                                                                                                                                                                                                        | exact cq119
                                                                                                                                                                                                                                                                                                                                                                                                                    · first
                                                                                                                                                                                                                                                                                                                                                                                                                        | (exfalso; omega)
                                                                                                                                                                                                                                                                                                                                                                                                                        | exact cq147
                                                                                                                                                                                                                                                                                                                                                                                                                    · first
                                                                                                                                                                                                                                                                                                                                                                                                                        | (exfalso; omega)
                                                                                                                                                                                                                                                                                                                                                                                                                        | exact cq186
                                                                                                                                                                                                                                                                                                                                                                                                                  else (hq.elim (fun z => z.2 b h1 (by omega)) (fun z => by omega))⟩) (by (try clear cq147); (try clear cq119); (try clear cq96); omega)
                      · skip
                        refine g_aload_n rfl rfl ?_
                        refine g_iload rfl rfl ?_
                        refine g_iload rfl rfl ?_
                        refine g_iload rfl rfl ?_
                        refine g_callVI [aI ((12 * p + j : Int)), aI ((12 * p + i : Int)), aI (((12 * p + (gAft S p i) : Nat) : Int))] [] rfl rfl rfl rfl (Nat.le_of_ble_eq_true rfl) ms.1 (m_pgOnly (by omega) ms V mg ok p hp j (by omega) i (by omega) (gAft S p i) (by omega)) ?_
                        rintro r18 hx18 ⟨ehx18, rfl⟩
                        rw [ehx18]
                        clear ehx18 hx18
                        by_cases cq147 : ¬(¬ gSame S p (gAft S p i) i ∧ gOn S p j i (gAft S p i)) ∧ ¬(¬ gSame S p j i ∧ gOn S p i (gAft S p i) j)
                        · refine g_top (v2 := aI 1) (congrArg aI (if_pos cq147)) ?_
                          refine g_istore_n (l1 := [(3, aI 1), (9, aI (((12 * p + (gAft S p j) : Nat) : Int))), (8, aI ((12 * p + j : Int))), (7, aI (((12 * p + (gAft S p i) : Nat) : Int))), (6, aI ((12 * p + i : Int))), (5, aI ((j : Int))), (4, aI ((i : Int))), (2, aI (((sGn S p : Nat) : Int))), (0, aO (some o)), (1, aI ((p : Int)))]) rfl rfl ?_
                          refine g_iload_n rfl rfl ?_
                          refine g_if_eq_f rfl (by (try clear cq147); (try clear cq119); (try clear cq96); omega) ?_
                          refine g_iload rfl rfl ?_
                          refine g_iload rfl rfl ?_
                          refine g_iconst rfl ?_
                          refine g_iadd rfl (by (try clear cq147); (try clear cq119); (try clear cq96); omega) (by (try clear cq147); (try clear cq119); (try clear cq96); omega) ?_
                          refine g_icmp_eq rfl (fun cq158 => ?_) (fun cq158 => ?_)
                          · skip
                            refine g_iinc (l1 := [(5, aI ((j : Int) + 1)), (3, aI 1), (9, aI (((12 * p + (gAft S p j) : Nat) : Int))), (8, aI ((12 * p + j : Int))), (7, aI (((12 * p + (gAft S p i) : Nat) : Int))), (6, aI ((12 * p + i : Int))), (4, aI ((i : Int))), (2, aI (((sGn S p : Nat) : Int))), (0, aO (some o)), (1, aI ((p : Int)))]) rfl rfl (by (try clear cq147); (try clear cq119); (try clear cq96); omega) (by (try clear cq147); (try clear cq119); (try clear cq96); omega) rfl ?_
                            refine g_goto rfl ?_
                            refine g_ls [0, 6, 1, 7, 8, 9] rfl rfl ?_
                            exact ih37 (j + 1) _ (by (try clear cq147); (try clear cq119); (try clear cq96); omega) (by (try clear cq147); (try clear cq119); (try clear cq96); omega) (by 
                                                                                                                                                                                                                                                                                                                                                                                                                exact Or.inl ⟨by omega, fun b h1 h2 => if e : b = j then by
                                                                                                                                                                                                                                                                                                                                                                                                                    subst e
                                                                                                                                                                                                                                                                                                                                                                                                                    refine ⟨cq96, fun z => ?_, fun z => ?_, fun z => ?_⟩
                                                                                                                                                                                                                                                                                                                                                                                                                    · first
                                                                                                                                                                                                                                                                                                                                                                                                                        | (exfalso; omega)
                                                                                                                                                                                                                                                                                                                                                                                                                        | exact cq119
                                                                                                                                                                                                                                                                                                                                                                                                                    · first
                                                                                                                                                                                                                                                                                                                                                                                                                        | (exfalso; omega)
                                                                                                                                                                                                                                                                                                                                                                                                                        | exact cq147
                                                                                                                                                                                                                                                                                                                                                                                                                    · first
                                                                                                                                                                                                                                                                                                                                                                                                                        | (exfalso; omega)
                                                                                                                                                                                                                                                                                                                                                                                                                        | exact cq186
                                                                                                                                                                                                                                                                                                                                                                                                                  else (hq.elim (fun z => z.2 b h1 (by omega)) (fun z => by omega))⟩) (by (try clear cq147); (try clear cq119); (try clear cq96); omega)
                          · skip
                            refine g_iload rfl rfl ?_
                            refine g_if_ne rfl (fun cq163 => ?_) (fun cq163 => ?_)
                            · skip
                              refine g_aload_n rfl rfl ?_
                              refine g_iload rfl rfl ?_
                              refine g_iload rfl rfl ?_
                              refine g_iload rfl rfl ?_
                              refine g_iload rfl rfl ?_
                              refine g_callVI [aI ((12 * p + i : Int)), aI (((12 * p + (gAft S p i) : Nat) : Int)), aI ((12 * p + j : Int)), aI (((12 * p + (gAft S p j) : Nat) : Int))] [] rfl rfl rfl rfl (Nat.le_of_ble_eq_true rfl) ms.1 (m_pgMeets (by omega) ms V mg ok p hp i (by omega) (gAft S p i) (by omega) j (by omega) (gAft S p j) (by omega)) ?_
                              rintro r19 hx19 ⟨ehx19, rfl⟩
                              rw [ehx19]
                              clear ehx19 hx19
                              refine g_b_ne rfl (fun cq186 => ?_) (fun cq186 => ?_)
                              · skip
                                refine g_iconst rfl ?_
                                refine g_istore_n (l1 := [(3, aI 0), (9, aI (((12 * p + (gAft S p j) : Nat) : Int))), (8, aI ((12 * p + j : Int))), (7, aI (((12 * p + (gAft S p i) : Nat) : Int))), (6, aI ((12 * p + i : Int))), (5, aI ((j : Int))), (4, aI ((i : Int))), (2, aI (((sGn S p : Nat) : Int))), (0, aO (some o)), (1, aI ((p : Int)))]) rfl rfl ?_
                                refine g_iinc (l1 := [(5, aI ((j : Int) + 1)), (3, aI 0), (9, aI (((12 * p + (gAft S p j) : Nat) : Int))), (8, aI ((12 * p + j : Int))), (7, aI (((12 * p + (gAft S p i) : Nat) : Int))), (6, aI ((12 * p + i : Int))), (4, aI ((i : Int))), (2, aI (((sGn S p : Nat) : Int))), (0, aO (some o)), (1, aI ((p : Int)))]) rfl rfl (by (try clear cq147); (try clear cq119); (try clear cq96); omega) (by (try clear cq147); (try clear cq119); (try clear cq96); omega) rfl ?_
                                refine g_goto rfl ?_
                                refine g_ls [0, 6, 1, 7, 8, 9] rfl rfl ?_
                                exact ih37 (j + 1) _ (by (try clear cq147); (try clear cq119); (try clear cq96); omega) (by (try clear cq147); (try clear cq119); (try clear cq96); omega) (by 
                                                                                                                                                                                                                                                                                                                                                                                                                exact Or.inr ⟨by omega, j, by omega, by omega, fun z => by
                                                                                                                                                                                                                                                                                                                                                                                                                  obtain ⟨z1, z2, z3, z4⟩ := z
                                                                                                                                                                                                                                                                                                                                                                                                                  first
                                                                                                                                                                                                                                                                                                                                                                                                                    | (exact cq96 z1)
                                                                                                                                                                                                                                                                                                                                                                                                                    | (have z2 := z2 (by omega); exact cq119 z2)
                                                                                                                                                                                                                                                                                                                                                                                                                    | (have z3 := z3 (by omega); exact cq147 z3)
                                                                                                                                                                                                                                                                                                                                                                                                                    | (have z4 := z4 (by omega); exact z4 cq186)⟩) (by (try clear cq147); (try clear cq119); (try clear cq96); omega)
                              · skip
                                refine g_iconst rfl ?_
                                refine g_goto rfl ?_
                                refine g_istore_n (l1 := [(3, aI 1), (9, aI (((12 * p + (gAft S p j) : Nat) : Int))), (8, aI ((12 * p + j : Int))), (7, aI (((12 * p + (gAft S p i) : Nat) : Int))), (6, aI ((12 * p + i : Int))), (5, aI ((j : Int))), (4, aI ((i : Int))), (2, aI (((sGn S p : Nat) : Int))), (0, aO (some o)), (1, aI ((p : Int)))]) rfl rfl ?_
                                refine g_iinc (l1 := [(5, aI ((j : Int) + 1)), (3, aI 1), (9, aI (((12 * p + (gAft S p j) : Nat) : Int))), (8, aI ((12 * p + j : Int))), (7, aI (((12 * p + (gAft S p i) : Nat) : Int))), (6, aI ((12 * p + i : Int))), (4, aI ((i : Int))), (2, aI (((sGn S p : Nat) : Int))), (0, aO (some o)), (1, aI ((p : Int)))]) rfl rfl (by (try clear cq147); (try clear cq119); (try clear cq96); omega) (by (try clear cq147); (try clear cq119); (try clear cq96); omega) rfl ?_
                                refine g_goto rfl ?_
                                refine g_ls [0, 6, 1, 7, 8, 9] rfl rfl ?_
                                exact ih37 (j + 1) _ (by (try clear cq147); (try clear cq119); (try clear cq96); omega) (by (try clear cq147); (try clear cq119); (try clear cq96); omega) (by 
                                                                                                                                                                                                                                                                                                                                                                                                                exact Or.inl ⟨by omega, fun b h1 h2 => if e : b = j then by
                                                                                                                                                                                                                                                                                                                                                                                                                    subst e
                                                                                                                                                                                                                                                                                                                                                                                                                    refine ⟨cq96, fun z => ?_, fun z => ?_, fun z => ?_⟩
                                                                                                                                                                                                                                                                                                                                                                                                                    · first
                                                                                                                                                                                                                                                                                                                                                                                                                        | (exfalso; omega)
                                                                                                                                                                                                                                                                                                                                                                                                                        | exact cq119
                                                                                                                                                                                                                                                                                                                                                                                                                    · first
                                                                                                                                                                                                                                                                                                                                                                                                                        | (exfalso; omega)
                                                                                                                                                                                                                                                                                                                                                                                                                        | exact cq147
                                                                                                                                                                                                                                                                                                                                                                                                                    · first
                                                                                                                                                                                                                                                                                                                                                                                                                        | (exfalso; omega)
                                                                                                                                                                                                                                                                                                                                                                                                                        | exact cq186
                                                                                                                                                                                                                                                                                                                                                                                                                  else (hq.elim (fun z => z.2 b h1 (by omega)) (fun z => by omega))⟩) (by (try clear cq147); (try clear cq119); (try clear cq96); omega)
                            · skip
                              refine g_iload rfl rfl ?_
                              refine g_iload_n rfl rfl ?_
                              refine g_iconst rfl ?_
                              refine g_isub rfl (by (try clear cq147); (try clear cq119); (try clear cq96); omega) (by (try clear cq147); (try clear cq119); (try clear cq96); omega) ?_
                              refine g_icmp_eq rfl (fun cq171 => ?_) (fun cq171 => ?_)
                              · skip
                                refine g_iinc (l1 := [(5, aI ((j : Int) + 1)), (3, aI 1), (9, aI (((12 * p + (gAft S p j) : Nat) : Int))), (8, aI ((12 * p + j : Int))), (7, aI (((12 * p + (gAft S p i) : Nat) : Int))), (6, aI ((12 * p + i : Int))), (4, aI ((i : Int))), (2, aI (((sGn S p : Nat) : Int))), (0, aO (some o)), (1, aI ((p : Int)))]) rfl rfl (by (try clear cq147); (try clear cq119); (try clear cq96); omega) (by (try clear cq147); (try clear cq119); (try clear cq96); omega) rfl ?_
                                refine g_goto rfl ?_
                                refine g_ls [0, 6, 1, 7, 8, 9] rfl rfl ?_
                                exact ih37 (j + 1) _ (by (try clear cq147); (try clear cq119); (try clear cq96); omega) (by (try clear cq147); (try clear cq119); (try clear cq96); omega) (by 
                                                                                                                                                                                                                                                                                                                                                                                                                exact Or.inl ⟨by omega, fun b h1 h2 => if e : b = j then by
                                                                                                                                                                                                                                                                                                                                                                                                                    subst e
                                                                                                                                                                                                                                                                                                                                                                                                                    refine ⟨cq96, fun z => ?_, fun z => ?_, fun z => ?_⟩
                                                                                                                                                                                                                                                                                                                                                                                                                    · first
                                                                                                                                                                                                                                                                                                                                                                                                                        | (exfalso; omega)
                                                                                                                                                                                                                                                                                                                                                                                                                        | exact cq119
                                                                                                                                                                                                                                                                                                                                                                                                                    · first
                                                                                                                                                                                                                                                                                                                                                                                                                        | (exfalso; omega)
                                                                                                                                                                                                                                                                                                                                                                                                                        | exact cq147
                                                                                                                                                                                                                                                                                                                                                                                                                    · first
                                                                                                                                                                                                                                                                                                                                                                                                                        | (exfalso; omega)
                                                                                                                                                                                                                                                                                                                                                                                                                        | exact cq186
                                                                                                                                                                                                                                                                                                                                                                                                                  else (hq.elim (fun z => z.2 b h1 (by omega)) (fun z => by omega))⟩) (by (try clear cq147); (try clear cq119); (try clear cq96); omega)
                              · skip
                                refine g_aload_n rfl rfl ?_
                                refine g_iload rfl rfl ?_
                                refine g_iload rfl rfl ?_
                                refine g_iload rfl rfl ?_
                                refine g_iload rfl rfl ?_
                                refine g_callVI [aI ((12 * p + i : Int)), aI (((12 * p + (gAft S p i) : Nat) : Int)), aI ((12 * p + j : Int)), aI (((12 * p + (gAft S p j) : Nat) : Int))] [] rfl rfl rfl rfl (Nat.le_of_ble_eq_true rfl) ms.1 (m_pgMeets (by omega) ms V mg ok p hp i (by omega) (gAft S p i) (by omega) j (by omega) (gAft S p j) (by omega)) ?_
                                rintro r20 hx20 ⟨ehx20, rfl⟩
                                rw [ehx20]
                                clear ehx20 hx20
                                refine g_b_ne rfl (fun cq186 => ?_) (fun cq186 => ?_)
                                · skip
                                  refine g_iconst rfl ?_
                                  refine g_istore_n (l1 := [(3, aI 0), (9, aI (((12 * p + (gAft S p j) : Nat) : Int))), (8, aI ((12 * p + j : Int))), (7, aI (((12 * p + (gAft S p i) : Nat) : Int))), (6, aI ((12 * p + i : Int))), (5, aI ((j : Int))), (4, aI ((i : Int))), (2, aI (((sGn S p : Nat) : Int))), (0, aO (some o)), (1, aI ((p : Int)))]) rfl rfl ?_
                                  refine g_iinc (l1 := [(5, aI ((j : Int) + 1)), (3, aI 0), (9, aI (((12 * p + (gAft S p j) : Nat) : Int))), (8, aI ((12 * p + j : Int))), (7, aI (((12 * p + (gAft S p i) : Nat) : Int))), (6, aI ((12 * p + i : Int))), (4, aI ((i : Int))), (2, aI (((sGn S p : Nat) : Int))), (0, aO (some o)), (1, aI ((p : Int)))]) rfl rfl (by (try clear cq147); (try clear cq119); (try clear cq96); omega) (by (try clear cq147); (try clear cq119); (try clear cq96); omega) rfl ?_
                                  refine g_goto rfl ?_
                                  refine g_ls [0, 6, 1, 7, 8, 9] rfl rfl ?_
                                  exact ih37 (j + 1) _ (by (try clear cq147); (try clear cq119); (try clear cq96); omega) (by (try clear cq147); (try clear cq119); (try clear cq96); omega) (by 
                                                                                                                                                                                                                                                                                                                                                                                                                exact Or.inr ⟨by omega, j, by omega, by omega, fun z => by
                                                                                                                                                                                                                                                                                                                                                                                                                  obtain ⟨z1, z2, z3, z4⟩ := z
                                                                                                                                                                                                                                                                                                                                                                                                                  first
                                                                                                                                                                                                                                                                                                                                                                                                                    | (exact cq96 z1)
                                                                                                                                                                                                                                                                                                                                                                                                                    | (have z2 := z2 (by omega); exact cq119 z2)
                                                                                                                                                                                                                                                                                                                                                                                                                    | (have z3 := z3 (by omega); exact cq147 z3)
                                                                                                                                                                                                                                                                                                                                                                                                                    | (have z4 := z4 (by omega); exact z4 cq186)⟩) (by (try clear cq147); (try clear cq119); (try clear cq96); omega)
                                · skip
                                  refine g_iconst rfl ?_
                                  refine g_goto rfl ?_
                                  refine g_istore_n (l1 := [(3, aI 1), (9, aI (((12 * p + (gAft S p j) : Nat) : Int))), (8, aI ((12 * p + j : Int))), (7, aI (((12 * p + (gAft S p i) : Nat) : Int))), (6, aI ((12 * p + i : Int))), (5, aI ((j : Int))), (4, aI ((i : Int))), (2, aI (((sGn S p : Nat) : Int))), (0, aO (some o)), (1, aI ((p : Int)))]) rfl rfl ?_
                                  refine g_iinc (l1 := [(5, aI ((j : Int) + 1)), (3, aI 1), (9, aI (((12 * p + (gAft S p j) : Nat) : Int))), (8, aI ((12 * p + j : Int))), (7, aI (((12 * p + (gAft S p i) : Nat) : Int))), (6, aI ((12 * p + i : Int))), (4, aI ((i : Int))), (2, aI (((sGn S p : Nat) : Int))), (0, aO (some o)), (1, aI ((p : Int)))]) rfl rfl (by (try clear cq147); (try clear cq119); (try clear cq96); omega) (by (try clear cq147); (try clear cq119); (try clear cq96); omega) rfl ?_
                                  refine g_goto rfl ?_
                                  refine g_ls [0, 6, 1, 7, 8, 9] rfl rfl ?_
                                  exact ih37 (j + 1) _ (by (try clear cq147); (try clear cq119); (try clear cq96); omega) (by (try clear cq147); (try clear cq119); (try clear cq96); omega) (by 
                                                                                                                                                                                                                                                                                                                                                                                                                exact Or.inl ⟨by omega, fun b h1 h2 => if e : b = j then by
                                                                                                                                                                                                                                                                                                                                                                                                                    subst e
                                                                                                                                                                                                                                                                                                                                                                                                                    refine ⟨cq96, fun z => ?_, fun z => ?_, fun z => ?_⟩
                                                                                                                                                                                                                                                                                                                                                                                                                    · first
                                                                                                                                                                                                                                                                                                                                                                                                                        | (exfalso; omega)
                                                                                                                                                                                                                                                                                                                                                                                                                        | exact cq119
                                                                                                                                                                                                                                                                                                                                                                                                                    · first
                                                                                                                                                                                                                                                                                                                                                                                                                        | (exfalso; omega)
                                                                                                                                                                                                                                                                                                                                                                                                                        | exact cq147
                                                                                                                                                                                                                                                                                                                                                                                                                    · first
                                                                                                                                                                                                                                                                                                                                                                                                                        | (exfalso; omega)
                                                                                                                                                                                                                                                                                                                                                                                                                        | exact cq186
                                                                                                                                                                                                                                                                                                                                                                                                                  else (hq.elim (fun z => z.2 b h1 (by omega)) (fun z => by omega))⟩) (by (try clear cq147); (try clear cq119); (try clear cq96); omega)
                        · refine g_top (v2 := aI 0) (congrArg aI (if_neg cq147)) ?_
                          refine g_istore_n (l1 := [(3, aI 0), (9, aI (((12 * p + (gAft S p j) : Nat) : Int))), (8, aI ((12 * p + j : Int))), (7, aI (((12 * p + (gAft S p i) : Nat) : Int))), (6, aI ((12 * p + i : Int))), (5, aI ((j : Int))), (4, aI ((i : Int))), (2, aI (((sGn S p : Nat) : Int))), (0, aO (some o)), (1, aI ((p : Int)))]) rfl rfl ?_
                          refine g_iload_n rfl rfl ?_
                          refine g_if_eq_t rfl (by (try clear cq147); (try clear cq119); (try clear cq96); omega) ?_
                          refine g_iinc (l1 := [(5, aI ((j : Int) + 1)), (3, aI 0), (9, aI (((12 * p + (gAft S p j) : Nat) : Int))), (8, aI ((12 * p + j : Int))), (7, aI (((12 * p + (gAft S p i) : Nat) : Int))), (6, aI ((12 * p + i : Int))), (4, aI ((i : Int))), (2, aI (((sGn S p : Nat) : Int))), (0, aO (some o)), (1, aI ((p : Int)))]) rfl rfl (by (try clear cq147); (try clear cq119); (try clear cq96); omega) (by (try clear cq147); (try clear cq119); (try clear cq96); omega) rfl ?_
                          refine g_goto rfl ?_
                          refine g_ls [0, 6, 1, 7, 8, 9] rfl rfl ?_
                          exact ih37 (j + 1) _ (by (try clear cq147); (try clear cq119); (try clear cq96); omega) (by (try clear cq147); (try clear cq119); (try clear cq96); omega) (by 
                                                                                                                                                                                                                                                                                                                                                                                                                exact Or.inr ⟨by omega, j, by omega, by omega, fun z => by
                                                                                                                                                                                                                                                                                                                                                                                                                  obtain ⟨z1, z2, z3, z4⟩ := z
                                                                                                                                                                                                                                                                                                                                                                                                                  first
                                                                                                                                                                                                                                                                                                                                                                                                                    | (exact cq96 z1)
                                                                                                                                                                                                                                                                                                                                                                                                                    | (have z2 := z2 (by omega); exact cq119 z2)
                                                                                                                                                                                                                                                                                                                                                                                                                    | (have z3 := z3 (by omega); exact cq147 z3)
                                                                                                                                                                                                                                                                                                                                                                                                                    | (have z4 := z4 (by omega); exact z4 cq186)⟩) (by (try clear cq147); (try clear cq119); (try clear cq96); omega)
                  · refine g_top (v2 := aI 0) (congrArg aI (if_neg cq119)) ?_
                    refine g_istore_n (l1 := [(3, aI 0), (9, aI (((12 * p + (gAft S p j) : Nat) : Int))), (8, aI ((12 * p + j : Int))), (7, aI (((12 * p + (gAft S p i) : Nat) : Int))), (6, aI ((12 * p + i : Int))), (5, aI ((j : Int))), (4, aI ((i : Int))), (2, aI (((sGn S p : Nat) : Int))), (0, aO (some o)), (1, aI ((p : Int)))]) rfl rfl ?_
                    refine g_iload_n rfl rfl ?_
                    refine g_if_eq_t rfl (by (try clear cq147); (try clear cq119); (try clear cq96); omega) ?_
                    refine g_iload_n rfl rfl ?_
                    refine g_if_eq_t rfl (by (try clear cq147); (try clear cq119); (try clear cq96); omega) ?_
                    refine g_iinc (l1 := [(5, aI ((j : Int) + 1)), (3, aI 0), (9, aI (((12 * p + (gAft S p j) : Nat) : Int))), (8, aI ((12 * p + j : Int))), (7, aI (((12 * p + (gAft S p i) : Nat) : Int))), (6, aI ((12 * p + i : Int))), (4, aI ((i : Int))), (2, aI (((sGn S p : Nat) : Int))), (0, aO (some o)), (1, aI ((p : Int)))]) rfl rfl (by (try clear cq147); (try clear cq119); (try clear cq96); omega) (by (try clear cq147); (try clear cq119); (try clear cq96); omega) rfl ?_
                    refine g_goto rfl ?_
                    refine g_ls [0, 6, 1, 7, 8, 9] rfl rfl ?_
                    exact ih37 (j + 1) _ (by (try clear cq147); (try clear cq119); (try clear cq96); omega) (by (try clear cq147); (try clear cq119); (try clear cq96); omega) (by 
                                                                                                                                                                                                                                                                                                                                                                                                                exact Or.inr ⟨by omega, j, by omega, by omega, fun z => by
                                                                                                                                                                                                                                                                                                                                                                                                                  obtain ⟨z1, z2, z3, z4⟩ := z
                                                                                                                                                                                                                                                                                                                                                                                                                  first
                                                                                                                                                                                                                                                                                                                                                                                                                    | (exact cq96 z1)
                                                                                                                                                                                                                                                                                                                                                                                                                    | (have z2 := z2 (by omega); exact cq119 z2)
                                                                                                                                                                                                                                                                                                                                                                                                                    | (have z3 := z3 (by omega); exact cq147 z3)
                                                                                                                                                                                                                                                                                                                                                                                                                    | (have z4 := z4 (by omega); exact z4 cq186)⟩) (by (try clear cq147); (try clear cq119); (try clear cq96); omega)
              · refine g_top (v2 := aI 0) (congrArg aI (if_neg cq96)) ?_
                refine g_istore_n (l1 := [(3, aI 0), (9, aI (((12 * p + (gAft S p j) : Nat) : Int))), (8, aI ((12 * p + j : Int))), (7, aI (((12 * p + (gAft S p i) : Nat) : Int))), (6, aI ((12 * p + i : Int))), (5, aI ((j : Int))), (4, aI ((i : Int))), (2, aI (((sGn S p : Nat) : Int))), (0, aO (some o)), (1, aI ((p : Int)))]) rfl rfl ?_
                refine g_iload_n rfl rfl ?_
                refine g_if_eq_t rfl (by (try clear cq147); (try clear cq119); (try clear cq96); omega) ?_
                refine g_iload_n rfl rfl ?_
                refine g_if_eq_t rfl (by (try clear cq147); (try clear cq119); (try clear cq96); omega) ?_
                refine g_iload_n rfl rfl ?_
                refine g_if_eq_t rfl (by (try clear cq147); (try clear cq119); (try clear cq96); omega) ?_
                refine g_iinc (l1 := [(5, aI ((j : Int) + 1)), (3, aI 0), (9, aI (((12 * p + (gAft S p j) : Nat) : Int))), (8, aI ((12 * p + j : Int))), (7, aI (((12 * p + (gAft S p i) : Nat) : Int))), (6, aI ((12 * p + i : Int))), (4, aI ((i : Int))), (2, aI (((sGn S p : Nat) : Int))), (0, aO (some o)), (1, aI ((p : Int)))]) rfl rfl (by (try clear cq147); (try clear cq119); (try clear cq96); omega) (by (try clear cq147); (try clear cq119); (try clear cq96); omega) rfl ?_
                refine g_goto rfl ?_
                refine g_ls [0, 6, 1, 7, 8, 9] rfl rfl ?_
                exact ih37 (j + 1) _ (by (try clear cq147); (try clear cq119); (try clear cq96); omega) (by (try clear cq147); (try clear cq119); (try clear cq96); omega) (by 
                                                                                                                                                                                                                                                                                                                                                                                                                exact Or.inr ⟨by omega, j, by omega, by omega, fun z => by
                                                                                                                                                                                                                                                                                                                                                                                                                  obtain ⟨z1, z2, z3, z4⟩ := z
                                                                                                                                                                                                                                                                                                                                                                                                                  first
                                                                                                                                                                                                                                                                                                                                                                                                                    | (exact cq96 z1)
                                                                                                                                                                                                                                                                                                                                                                                                                    | (have z2 := z2 (by omega); exact cq119 z2)
                                                                                                                                                                                                                                                                                                                                                                                                                    | (have z3 := z3 (by omega); exact cq147 z3)
                                                                                                                                                                                                                                                                                                                                                                                                                    | (have z4 := z4 (by omega); exact z4 cq186)⟩) (by (try clear cq147); (try clear cq119); (try clear cq96); omega)
      refine g_iload rfl rfl ?_
      refine g_iload_n rfl rfl ?_
      refine g_icmp_ge rfl (fun cq24 => ?_) (fun cq24 => ?_)
      · skip
        refine g_iload_n rfl rfl ?_
        refine g_zret rfl (by omega) ?_
        refine ⟨rfl, ?_⟩
        rcases hs with z | z
        · rw [if_pos (bt_iff.mpr ⟨z.2.1, fun a b h1 h2 => z.2.2 a b (by omega) h1 h2⟩)]
          exact z.1
        · rw [if_neg (fun y => z.2 (bt_iff.mp y))]
          exact z.1
      · skip
        refine g_iload_n rfl rfl ?_
        refine g_if_eq rfl (fun cq28 => ?_) (fun cq28 => ?_)
        · skip
          refine g_iload_n rfl rfl ?_
          refine g_zret rfl (by omega) ?_
          refine ⟨rfl, ?_⟩
          rcases hs with z | z
          · rw [if_pos (bt_iff.mpr ⟨z.2.1, fun a b h1 h2 => z.2.2 a b (by omega) h1 h2⟩)]
            exact z.1
          · rw [if_neg (fun y => z.2 (bt_iff.mp y))]
            exact z.1
        · skip
          refine g_iload rfl rfl ?_
          refine g_iconst rfl ?_
          refine g_iadd rfl (by (try clear cq147); (try clear cq119); (try clear cq96); omega) (by (try clear cq147); (try clear cq119); (try clear cq96); omega) ?_
          refine g_istore (l1 := [(5, aI (((i : Int)) + 1)), (4, aI ((i : Int))), (3, aI s), (2, aI (((sGn S p : Nat) : Int))), (0, aO (some o)), (1, aI ((p : Int)))]) rfl rfl ?_
          exact l37 _ (i + 1) _ (by (try clear cq147); (try clear cq119); (try clear cq96); omega) (by (try clear cq147); (try clear cq119); (try clear cq96); omega) (by exact Or.inl ⟨by omega, fun b h1 h2 => by omega⟩) (Nat.lt_succ_self _)
  refine g_aload_n rfl rfl ?_
  refine g_getR rfl ms.1 (mr_corners ms) ?_
  refine g_iload_n rfl rfl ?_
  refine g_iald (i := p) rfl (mt_corners ms) (by (try clear cq147); (try clear cq119); (try clear cq96); omega) (by (try clear cq147); (try clear cq119); (try clear cq96); omega) ?_
  refine g_top (v2 := aI ((sGn S p : Int))) (congrArg aI (by exact (mg.2 p hp).1)) ?_
  refine g_istore_n (l1 := [(2, aI ((sGn S p : Int))), (0, aO (some o)), (1, aI ((p : Int)))]) rfl rfl ?_
  refine g_iload_n rfl rfl ?_
  refine g_iconst rfl ?_
  refine g_icmp_lt rfl (fun cq9 => ?_) (fun cq9 => ?_)
  · skip
    refine g_iconst rfl ?_
    refine g_istore_n (l1 := [(3, aI 0), (2, aI ((sGn S p : Int))), (0, aO (some o)), (1, aI ((p : Int)))]) rfl rfl ?_
    refine g_iconst rfl ?_
    refine g_istore (l1 := [(4, aI 0), (3, aI 0), (2, aI ((sGn S p : Int))), (0, aO (some o)), (1, aI ((p : Int)))]) rfl rfl ?_
    exact l21 _ 0 _ (by (try clear cq147); (try clear cq119); (try clear cq96); omega) (by 
                                                                                                                                                                                                                                                                                                                                                                                                                first
                                                                                                                                                                                                                                                                                                                                                                                                                | (refine Or.inl ⟨rfl, ?_, fun a b h1 => ?_⟩ <;> omega)
                                                                                                                                                                                                                                                                                                                                                                                                                | (exact Or.inr ⟨rfl, fun z => by have := z.1; omega⟩)) (Nat.lt_succ_self _)
  · skip
    refine g_iconst rfl ?_
    refine g_goto rfl ?_
    refine g_istore_n (l1 := [(3, aI 1), (2, aI ((sGn S p : Int))), (0, aO (some o)), (1, aI ((p : Int)))]) rfl rfl ?_
    refine g_iconst rfl ?_
    refine g_istore (l1 := [(4, aI 0), (3, aI 1), (2, aI ((sGn S p : Int))), (0, aO (some o)), (1, aI ((p : Int)))]) rfl rfl ?_
    exact l21 _ 0 _ (by (try clear cq147); (try clear cq119); (try clear cq96); omega) (by 
                                                                                                                                                                                                                                                                                                                                                                                                                first
                                                                                                                                                                                                                                                                                                                                                                                                                | (refine Or.inl ⟨rfl, ?_, fun a b h1 => ?_⟩ <;> omega)
                                                                                                                                                                                                                                                                                                                                                                                                                | (exact Or.inr ⟨rfl, fun z => by have := z.1; omega⟩)) (Nat.lt_succ_self _)
/-- the greatest square so far, by the greater corner -/
def gMy (S : aS) (p i j : Nat) (g : Int) : Prop := (∀ a b, a < b → (b < i ∨ (b = i ∧ a < j)) → gQ S p a b ≤ g) ∧ (g = 0 ∨ ∃ a b, a < b ∧ b ≤ i ∧ b < sGn S p ∧ g = gQ S p a b) ∧ 0 ≤ g
theorem gMy_up {S : aS} {p i j : Nat} {g q : Int} (h : gMy S p i j g) (hj : j < i ∧ i < sGn S p) (hq : q = gQ S p j i ∧ g < q) : gMy S p i (j + 1) q := by
  obtain ⟨h1, h2, h3⟩ := h
  refine ⟨fun a b x z => ?_, Or.inr ⟨j, i, hj.1, Nat.le_refl _, hj.2, hq.1⟩, by omega⟩
  by_cases e : a = j ∧ b = i
  · rw [e.1, e.2, ← hq.1]
    omega
  · have := h1 a b x (by omega)
    omega
theorem gMy_st {S : aS} {p i j : Nat} {g : Int} (h : gMy S p i j g) (hj : j < i ∧ i < sGn S p) (hq : gQ S p j i ≤ g) : gMy S p i (j + 1) g := by
  obtain ⟨h1, h2, h3⟩ := h
  refine ⟨fun a b x z => ?_, h2, h3⟩
  by_cases e : a = j ∧ b = i
  · rw [e.1, e.2]
    exact hq
  · exact h1 a b x (by omega)
theorem gMy_row {S : aS} {p i j : Nat} {g : Int} (h : gMy S p i j g) (hj : i ≤ j) : gMy S p (i + 1) 0 g := by
  refine ⟨fun a b x z => h.1 a b x (by omega), ?_, h.2.2⟩
  rcases h.2.1 with e | ⟨a, b, x, y, z, e⟩
  · exact Or.inl e
  · exact Or.inr ⟨a, b, x, by omega, z, e⟩
theorem gMy_mx {S : aS} {p : Nat} {g : Int} (h : gMy S p (sGn S p) 0 g) : gMx S p (sGn S p) (sGn S p) 0 g := by
  refine ⟨fun a b x y z => h.1 a b x (by omega), ?_, h.2.2⟩
  rcases h.2.1 with e | ⟨a, b, x, y, z, e⟩
  · exact Or.inl e
  · exact Or.inr ⟨a, b, x, z, e⟩
set_option maxRecDepth 100000 in
theorem m_pgMax {w : aW} {d : Nat} (hd : 2 ≤ d) {h : aH} {o : Nat} (ms : MS h o) (V : Nat → Nat → Int) {S : aS} (mg : MG V o S) (ok : OkG S) (p : Nat) (hp : p < sG S) : WP w d 348 [aO (some o), aI ((p : Int))] (hw h V) (RJ (fun r h1 => h1 = hw h V ∧ gMx S p (sGn S p) (sGn S p) 0 r)) := by
  obtain ⟨d, rfl⟩ : ∃ d1, d = d1 + 1 := ⟨d - 1, by omega⟩
  refine WP.enter (cd := cd_X12_widest) rfl ?_
  have hok := ok.1
  have hok2 := (ok.2 p hp).1
  have hls : largs 0 [aO (some o), aI ((p : Int))] = [(0, aO (some o)), (1, aI ((p : Int)))] := rfl
  rw [hls]
  clear hls
  have l5 : ∀ (fuel : Nat) (i : Nat) (g : Int), (i ≤ sGn S p) → (gMy S p i 0 g) → sGn S p - i < fuel → Wk w d cd_X12_widest 5 [(4, aI ((i : Int))), (2, aJ g), (0, aO (some o)), (1, aI ((p : Int)))] [] (hw h V) (RJ (fun r h1 => h1 = hw h V ∧ gMx S p (sGn S p) (sGn S p) 0 r)) := by
    intro fuel
    induction fuel with
    | zero => intros; omega
    | succ fuel ih5 =>
      intro i g hi hg hfuel
      have hok := ok.1
      have hok2 := (ok.2 p hp).1
      have l19 : ∀ (fuel : Nat) (j : Nat) (g : Int), (j ≤ i) → (gMy S p i j g) → i - j < fuel → Wk w d cd_X12_widest 19 [(5, aI ((j : Int))), (4, aI ((i : Int))), (2, aJ g), (0, aO (some o)), (1, aI ((p : Int)))] [] (hw h V) (RJ (fun r h1 => h1 = hw h V ∧ gMx S p (sGn S p) (sGn S p) 0 r)) := by
        intro fuel
        induction fuel with
        | zero => intros; omega
        | succ fuel ih19 =>
          intro j g hj hg hfuel
          refine g_iload rfl rfl ?_
          refine g_iload rfl rfl ?_
          refine g_icmp_ge rfl (fun cq23 => ?_) (fun cq23 => ?_)
          · skip
            refine g_iinc (l1 := [(4, aI ((i : Int) + 1)), (5, aI ((j : Int))), (2, aJ g), (0, aO (some o)), (1, aI ((p : Int)))]) rfl rfl (by omega) (by omega) rfl ?_
            refine g_goto rfl ?_
            refine g_ls [0, 2, 3, 4] rfl rfl ?_
            exact ih5 (i + 1) _ (by omega) (by exact gMy_row hg (by omega)) (by omega)
          · skip
            have bx := ok.x hp (i := i) (by omega)
            have by_ := ok.y hp (i := i) (by omega)
            have cx := ok.x hp (i := j) (by omega)
            have cy := ok.y hp (i := j) (by omega)
            have m1 := mul2k (x := gx S p i - gx S p j) (y := gx S p i - gx S p j) (by omega) (by omega)
            have m2 := mul2k (x := gy S p i - gy S p j) (y := gy S p i - gy S p j) (by omega) (by omega)
            refine g_aload_n rfl rfl ?_
            refine g_getR rfl ms.1 (mr_px ms) ?_
            refine g_bipush rfl ?_
            refine g_iload_n rfl rfl ?_
            refine g_imul rfl (by omega) (by omega) ?_
            refine g_iload rfl rfl ?_
            refine g_iadd rfl (by omega) (by omega) ?_
            refine g_iald (i := (12 * p) + i) rfl (mt_px ms) (by omega) (by omega) ?_
            refine g_top (v2 := aI (V (o + 7) ((12 * p) + i))) (congrArg aI (by rfl)) ?_
            refine g_aload_n rfl rfl ?_
            refine g_getR rfl ms.1 (mr_px ms) ?_
            refine g_bipush rfl ?_
            refine g_iload_n rfl rfl ?_
            refine g_imul rfl (by omega) (by omega) ?_
            refine g_iload rfl rfl ?_
            refine g_iadd rfl (by omega) (by omega) ?_
            refine g_iald (i := (12 * p) + j) rfl (mt_px ms) (by omega) (by omega) ?_
            refine g_top (v2 := aI (V (o + 7) ((12 * p) + j))) (congrArg aI (by rfl)) ?_
            refine g_isub rfl (by omega) (by omega) ?_
            refine g_i2l rfl ?_
            refine g_lstore (l1 := [(6, aJ ((V (o + 7) ((12 * p) + i)) - (V (o + 7) ((12 * p) + j)))), (5, aI ((j : Int))), (4, aI ((i : Int))), (2, aJ g), (0, aO (some o)), (1, aI ((p : Int)))]) rfl rfl ?_
            refine g_aload_n rfl rfl ?_
            refine g_getR rfl ms.1 (mr_py ms) ?_
            refine g_bipush rfl ?_
            refine g_iload_n rfl rfl ?_
            refine g_imul rfl (by omega) (by omega) ?_
            refine g_iload rfl rfl ?_
            refine g_iadd rfl (by omega) (by omega) ?_
            refine g_iald (i := (12 * p) + i) rfl (mt_py ms) (by omega) (by omega) ?_
            refine g_top (v2 := aI (V (o + 8) ((12 * p) + i))) (congrArg aI (by rfl)) ?_
            refine g_aload_n rfl rfl ?_
            refine g_getR rfl ms.1 (mr_py ms) ?_
            refine g_bipush rfl ?_
            refine g_iload_n rfl rfl ?_
            refine g_imul rfl (by omega) (by omega) ?_
            refine g_iload rfl rfl ?_
            refine g_iadd rfl (by omega) (by omega) ?_
            refine g_iald (i := (12 * p) + j) rfl (mt_py ms) (by omega) (by omega) ?_
            refine g_top (v2 := aI (V (o + 8) ((12 * p) + j))) (congrArg aI (by rfl)) ?_
            refine g_isub rfl (by omega) (by omega) ?_
            refine g_i2l rfl ?_
            refine g_lstore (l1 := [(8, aJ ((V (o + 8) ((12 * p) + i)) - (V (o + 8) ((12 * p) + j)))), (6, aJ ((V (o + 7) ((12 * p) + i)) - (V (o + 7) ((12 * p) + j)))), (5, aI ((j : Int))), (4, aI ((i : Int))), (2, aJ g), (0, aO (some o)), (1, aI ((p : Int)))]) rfl rfl ?_
            refine g_lload rfl rfl ?_
            refine g_lload rfl rfl ?_
            refine g_lmul rfl (by omega) (by omega) ?_
            refine g_lload rfl rfl ?_
            refine g_lload rfl rfl ?_
            refine g_lmul rfl (by omega) (by omega) ?_
            refine g_ladd rfl (by omega) (by omega) ?_
            refine g_lload_n rfl rfl ?_
            refine g_lc_le rfl rfl (fun cq94 => ?_) (fun cq94 => ?_)
            · skip
              refine g_lload_n rfl rfl ?_
              refine g_lstore_n (l1 := [(2, aJ g), (8, aJ ((V (o + 8) ((12 * p) + i)) - (V (o + 8) ((12 * p) + j)))), (6, aJ ((V (o + 7) ((12 * p) + i)) - (V (o + 7) ((12 * p) + j)))), (5, aI ((j : Int))), (4, aI ((i : Int))), (0, aO (some o)), (1, aI ((p : Int)))]) rfl rfl ?_
              refine g_iinc (l1 := [(5, aI ((j : Int) + 1)), (2, aJ g), (8, aJ ((V (o + 8) ((12 * p) + i)) - (V (o + 8) ((12 * p) + j)))), (6, aJ ((V (o + 7) ((12 * p) + i)) - (V (o + 7) ((12 * p) + j)))), (4, aI ((i : Int))), (0, aO (some o)), (1, aI ((p : Int)))]) rfl rfl (by omega) (by omega) rfl ?_
              refine g_goto rfl ?_
              refine g_ls [0, 4, 1, 5, 6] rfl rfl ?_
              exact ih19 (j + 1) _ (by omega) (by 
                                                                                                                                                                                                                                                                                                                                                                                                                first
                                                                                                                                                                                                                                                                                                                                                                                                                | (refine gMy_up hg ⟨by omega, by omega⟩ ?_; unfold gQ; omega)
                                                                                                                                                                                                                                                                                                                                                                                                                | (refine gMy_st hg ⟨by omega, by omega⟩ ?_; unfold gQ; omega)) (by omega)
            · skip
              refine g_lload rfl rfl ?_
              refine g_lload rfl rfl ?_
              refine g_lmul rfl (by omega) (by omega) ?_
              refine g_lload rfl rfl ?_
              refine g_lload rfl rfl ?_
              refine g_lmul rfl (by omega) (by omega) ?_
              refine g_ladd rfl (by omega) (by omega) ?_
              refine g_goto rfl ?_
              refine g_lstore_n (l1 := [(2, aJ ((((V (o + 7) ((12 * p) + i)) - (V (o + 7) ((12 * p) + j))) * ((V (o + 7) ((12 * p) + i)) - (V (o + 7) ((12 * p) + j)))) + (((V (o + 8) ((12 * p) + i)) - (V (o + 8) ((12 * p) + j))) * ((V (o + 8) ((12 * p) + i)) - (V (o + 8) ((12 * p) + j)))))), (8, aJ ((V (o + 8) ((12 * p) + i)) - (V (o + 8) ((12 * p) + j)))), (6, aJ ((V (o + 7) ((12 * p) + i)) - (V (o + 7) ((12 * p) + j)))), (5, aI ((j : Int))), (4, aI ((i : Int))), (0, aO (some o)), (1, aI ((p : Int)))]) rfl rfl ?_
              refine g_iinc (l1 := [(5, aI ((j : Int) + 1)), (2, aJ ((((V (o + 7) ((12 * p) + i)) - (V (o + 7) ((12 * p) + j))) * ((V (o + 7) ((12 * p) + i)) - (V (o + 7) ((12 * p) + j)))) + (((V (o + 8) ((12 * p) + i)) - (V (o + 8) ((12 * p) + j))) * ((V (o + 8) ((12 * p) + i)) - (V (o + 8) ((12 * p) + j)))))), (8, aJ ((V (o + 8) ((12 * p) + i)) - (V (o + 8) ((12 * p) + j)))), (6, aJ ((V (o + 7) ((12 * p) + i)) - (V (o + 7) ((12 * p) + j)))), (4, aI ((i : Int))), (0, aO (some o)), (1, aI ((p : Int)))]) rfl rfl (by omega) (by omega) rfl ?_
              refine g_goto rfl ?_
              refine g_ls [0, 4, 1, 5, 6] rfl rfl ?_
              exact ih19 (j + 1) _ (by omega) (by 
                                                                                                                                                                                                                                                                                                                                                                                                                first
                                                                                                                                                                                                                                                                                                                                                                                                                | (refine gMy_up hg ⟨by omega, by omega⟩ ?_; unfold gQ; omega)
                                                                                                                                                                                                                                                                                                                                                                                                                | (refine gMy_st hg ⟨by omega, by omega⟩ ?_; unfold gQ; omega)) (by omega)
      refine g_iload rfl rfl ?_
      refine g_aload_n rfl rfl ?_
      refine g_getR rfl ms.1 (mr_corners ms) ?_
      refine g_iload_n rfl rfl ?_
      refine g_iald (i := p) rfl (mt_corners ms) (by omega) (by omega) ?_
      refine g_top (v2 := aI ((sGn S p : Int))) (congrArg aI (by exact (mg.2 p hp).1)) ?_
      refine g_icmp_ge rfl (fun cq13 => ?_) (fun cq13 => ?_)
      · skip
        refine g_lload_n rfl rfl ?_
        refine g_lret rfl ?_
        refine ⟨rfl, gMy_mx ?_⟩
        rw [show sGn S p = i by omega]
        exact hg
      · skip
        refine g_iconst rfl ?_
        refine g_istore (l1 := [(5, aI 0), (4, aI ((i : Int))), (2, aJ g), (0, aO (some o)), (1, aI ((p : Int)))]) rfl rfl ?_
        exact l19 _ 0 _ (by omega) (by exact hg) (Nat.lt_succ_self _)
  refine g_lconst0 rfl ?_
  refine g_lstore_n (l1 := [(2, aJ 0), (0, aO (some o)), (1, aI ((p : Int)))]) rfl rfl ?_
  refine g_iconst rfl ?_
  refine g_istore (l1 := [(4, aI 0), (2, aJ 0), (0, aO (some o)), (1, aI ((p : Int)))]) rfl rfl ?_
  exact l5 _ 0 _ (by omega) (by exact ⟨fun a b x z => by omega, Or.inl rfl, by omega⟩) (Nat.lt_succ_self _)
abbrev mWon (S : aS) (p : Nat) (x y w : Int) (i : Nat) : Prop := (gx S p i * w - x) * (gy S p (gAft S p i) * w - y) - (gy S p i * w - y) * (gx S p (gAft S p i) * w - x) = 0 ∧ ¬ oneS (gx S p i * w - x) (gx S p (gAft S p i) * w - x) ∧ ¬ oneS (gy S p i * w - y) (gy S p (gAft S p i) * w - y)
abbrev mWt (S : aS) (p : Nat) (x y w : Int) (i : Nat) : Prop := ((gy S p i * w - y ≤ 0 ∧ 0 < gy S p (gAft S p i) * w - y) ∧ 0 < (gx S p i * w - x) * (gy S p (gAft S p i) * w - y) - (gy S p i * w - y) * (gx S p (gAft S p i) * w - x)) ∨ ((gy S p (gAft S p i) * w - y ≤ 0 ∧ 0 < gy S p i * w - y) ∧ (gx S p i * w - x) * (gy S p (gAft S p i) * w - y) - (gy S p i * w - y) * (gx S p (gAft S p i) * w - x) < 0)
theorem mw_t (S : aS) (p : Nat) (x y w : Int) (i : Nat) : (gx S p i * w - x) * (gy S p (gAft S p i) * w - y) - (gy S p i * w - y) * (gx S p (gAft S p i) * w - x) = w * gWs S p x y w i := by
  unfold gWs
  grind
theorem mw_on {S : aS} {p : Nat} {x y w : Int} (hw : 0 < w) (i : Nat) : mWon S p x y w i ↔ gWon S p x y w i := by
  unfold mWon gWon
  rw [mw_t, (sg_pos hw _).2]
  unfold oneS
  constructor
  · rintro ⟨h1, h2, h3⟩
    exact ⟨h1, by omega, by omega⟩
  · rintro ⟨h1, h2, h3⟩
    exact ⟨h1, by omega, by omega⟩
theorem mw_tog {S : aS} {p : Nat} {x y w : Int} (hw : 0 < w) (i : Nat) (hn : ¬ gWon S p x y w i) : mWt S p x y w i ↔ gWt S p x y w i := by
  have h1 := sg_pos hw (gWs S p x y w i)
  have h2 : 0 < w * gWs S p x y w i ↔ 0 < gWs S p x y w i := by
    have a := h1.1
    have b := h1.2
    omega
  have hx : gWs S p x y w i = 0 → ¬((0 < gy S p i * w - y ∧ gy S p (gAft S p i) * w - y ≤ 0) ∨ (gy S p i * w - y ≤ 0 ∧ 0 < gy S p (gAft S p i) * w - y)) := by
    intro e z
    have ht := mw_t S p x y w i
    rw [e, Int.mul_zero] at ht
    refine hn ⟨e, ?_, ?_⟩
    · have k : oneS (gx S p i * w - x) (gx S p (gAft S p i) * w - x) → False := by
        generalize gx S p i * w - x = a1 at ht ⊢
        generalize gx S p (gAft S p i) * w - x = b1 at ht ⊢
        generalize gy S p i * w - y = a2 at ht z
        generalize gy S p (gAft S p i) * w - y = b2 at ht z
        rintro (⟨o1, o2⟩ | ⟨o1, o2⟩)
        · rcases z with ⟨z1, z2⟩ | ⟨z1, z2⟩
          · have q1 := Int.mul_nonneg_of_nonpos_of_nonpos (Int.le_of_lt o1) z2
            have q2 := Int.mul_neg_of_pos_of_neg z1 o2
            omega
          · have q1 := Int.mul_neg_of_neg_of_pos o1 z2
            have q2 := Int.mul_nonneg_of_nonpos_of_nonpos z1 (Int.le_of_lt o2)
            omega
        · rcases z with ⟨z1, z2⟩ | ⟨z1, z2⟩
          · have q1 := Int.mul_nonpos_of_nonneg_of_nonpos (Int.le_of_lt o1) z2
            have q2 := Int.mul_pos z1 o2
            omega
          · have q1 := Int.mul_pos o1 z2
            have q2 := Int.mul_nonpos_of_nonpos_of_nonneg z1 (Int.le_of_lt o2)
            omega
      unfold oneS at k ⊢
      omega
    · unfold oneS
      omega
  unfold mWt gWt
  rw [mw_t]
  have h3 := h1.1
  omega
set_option maxRecDepth 100000 in
theorem m_pgWhere {w : aW} {d : Nat} (hd : 3 ≤ d) {h : aH} {o : Nat} (ms : MS h o) (V : Nat → Nat → Int) {S : aS} (mg : MG V o S) (ok : OkG S) (p : Nat) (hp : p < sG S) (x y w1 : Int) (hx : -1048576 ≤ x ∧ x ≤ 1048576) (hy : -1048576 ≤ y ∧ y ≤ 1048576) (hw1 : 0 < w1 ∧ w1 ≤ 1048576) : WP w d 347 [aO (some o), aI ((p : Int)), aJ x, aJ y, aJ w1] (hw h V) (RI (fun r h1 => h1 = hw h V ∧ r = gWh S p x y w1)) := by
  obtain ⟨d, rfl⟩ : ∃ d1, d = d1 + 1 := ⟨d - 1, by omega⟩
  refine WP.enter (cd := cd_X12_isIn) rfl ?_
  have hok := ok.1
  have hok2 := (ok.2 p hp).1
  have hls : largs 0 [aO (some o), aI ((p : Int)), aJ x, aJ y, aJ w1] = [(0, aO (some o)), (1, aI ((p : Int))), (2, aJ x), (4, aJ y), (6, aJ w1)] := rfl
  rw [hls]
  clear hls
  have l6 : ∀ (fuel : Nat) (i : Nat) (l : Int), (i ≤ sGn S p) → (gWo S p x y w1 i = false) → (l = if gWi S p x y w1 i = true then 1 else 0) → sGn S p - i < fuel → Wk w d cd_X12_isIn 6 [(9, aI ((i : Int))), (8, aI l), (0, aO (some o)), (1, aI ((p : Int))), (2, aJ x), (4, aJ y), (6, aJ w1)] [] (hw h V) (RI (fun r h1 => h1 = hw h V ∧ r = gWh S p x y w1)) := by
    intro fuel
    induction fuel with
    | zero => intros; omega
    | succ fuel ih6 =>
      intro i l hi hn hl hfuel
      have hok := ok.1
      have hok2 := (ok.2 p hp).1
      refine g_iload rfl rfl ?_
      refine g_aload_n rfl rfl ?_
      refine g_getR rfl ms.1 (mr_corners ms) ?_
      refine g_iload_n rfl rfl ?_
      refine g_iald (i := p) rfl (mt_corners ms) (by omega) (by omega) ?_
      refine g_top (v2 := aI ((sGn S p : Int))) (congrArg aI (by exact (mg.2 p hp).1)) ?_
      refine g_icmp_ge rfl (fun cq14 => ?_) (fun cq14 => ?_)
      · skip
        refine g_iload rfl rfl ?_
        refine g_if_eq rfl (fun cq272 => ?_) (fun cq272 => ?_)
        · skip
          refine g_iconst rfl ?_
          refine g_iret rfl ?_
          refine ⟨rfl, ?_⟩
          unfold gWh
          rw [show sGn S p = i by omega, hn, if_neg (by decide)]
          cases hW : gWi S p x y w1 i <;> rw [hW] at hl <;> simp at hl ⊢ <;> omega
        · skip
          refine g_iconst rfl ?_
          refine g_goto rfl ?_
          refine g_iret rfl ?_
          refine ⟨rfl, ?_⟩
          unfold gWh
          rw [show sGn S p = i by omega, hn, if_neg (by decide)]
          cases hW : gWi S p x y w1 i <;> rw [hW] at hl <;> simp at hl ⊢ <;> omega
      · skip
        have li := gAft_lt (S := S) (p := p) (i := i) (by omega)
        have bx := ok.x hp (i := i) (by omega)
        have by_ := ok.y hp (i := i) (by omega)
        have cx := ok.x hp li
        have cy := ok.y hp li
        refine g_aload_n rfl rfl ?_
        refine g_iload_n rfl rfl ?_
        refine g_iload rfl rfl ?_
        refine g_callVI [aI ((p : Int)), aI ((i : Int))] [] rfl rfl rfl rfl (Nat.le_of_ble_eq_true rfl) ms.1 (m_pgAt0 (by omega) ms V mg ok p hp i (by omega)) ?_
        rintro r1 hx1 ⟨ehx1, rfl⟩
        rw [ehx1]
        clear ehx1 hx1
        refine g_istore (l1 := [(10, aI ((12 * p + i : Int))), (9, aI ((i : Int))), (8, aI l), (0, aO (some o)), (1, aI ((p : Int))), (2, aJ x), (4, aJ y), (6, aJ w1)]) rfl rfl ?_
        refine g_aload_n rfl rfl ?_
        refine g_iload_n rfl rfl ?_
        refine g_iload rfl rfl ?_
        refine g_iconst rfl ?_
        refine g_iadd rfl (by omega) (by omega) ?_
        refine g_callVI [aI ((p : Int)), aI (((i : Int)) + 1)] [] rfl rfl rfl rfl (Nat.le_of_ble_eq_true rfl) ms.1 (m_pgAt1 (by omega) ms V mg ok p hp i (by omega)) ?_
        rintro r2 hx2 ⟨ehx2, rfl⟩
        rw [ehx2]
        clear ehx2 hx2
        refine g_istore (l1 := [(11, aI (((12 * p + (gAft S p i) : Nat) : Int))), (10, aI ((12 * p + i : Int))), (9, aI ((i : Int))), (8, aI l), (0, aO (some o)), (1, aI ((p : Int))), (2, aJ x), (4, aJ y), (6, aJ w1)]) rfl rfl ?_
        refine g_aload_n rfl rfl ?_
        refine g_getR rfl ms.1 (mr_px ms) ?_
        refine g_iload rfl rfl ?_
        refine g_iald (i := 12 * p + i) rfl (mt_px ms) (by omega) (by omega) ?_
        refine g_top (v2 := aI (gx S p i)) (congrArg aI (by exact ((mg.2 p hp).2 i (by omega)).1)) ?_
        refine g_i2l rfl ?_
        refine g_lload rfl rfl ?_
        have m47 := mulq (a := 1000) (b := 1048576) (x := gx S p i) (y := w1) (by omega) (by omega)
        refine g_lmul rfl (by omega) (by omega) ?_
        refine g_lload_n rfl rfl ?_
        refine g_lsub rfl (by omega) (by omega) ?_
        refine g_lstore (l1 := [(12, aJ (((gx S p i) * w1) - x)), (11, aI (((12 * p + (gAft S p i) : Nat) : Int))), (10, aI ((12 * p + i : Int))), (9, aI ((i : Int))), (8, aI l), (0, aO (some o)), (1, aI ((p : Int))), (2, aJ x), (4, aJ y), (6, aJ w1)]) rfl rfl ?_
        refine g_aload_n rfl rfl ?_
        refine g_getR rfl ms.1 (mr_py ms) ?_
        refine g_iload rfl rfl ?_
        refine g_iald (i := 12 * p + i) rfl (mt_py ms) (by omega) (by omega) ?_
        refine g_top (v2 := aI (gy S p i)) (congrArg aI (by exact ((mg.2 p hp).2 i (by omega)).2)) ?_
        refine g_i2l rfl ?_
        refine g_lload rfl rfl ?_
        have m62 := mulq (a := 1000) (b := 1048576) (x := gy S p i) (y := w1) (by omega) (by omega)
        refine g_lmul rfl (by omega) (by omega) ?_
        refine g_lload rfl rfl ?_
        refine g_lsub rfl (by omega) (by omega) ?_
        refine g_lstore (l1 := [(14, aJ (((gy S p i) * w1) - y)), (12, aJ (((gx S p i) * w1) - x)), (11, aI (((12 * p + (gAft S p i) : Nat) : Int))), (10, aI ((12 * p + i : Int))), (9, aI ((i : Int))), (8, aI l), (0, aO (some o)), (1, aI ((p : Int))), (2, aJ x), (4, aJ y), (6, aJ w1)]) rfl rfl ?_
        refine g_aload_n rfl rfl ?_
        refine g_getR rfl ms.1 (mr_px ms) ?_
        refine g_iload rfl rfl ?_
        refine g_iald (i := 12 * p + (gAft S p i)) rfl (mt_px ms) (by omega) (by omega) ?_
        refine g_top (v2 := aI (gx S p (gAft S p i))) (congrArg aI (by exact ((mg.2 p hp).2 (gAft S p i) (by omega)).1)) ?_
        refine g_i2l rfl ?_
        refine g_lload rfl rfl ?_
        have m78 := mulq (a := 1000) (b := 1048576) (x := gx S p (gAft S p i)) (y := w1) (by omega) (by omega)
        refine g_lmul rfl (by omega) (by omega) ?_
        refine g_lload_n rfl rfl ?_
        refine g_lsub rfl (by omega) (by omega) ?_
        refine g_lstore (l1 := [(16, aJ (((gx S p (gAft S p i)) * w1) - x)), (14, aJ (((gy S p i) * w1) - y)), (12, aJ (((gx S p i) * w1) - x)), (11, aI (((12 * p + (gAft S p i) : Nat) : Int))), (10, aI ((12 * p + i : Int))), (9, aI ((i : Int))), (8, aI l), (0, aO (some o)), (1, aI ((p : Int))), (2, aJ x), (4, aJ y), (6, aJ w1)]) rfl rfl ?_
        refine g_aload_n rfl rfl ?_
        refine g_getR rfl ms.1 (mr_py ms) ?_
        refine g_iload rfl rfl ?_
        refine g_iald (i := 12 * p + (gAft S p i)) rfl (mt_py ms) (by omega) (by omega) ?_
        refine g_top (v2 := aI (gy S p (gAft S p i))) (congrArg aI (by exact ((mg.2 p hp).2 (gAft S p i) (by omega)).2)) ?_
        refine g_i2l rfl ?_
        refine g_lload rfl rfl ?_
        have m93 := mulq (a := 1000) (b := 1048576) (x := gy S p (gAft S p i)) (y := w1) (by omega) (by omega)
        refine g_lmul rfl (by omega) (by omega) ?_
        refine g_lload rfl rfl ?_
        refine g_lsub rfl (by omega) (by omega) ?_
        refine g_lstore (l1 := [(18, aJ (((gy S p (gAft S p i)) * w1) - y)), (16, aJ (((gx S p (gAft S p i)) * w1) - x)), (14, aJ (((gy S p i) * w1) - y)), (12, aJ (((gx S p i) * w1) - x)), (11, aI (((12 * p + (gAft S p i) : Nat) : Int))), (10, aI ((12 * p + i : Int))), (9, aI ((i : Int))), (8, aI l), (0, aO (some o)), (1, aI ((p : Int))), (2, aJ x), (4, aJ y), (6, aJ w1)]) rfl rfl ?_
        refine g_lload rfl rfl ?_
        refine g_lload rfl rfl ?_
        have m103 := mulq (a := 1050000000) (b := 1050000000) (x := gx S p i * w1 - x) (y := gy S p (gAft S p i) * w1 - y) (by omega) (by omega)
        refine g_lmul rfl (by omega) (by omega) ?_
        refine g_lload rfl rfl ?_
        refine g_lload rfl rfl ?_
        have m108 := mulq (a := 1050000000) (b := 1050000000) (x := gy S p i * w1 - y) (y := gx S p (gAft S p i) * w1 - x) (by omega) (by omega)
        refine g_lmul rfl (by omega) (by omega) ?_
        refine g_lsub rfl (by omega) (by omega) ?_
        refine g_lstore (l1 := [(20, aJ (((((gx S p i) * w1) - x) * (((gy S p (gAft S p i)) * w1) - y)) - ((((gy S p i) * w1) - y) * (((gx S p (gAft S p i)) * w1) - x)))), (18, aJ (((gy S p (gAft S p i)) * w1) - y)), (16, aJ (((gx S p (gAft S p i)) * w1) - x)), (14, aJ (((gy S p i) * w1) - y)), (12, aJ (((gx S p i) * w1) - x)), (11, aI (((12 * p + (gAft S p i) : Nat) : Int))), (10, aI ((12 * p + i : Int))), (9, aI ((i : Int))), (8, aI l), (0, aO (some o)), (1, aI ((p : Int))), (2, aJ x), (4, aJ y), (6, aJ w1)]) rfl rfl ?_
        refine g_lload rfl rfl ?_
        refine g_lconst0 rfl ?_
        refine g_lc_ne rfl rfl (fun cq115 => ?_) (fun cq115 => ?_)
        · skip
          refine g_iconst rfl ?_
          refine g_istore (l1 := [(22, aI 0), (20, aJ (((((gx S p i) * w1) - x) * (((gy S p (gAft S p i)) * w1) - y)) - ((((gy S p i) * w1) - y) * (((gx S p (gAft S p i)) * w1) - x)))), (18, aJ (((gy S p (gAft S p i)) * w1) - y)), (16, aJ (((gx S p (gAft S p i)) * w1) - x)), (14, aJ (((gy S p i) * w1) - y)), (12, aJ (((gx S p i) * w1) - x)), (11, aI (((12 * p + (gAft S p i) : Nat) : Int))), (10, aI ((12 * p + i : Int))), (9, aI ((i : Int))), (8, aI l), (0, aO (some o)), (1, aI ((p : Int))), (2, aJ x), (4, aJ y), (6, aJ w1)]) rfl rfl ?_
          refine g_iload rfl rfl ?_
          refine g_if_eq_t rfl (by omega) ?_
          have hno : ¬ gWon S p x y w1 i := fun z => by
            have z := (mw_on hw1.1 i).mpr z
            unfold mWon oneS at z
            have z1 := z.1
            have z2 := z.2.1
            have z3 := z.2.2
            omega
          refine g_lload rfl rfl ?_
          refine g_lconst0 rfl ?_
          refine g_lc_gt rfl rfl (fun cq184 => ?_) (fun cq184 => ?_)
          · skip
            refine g_iconst rfl ?_
            refine g_istore (l1 := [(23, aI 0), (22, aI 0), (20, aJ (((((gx S p i) * w1) - x) * (((gy S p (gAft S p i)) * w1) - y)) - ((((gy S p i) * w1) - y) * (((gx S p (gAft S p i)) * w1) - x)))), (18, aJ (((gy S p (gAft S p i)) * w1) - y)), (16, aJ (((gx S p (gAft S p i)) * w1) - x)), (14, aJ (((gy S p i) * w1) - y)), (12, aJ (((gx S p i) * w1) - x)), (11, aI (((12 * p + (gAft S p i) : Nat) : Int))), (10, aI ((12 * p + i : Int))), (9, aI ((i : Int))), (8, aI l), (0, aO (some o)), (1, aI ((p : Int))), (2, aJ x), (4, aJ y), (6, aJ w1)]) rfl rfl ?_
            refine g_lload rfl rfl ?_
            refine g_lconst0 rfl ?_
            refine g_lc_gt rfl rfl (fun cq205 => ?_) (fun cq205 => ?_)
            · skip
              refine g_iconst rfl ?_
              refine g_istore (l1 := [(24, aI 0), (23, aI 0), (22, aI 0), (20, aJ (((((gx S p i) * w1) - x) * (((gy S p (gAft S p i)) * w1) - y)) - ((((gy S p i) * w1) - y) * (((gx S p (gAft S p i)) * w1) - x)))), (18, aJ (((gy S p (gAft S p i)) * w1) - y)), (16, aJ (((gx S p (gAft S p i)) * w1) - x)), (14, aJ (((gy S p i) * w1) - y)), (12, aJ (((gx S p i) * w1) - x)), (11, aI (((12 * p + (gAft S p i) : Nat) : Int))), (10, aI ((12 * p + i : Int))), (9, aI ((i : Int))), (8, aI l), (0, aO (some o)), (1, aI ((p : Int))), (2, aJ x), (4, aJ y), (6, aJ w1)]) rfl rfl ?_
              refine g_iload rfl rfl ?_
              refine g_iload rfl rfl ?_
              refine g_if_eq_t rfl (by omega) ?_
              refine g_iload rfl rfl ?_
              refine g_if_eq_t rfl (by omega) ?_
              refine g_iconst rfl ?_
              refine g_icmp_eq rfl (fun cq254 => ?_) (fun cq254 => ?_)
              · skip
                refine g_iconst rfl ?_
                refine g_istore (l1 := [(8, aI 0), (24, aI 0), (23, aI 0), (22, aI 0), (20, aJ (((((gx S p i) * w1) - x) * (((gy S p (gAft S p i)) * w1) - y)) - ((((gy S p i) * w1) - y) * (((gx S p (gAft S p i)) * w1) - x)))), (18, aJ (((gy S p (gAft S p i)) * w1) - y)), (16, aJ (((gx S p (gAft S p i)) * w1) - x)), (14, aJ (((gy S p i) * w1) - y)), (12, aJ (((gx S p i) * w1) - x)), (11, aI (((12 * p + (gAft S p i) : Nat) : Int))), (10, aI ((12 * p + i : Int))), (9, aI ((i : Int))), (0, aO (some o)), (1, aI ((p : Int))), (2, aJ x), (4, aJ y), (6, aJ w1)]) rfl rfl ?_
                refine g_iinc (l1 := [(9, aI ((i : Int) + 1)), (8, aI 0), (24, aI 0), (23, aI 0), (22, aI 0), (20, aJ (((((gx S p i) * w1) - x) * (((gy S p (gAft S p i)) * w1) - y)) - ((((gy S p i) * w1) - y) * (((gx S p (gAft S p i)) * w1) - x)))), (18, aJ (((gy S p (gAft S p i)) * w1) - y)), (16, aJ (((gx S p (gAft S p i)) * w1) - x)), (14, aJ (((gy S p i) * w1) - y)), (12, aJ (((gx S p i) * w1) - x)), (11, aI (((12 * p + (gAft S p i) : Nat) : Int))), (10, aI ((12 * p + i : Int))), (0, aO (some o)), (1, aI ((p : Int))), (2, aJ x), (4, aJ y), (6, aJ w1)]) rfl rfl (by omega) (by omega) rfl ?_
                refine g_goto rfl ?_
                refine g_ls [0, 1, 12, 13, 14, 15, 16] rfl rfl ?_
                exact ih6 (i + 1) _ (by omega) (by exact gWo_no hn hno rfl) (by exact xor_step hl (fun z => by have z := (mw_tog hw1.1 i hno).mpr z; exact ⟨fun q => by omega, fun q => by omega⟩) (fun z => by have z := fun y => z ((mw_tog hw1.1 i hno).mp y); omega)) (by omega)
              · skip
                refine g_iconst rfl ?_
                refine g_goto rfl ?_
                refine g_istore (l1 := [(8, aI 1), (24, aI 0), (23, aI 0), (22, aI 0), (20, aJ (((((gx S p i) * w1) - x) * (((gy S p (gAft S p i)) * w1) - y)) - ((((gy S p i) * w1) - y) * (((gx S p (gAft S p i)) * w1) - x)))), (18, aJ (((gy S p (gAft S p i)) * w1) - y)), (16, aJ (((gx S p (gAft S p i)) * w1) - x)), (14, aJ (((gy S p i) * w1) - y)), (12, aJ (((gx S p i) * w1) - x)), (11, aI (((12 * p + (gAft S p i) : Nat) : Int))), (10, aI ((12 * p + i : Int))), (9, aI ((i : Int))), (0, aO (some o)), (1, aI ((p : Int))), (2, aJ x), (4, aJ y), (6, aJ w1)]) rfl rfl ?_
                refine g_iinc (l1 := [(9, aI ((i : Int) + 1)), (8, aI 1), (24, aI 0), (23, aI 0), (22, aI 0), (20, aJ (((((gx S p i) * w1) - x) * (((gy S p (gAft S p i)) * w1) - y)) - ((((gy S p i) * w1) - y) * (((gx S p (gAft S p i)) * w1) - x)))), (18, aJ (((gy S p (gAft S p i)) * w1) - y)), (16, aJ (((gx S p (gAft S p i)) * w1) - x)), (14, aJ (((gy S p i) * w1) - y)), (12, aJ (((gx S p i) * w1) - x)), (11, aI (((12 * p + (gAft S p i) : Nat) : Int))), (10, aI ((12 * p + i : Int))), (0, aO (some o)), (1, aI ((p : Int))), (2, aJ x), (4, aJ y), (6, aJ w1)]) rfl rfl (by omega) (by omega) rfl ?_
                refine g_goto rfl ?_
                refine g_ls [0, 1, 12, 13, 14, 15, 16] rfl rfl ?_
                exact ih6 (i + 1) _ (by omega) (by exact gWo_no hn hno rfl) (by exact xor_step hl (fun z => by have z := (mw_tog hw1.1 i hno).mpr z; exact ⟨fun q => by omega, fun q => by omega⟩) (fun z => by have z := fun y => z ((mw_tog hw1.1 i hno).mp y); omega)) (by omega)
            · skip
              refine g_lload rfl rfl ?_
              refine g_lconst0 rfl ?_
              refine g_lc_le rfl rfl (fun cq212 => ?_) (fun cq212 => ?_)
              · skip
                refine g_iconst rfl ?_
                refine g_istore (l1 := [(24, aI 0), (23, aI 0), (22, aI 0), (20, aJ (((((gx S p i) * w1) - x) * (((gy S p (gAft S p i)) * w1) - y)) - ((((gy S p i) * w1) - y) * (((gx S p (gAft S p i)) * w1) - x)))), (18, aJ (((gy S p (gAft S p i)) * w1) - y)), (16, aJ (((gx S p (gAft S p i)) * w1) - x)), (14, aJ (((gy S p i) * w1) - y)), (12, aJ (((gx S p i) * w1) - x)), (11, aI (((12 * p + (gAft S p i) : Nat) : Int))), (10, aI ((12 * p + i : Int))), (9, aI ((i : Int))), (8, aI l), (0, aO (some o)), (1, aI ((p : Int))), (2, aJ x), (4, aJ y), (6, aJ w1)]) rfl rfl ?_
                refine g_iload rfl rfl ?_
                refine g_iload rfl rfl ?_
                refine g_if_eq_t rfl (by omega) ?_
                refine g_iload rfl rfl ?_
                refine g_if_eq_t rfl (by omega) ?_
                refine g_iconst rfl ?_
                refine g_icmp_eq rfl (fun cq254 => ?_) (fun cq254 => ?_)
                · skip
                  refine g_iconst rfl ?_
                  refine g_istore (l1 := [(8, aI 0), (24, aI 0), (23, aI 0), (22, aI 0), (20, aJ (((((gx S p i) * w1) - x) * (((gy S p (gAft S p i)) * w1) - y)) - ((((gy S p i) * w1) - y) * (((gx S p (gAft S p i)) * w1) - x)))), (18, aJ (((gy S p (gAft S p i)) * w1) - y)), (16, aJ (((gx S p (gAft S p i)) * w1) - x)), (14, aJ (((gy S p i) * w1) - y)), (12, aJ (((gx S p i) * w1) - x)), (11, aI (((12 * p + (gAft S p i) : Nat) : Int))), (10, aI ((12 * p + i : Int))), (9, aI ((i : Int))), (0, aO (some o)), (1, aI ((p : Int))), (2, aJ x), (4, aJ y), (6, aJ w1)]) rfl rfl ?_
                  refine g_iinc (l1 := [(9, aI ((i : Int) + 1)), (8, aI 0), (24, aI 0), (23, aI 0), (22, aI 0), (20, aJ (((((gx S p i) * w1) - x) * (((gy S p (gAft S p i)) * w1) - y)) - ((((gy S p i) * w1) - y) * (((gx S p (gAft S p i)) * w1) - x)))), (18, aJ (((gy S p (gAft S p i)) * w1) - y)), (16, aJ (((gx S p (gAft S p i)) * w1) - x)), (14, aJ (((gy S p i) * w1) - y)), (12, aJ (((gx S p i) * w1) - x)), (11, aI (((12 * p + (gAft S p i) : Nat) : Int))), (10, aI ((12 * p + i : Int))), (0, aO (some o)), (1, aI ((p : Int))), (2, aJ x), (4, aJ y), (6, aJ w1)]) rfl rfl (by omega) (by omega) rfl ?_
                  refine g_goto rfl ?_
                  refine g_ls [0, 1, 12, 13, 14, 15, 16] rfl rfl ?_
                  exact ih6 (i + 1) _ (by omega) (by exact gWo_no hn hno rfl) (by exact xor_step hl (fun z => by have z := (mw_tog hw1.1 i hno).mpr z; exact ⟨fun q => by omega, fun q => by omega⟩) (fun z => by have z := fun y => z ((mw_tog hw1.1 i hno).mp y); omega)) (by omega)
                · skip
                  refine g_iconst rfl ?_
                  refine g_goto rfl ?_
                  refine g_istore (l1 := [(8, aI 1), (24, aI 0), (23, aI 0), (22, aI 0), (20, aJ (((((gx S p i) * w1) - x) * (((gy S p (gAft S p i)) * w1) - y)) - ((((gy S p i) * w1) - y) * (((gx S p (gAft S p i)) * w1) - x)))), (18, aJ (((gy S p (gAft S p i)) * w1) - y)), (16, aJ (((gx S p (gAft S p i)) * w1) - x)), (14, aJ (((gy S p i) * w1) - y)), (12, aJ (((gx S p i) * w1) - x)), (11, aI (((12 * p + (gAft S p i) : Nat) : Int))), (10, aI ((12 * p + i : Int))), (9, aI ((i : Int))), (0, aO (some o)), (1, aI ((p : Int))), (2, aJ x), (4, aJ y), (6, aJ w1)]) rfl rfl ?_
                  refine g_iinc (l1 := [(9, aI ((i : Int) + 1)), (8, aI 1), (24, aI 0), (23, aI 0), (22, aI 0), (20, aJ (((((gx S p i) * w1) - x) * (((gy S p (gAft S p i)) * w1) - y)) - ((((gy S p i) * w1) - y) * (((gx S p (gAft S p i)) * w1) - x)))), (18, aJ (((gy S p (gAft S p i)) * w1) - y)), (16, aJ (((gx S p (gAft S p i)) * w1) - x)), (14, aJ (((gy S p i) * w1) - y)), (12, aJ (((gx S p i) * w1) - x)), (11, aI (((12 * p + (gAft S p i) : Nat) : Int))), (10, aI ((12 * p + i : Int))), (0, aO (some o)), (1, aI ((p : Int))), (2, aJ x), (4, aJ y), (6, aJ w1)]) rfl rfl (by omega) (by omega) rfl ?_
                  refine g_goto rfl ?_
                  refine g_ls [0, 1, 12, 13, 14, 15, 16] rfl rfl ?_
                  exact ih6 (i + 1) _ (by omega) (by exact gWo_no hn hno rfl) (by exact xor_step hl (fun z => by have z := (mw_tog hw1.1 i hno).mpr z; exact ⟨fun q => by omega, fun q => by omega⟩) (fun z => by have z := fun y => z ((mw_tog hw1.1 i hno).mp y); omega)) (by omega)
              · skip
                refine g_iconst rfl ?_
                refine g_goto rfl ?_
                refine g_istore (l1 := [(24, aI 1), (23, aI 0), (22, aI 0), (20, aJ (((((gx S p i) * w1) - x) * (((gy S p (gAft S p i)) * w1) - y)) - ((((gy S p i) * w1) - y) * (((gx S p (gAft S p i)) * w1) - x)))), (18, aJ (((gy S p (gAft S p i)) * w1) - y)), (16, aJ (((gx S p (gAft S p i)) * w1) - x)), (14, aJ (((gy S p i) * w1) - y)), (12, aJ (((gx S p i) * w1) - x)), (11, aI (((12 * p + (gAft S p i) : Nat) : Int))), (10, aI ((12 * p + i : Int))), (9, aI ((i : Int))), (8, aI l), (0, aO (some o)), (1, aI ((p : Int))), (2, aJ x), (4, aJ y), (6, aJ w1)]) rfl rfl ?_
                refine g_iload rfl rfl ?_
                refine g_iload rfl rfl ?_
                refine g_if_eq_t rfl (by omega) ?_
                refine g_iload rfl rfl ?_
                refine g_if_eq_f rfl (by omega) ?_
                refine g_lload rfl rfl ?_
                refine g_lconst0 rfl ?_
                refine g_lc_ge rfl rfl (fun cq245 => ?_) (fun cq245 => ?_)
                · skip
                  refine g_iconst rfl ?_
                  refine g_icmp_eq rfl (fun cq254 => ?_) (fun cq254 => ?_)
                  · skip
                    refine g_iconst rfl ?_
                    refine g_istore (l1 := [(8, aI 0), (24, aI 1), (23, aI 0), (22, aI 0), (20, aJ (((((gx S p i) * w1) - x) * (((gy S p (gAft S p i)) * w1) - y)) - ((((gy S p i) * w1) - y) * (((gx S p (gAft S p i)) * w1) - x)))), (18, aJ (((gy S p (gAft S p i)) * w1) - y)), (16, aJ (((gx S p (gAft S p i)) * w1) - x)), (14, aJ (((gy S p i) * w1) - y)), (12, aJ (((gx S p i) * w1) - x)), (11, aI (((12 * p + (gAft S p i) : Nat) : Int))), (10, aI ((12 * p + i : Int))), (9, aI ((i : Int))), (0, aO (some o)), (1, aI ((p : Int))), (2, aJ x), (4, aJ y), (6, aJ w1)]) rfl rfl ?_
                    refine g_iinc (l1 := [(9, aI ((i : Int) + 1)), (8, aI 0), (24, aI 1), (23, aI 0), (22, aI 0), (20, aJ (((((gx S p i) * w1) - x) * (((gy S p (gAft S p i)) * w1) - y)) - ((((gy S p i) * w1) - y) * (((gx S p (gAft S p i)) * w1) - x)))), (18, aJ (((gy S p (gAft S p i)) * w1) - y)), (16, aJ (((gx S p (gAft S p i)) * w1) - x)), (14, aJ (((gy S p i) * w1) - y)), (12, aJ (((gx S p i) * w1) - x)), (11, aI (((12 * p + (gAft S p i) : Nat) : Int))), (10, aI ((12 * p + i : Int))), (0, aO (some o)), (1, aI ((p : Int))), (2, aJ x), (4, aJ y), (6, aJ w1)]) rfl rfl (by omega) (by omega) rfl ?_
                    refine g_goto rfl ?_
                    refine g_ls [0, 1, 12, 13, 14, 15, 16] rfl rfl ?_
                    exact ih6 (i + 1) _ (by omega) (by exact gWo_no hn hno rfl) (by exact xor_step hl (fun z => by have z := (mw_tog hw1.1 i hno).mpr z; exact ⟨fun q => by omega, fun q => by omega⟩) (fun z => by have z := fun y => z ((mw_tog hw1.1 i hno).mp y); omega)) (by omega)
                  · skip
                    refine g_iconst rfl ?_
                    refine g_goto rfl ?_
                    refine g_istore (l1 := [(8, aI 1), (24, aI 1), (23, aI 0), (22, aI 0), (20, aJ (((((gx S p i) * w1) - x) * (((gy S p (gAft S p i)) * w1) - y)) - ((((gy S p i) * w1) - y) * (((gx S p (gAft S p i)) * w1) - x)))), (18, aJ (((gy S p (gAft S p i)) * w1) - y)), (16, aJ (((gx S p (gAft S p i)) * w1) - x)), (14, aJ (((gy S p i) * w1) - y)), (12, aJ (((gx S p i) * w1) - x)), (11, aI (((12 * p + (gAft S p i) : Nat) : Int))), (10, aI ((12 * p + i : Int))), (9, aI ((i : Int))), (0, aO (some o)), (1, aI ((p : Int))), (2, aJ x), (4, aJ y), (6, aJ w1)]) rfl rfl ?_
                    refine g_iinc (l1 := [(9, aI ((i : Int) + 1)), (8, aI 1), (24, aI 1), (23, aI 0), (22, aI 0), (20, aJ (((((gx S p i) * w1) - x) * (((gy S p (gAft S p i)) * w1) - y)) - ((((gy S p i) * w1) - y) * (((gx S p (gAft S p i)) * w1) - x)))), (18, aJ (((gy S p (gAft S p i)) * w1) - y)), (16, aJ (((gx S p (gAft S p i)) * w1) - x)), (14, aJ (((gy S p i) * w1) - y)), (12, aJ (((gx S p i) * w1) - x)), (11, aI (((12 * p + (gAft S p i) : Nat) : Int))), (10, aI ((12 * p + i : Int))), (0, aO (some o)), (1, aI ((p : Int))), (2, aJ x), (4, aJ y), (6, aJ w1)]) rfl rfl (by omega) (by omega) rfl ?_
                    refine g_goto rfl ?_
                    refine g_ls [0, 1, 12, 13, 14, 15, 16] rfl rfl ?_
                    exact ih6 (i + 1) _ (by omega) (by exact gWo_no hn hno rfl) (by exact xor_step hl (fun z => by have z := (mw_tog hw1.1 i hno).mpr z; exact ⟨fun q => by omega, fun q => by omega⟩) (fun z => by have z := fun y => z ((mw_tog hw1.1 i hno).mp y); omega)) (by omega)
                · skip
                  refine g_iconst rfl ?_
                  refine g_goto rfl ?_
                  refine g_icmp_eq rfl (fun cq254 => ?_) (fun cq254 => ?_)
                  · skip
                    refine g_iconst rfl ?_
                    refine g_istore (l1 := [(8, aI 0), (24, aI 1), (23, aI 0), (22, aI 0), (20, aJ (((((gx S p i) * w1) - x) * (((gy S p (gAft S p i)) * w1) - y)) - ((((gy S p i) * w1) - y) * (((gx S p (gAft S p i)) * w1) - x)))), (18, aJ (((gy S p (gAft S p i)) * w1) - y)), (16, aJ (((gx S p (gAft S p i)) * w1) - x)), (14, aJ (((gy S p i) * w1) - y)), (12, aJ (((gx S p i) * w1) - x)), (11, aI (((12 * p + (gAft S p i) : Nat) : Int))), (10, aI ((12 * p + i : Int))), (9, aI ((i : Int))), (0, aO (some o)), (1, aI ((p : Int))), (2, aJ x), (4, aJ y), (6, aJ w1)]) rfl rfl ?_
                    refine g_iinc (l1 := [(9, aI ((i : Int) + 1)), (8, aI 0), (24, aI 1), (23, aI 0), (22, aI 0), (20, aJ (((((gx S p i) * w1) - x) * (((gy S p (gAft S p i)) * w1) - y)) - ((((gy S p i) * w1) - y) * (((gx S p (gAft S p i)) * w1) - x)))), (18, aJ (((gy S p (gAft S p i)) * w1) - y)), (16, aJ (((gx S p (gAft S p i)) * w1) - x)), (14, aJ (((gy S p i) * w1) - y)), (12, aJ (((gx S p i) * w1) - x)), (11, aI (((12 * p + (gAft S p i) : Nat) : Int))), (10, aI ((12 * p + i : Int))), (0, aO (some o)), (1, aI ((p : Int))), (2, aJ x), (4, aJ y), (6, aJ w1)]) rfl rfl (by omega) (by omega) rfl ?_
                    refine g_goto rfl ?_
                    refine g_ls [0, 1, 12, 13, 14, 15, 16] rfl rfl ?_
                    exact ih6 (i + 1) _ (by omega) (by exact gWo_no hn hno rfl) (by exact xor_step hl (fun z => by have z := (mw_tog hw1.1 i hno).mpr z; exact ⟨fun q => by omega, fun q => by omega⟩) (fun z => by have z := fun y => z ((mw_tog hw1.1 i hno).mp y); omega)) (by omega)
                  · skip
                    refine g_iconst rfl ?_
                    refine g_goto rfl ?_
                    refine g_istore (l1 := [(8, aI 1), (24, aI 1), (23, aI 0), (22, aI 0), (20, aJ (((((gx S p i) * w1) - x) * (((gy S p (gAft S p i)) * w1) - y)) - ((((gy S p i) * w1) - y) * (((gx S p (gAft S p i)) * w1) - x)))), (18, aJ (((gy S p (gAft S p i)) * w1) - y)), (16, aJ (((gx S p (gAft S p i)) * w1) - x)), (14, aJ (((gy S p i) * w1) - y)), (12, aJ (((gx S p i) * w1) - x)), (11, aI (((12 * p + (gAft S p i) : Nat) : Int))), (10, aI ((12 * p + i : Int))), (9, aI ((i : Int))), (0, aO (some o)), (1, aI ((p : Int))), (2, aJ x), (4, aJ y), (6, aJ w1)]) rfl rfl ?_
                    refine g_iinc (l1 := [(9, aI ((i : Int) + 1)), (8, aI 1), (24, aI 1), (23, aI 0), (22, aI 0), (20, aJ (((((gx S p i) * w1) - x) * (((gy S p (gAft S p i)) * w1) - y)) - ((((gy S p i) * w1) - y) * (((gx S p (gAft S p i)) * w1) - x)))), (18, aJ (((gy S p (gAft S p i)) * w1) - y)), (16, aJ (((gx S p (gAft S p i)) * w1) - x)), (14, aJ (((gy S p i) * w1) - y)), (12, aJ (((gx S p i) * w1) - x)), (11, aI (((12 * p + (gAft S p i) : Nat) : Int))), (10, aI ((12 * p + i : Int))), (0, aO (some o)), (1, aI ((p : Int))), (2, aJ x), (4, aJ y), (6, aJ w1)]) rfl rfl (by omega) (by omega) rfl ?_
                    refine g_goto rfl ?_
                    refine g_ls [0, 1, 12, 13, 14, 15, 16] rfl rfl ?_
                    exact ih6 (i + 1) _ (by omega) (by exact gWo_no hn hno rfl) (by exact xor_step hl (fun z => by have z := (mw_tog hw1.1 i hno).mpr z; exact ⟨fun q => by omega, fun q => by omega⟩) (fun z => by have z := fun y => z ((mw_tog hw1.1 i hno).mp y); omega)) (by omega)
          · skip
            refine g_lload rfl rfl ?_
            refine g_lconst0 rfl ?_
            refine g_lc_le rfl rfl (fun cq191 => ?_) (fun cq191 => ?_)
            · skip
              refine g_iconst rfl ?_
              refine g_istore (l1 := [(23, aI 0), (22, aI 0), (20, aJ (((((gx S p i) * w1) - x) * (((gy S p (gAft S p i)) * w1) - y)) - ((((gy S p i) * w1) - y) * (((gx S p (gAft S p i)) * w1) - x)))), (18, aJ (((gy S p (gAft S p i)) * w1) - y)), (16, aJ (((gx S p (gAft S p i)) * w1) - x)), (14, aJ (((gy S p i) * w1) - y)), (12, aJ (((gx S p i) * w1) - x)), (11, aI (((12 * p + (gAft S p i) : Nat) : Int))), (10, aI ((12 * p + i : Int))), (9, aI ((i : Int))), (8, aI l), (0, aO (some o)), (1, aI ((p : Int))), (2, aJ x), (4, aJ y), (6, aJ w1)]) rfl rfl ?_
              refine g_lload rfl rfl ?_
              refine g_lconst0 rfl ?_
              refine g_lc_gt rfl rfl (fun cq205 => ?_) (fun cq205 => ?_)
              · skip
                refine g_iconst rfl ?_
                refine g_istore (l1 := [(24, aI 0), (23, aI 0), (22, aI 0), (20, aJ (((((gx S p i) * w1) - x) * (((gy S p (gAft S p i)) * w1) - y)) - ((((gy S p i) * w1) - y) * (((gx S p (gAft S p i)) * w1) - x)))), (18, aJ (((gy S p (gAft S p i)) * w1) - y)), (16, aJ (((gx S p (gAft S p i)) * w1) - x)), (14, aJ (((gy S p i) * w1) - y)), (12, aJ (((gx S p i) * w1) - x)), (11, aI (((12 * p + (gAft S p i) : Nat) : Int))), (10, aI ((12 * p + i : Int))), (9, aI ((i : Int))), (8, aI l), (0, aO (some o)), (1, aI ((p : Int))), (2, aJ x), (4, aJ y), (6, aJ w1)]) rfl rfl ?_
                refine g_iload rfl rfl ?_
                refine g_iload rfl rfl ?_
                refine g_if_eq_t rfl (by omega) ?_
                refine g_iload rfl rfl ?_
                refine g_if_eq_t rfl (by omega) ?_
                refine g_iconst rfl ?_
                refine g_icmp_eq rfl (fun cq254 => ?_) (fun cq254 => ?_)
                · skip
                  refine g_iconst rfl ?_
                  refine g_istore (l1 := [(8, aI 0), (24, aI 0), (23, aI 0), (22, aI 0), (20, aJ (((((gx S p i) * w1) - x) * (((gy S p (gAft S p i)) * w1) - y)) - ((((gy S p i) * w1) - y) * (((gx S p (gAft S p i)) * w1) - x)))), (18, aJ (((gy S p (gAft S p i)) * w1) - y)), (16, aJ (((gx S p (gAft S p i)) * w1) - x)), (14, aJ (((gy S p i) * w1) - y)), (12, aJ (((gx S p i) * w1) - x)), (11, aI (((12 * p + (gAft S p i) : Nat) : Int))), (10, aI ((12 * p + i : Int))), (9, aI ((i : Int))), (0, aO (some o)), (1, aI ((p : Int))), (2, aJ x), (4, aJ y), (6, aJ w1)]) rfl rfl ?_
                  refine g_iinc (l1 := [(9, aI ((i : Int) + 1)), (8, aI 0), (24, aI 0), (23, aI 0), (22, aI 0), (20, aJ (((((gx S p i) * w1) - x) * (((gy S p (gAft S p i)) * w1) - y)) - ((((gy S p i) * w1) - y) * (((gx S p (gAft S p i)) * w1) - x)))), (18, aJ (((gy S p (gAft S p i)) * w1) - y)), (16, aJ (((gx S p (gAft S p i)) * w1) - x)), (14, aJ (((gy S p i) * w1) - y)), (12, aJ (((gx S p i) * w1) - x)), (11, aI (((12 * p + (gAft S p i) : Nat) : Int))), (10, aI ((12 * p + i : Int))), (0, aO (some o)), (1, aI ((p : Int))), (2, aJ x), (4, aJ y), (6, aJ w1)]) rfl rfl (by omega) (by omega) rfl ?_
                  refine g_goto rfl ?_
                  refine g_ls [0, 1, 12, 13, 14, 15, 16] rfl rfl ?_
                  exact ih6 (i + 1) _ (by omega) (by exact gWo_no hn hno rfl) (by exact xor_step hl (fun z => by have z := (mw_tog hw1.1 i hno).mpr z; exact ⟨fun q => by omega, fun q => by omega⟩) (fun z => by have z := fun y => z ((mw_tog hw1.1 i hno).mp y); omega)) (by omega)
                · skip
                  refine g_iconst rfl ?_
                  refine g_goto rfl ?_
                  refine g_istore (l1 := [(8, aI 1), (24, aI 0), (23, aI 0), (22, aI 0), (20, aJ (((((gx S p i) * w1) - x) * (((gy S p (gAft S p i)) * w1) - y)) - ((((gy S p i) * w1) - y) * (((gx S p (gAft S p i)) * w1) - x)))), (18, aJ (((gy S p (gAft S p i)) * w1) - y)), (16, aJ (((gx S p (gAft S p i)) * w1) - x)), (14, aJ (((gy S p i) * w1) - y)), (12, aJ (((gx S p i) * w1) - x)), (11, aI (((12 * p + (gAft S p i) : Nat) : Int))), (10, aI ((12 * p + i : Int))), (9, aI ((i : Int))), (0, aO (some o)), (1, aI ((p : Int))), (2, aJ x), (4, aJ y), (6, aJ w1)]) rfl rfl ?_
                  refine g_iinc (l1 := [(9, aI ((i : Int) + 1)), (8, aI 1), (24, aI 0), (23, aI 0), (22, aI 0), (20, aJ (((((gx S p i) * w1) - x) * (((gy S p (gAft S p i)) * w1) - y)) - ((((gy S p i) * w1) - y) * (((gx S p (gAft S p i)) * w1) - x)))), (18, aJ (((gy S p (gAft S p i)) * w1) - y)), (16, aJ (((gx S p (gAft S p i)) * w1) - x)), (14, aJ (((gy S p i) * w1) - y)), (12, aJ (((gx S p i) * w1) - x)), (11, aI (((12 * p + (gAft S p i) : Nat) : Int))), (10, aI ((12 * p + i : Int))), (0, aO (some o)), (1, aI ((p : Int))), (2, aJ x), (4, aJ y), (6, aJ w1)]) rfl rfl (by omega) (by omega) rfl ?_
                  refine g_goto rfl ?_
                  refine g_ls [0, 1, 12, 13, 14, 15, 16] rfl rfl ?_
                  exact ih6 (i + 1) _ (by omega) (by exact gWo_no hn hno rfl) (by exact xor_step hl (fun z => by have z := (mw_tog hw1.1 i hno).mpr z; exact ⟨fun q => by omega, fun q => by omega⟩) (fun z => by have z := fun y => z ((mw_tog hw1.1 i hno).mp y); omega)) (by omega)
              · skip
                refine g_lload rfl rfl ?_
                refine g_lconst0 rfl ?_
                refine g_lc_le rfl rfl (fun cq212 => ?_) (fun cq212 => ?_)
                · skip
                  refine g_iconst rfl ?_
                  refine g_istore (l1 := [(24, aI 0), (23, aI 0), (22, aI 0), (20, aJ (((((gx S p i) * w1) - x) * (((gy S p (gAft S p i)) * w1) - y)) - ((((gy S p i) * w1) - y) * (((gx S p (gAft S p i)) * w1) - x)))), (18, aJ (((gy S p (gAft S p i)) * w1) - y)), (16, aJ (((gx S p (gAft S p i)) * w1) - x)), (14, aJ (((gy S p i) * w1) - y)), (12, aJ (((gx S p i) * w1) - x)), (11, aI (((12 * p + (gAft S p i) : Nat) : Int))), (10, aI ((12 * p + i : Int))), (9, aI ((i : Int))), (8, aI l), (0, aO (some o)), (1, aI ((p : Int))), (2, aJ x), (4, aJ y), (6, aJ w1)]) rfl rfl ?_
                  refine g_iload rfl rfl ?_
                  refine g_iload rfl rfl ?_
                  refine g_if_eq_t rfl (by omega) ?_
                  refine g_iload rfl rfl ?_
                  refine g_if_eq_t rfl (by omega) ?_
                  refine g_iconst rfl ?_
                  refine g_icmp_eq rfl (fun cq254 => ?_) (fun cq254 => ?_)
                  · skip
                    refine g_iconst rfl ?_
                    refine g_istore (l1 := [(8, aI 0), (24, aI 0), (23, aI 0), (22, aI 0), (20, aJ (((((gx S p i) * w1) - x) * (((gy S p (gAft S p i)) * w1) - y)) - ((((gy S p i) * w1) - y) * (((gx S p (gAft S p i)) * w1) - x)))), (18, aJ (((gy S p (gAft S p i)) * w1) - y)), (16, aJ (((gx S p (gAft S p i)) * w1) - x)), (14, aJ (((gy S p i) * w1) - y)), (12, aJ (((gx S p i) * w1) - x)), (11, aI (((12 * p + (gAft S p i) : Nat) : Int))), (10, aI ((12 * p + i : Int))), (9, aI ((i : Int))), (0, aO (some o)), (1, aI ((p : Int))), (2, aJ x), (4, aJ y), (6, aJ w1)]) rfl rfl ?_
                    refine g_iinc (l1 := [(9, aI ((i : Int) + 1)), (8, aI 0), (24, aI 0), (23, aI 0), (22, aI 0), (20, aJ (((((gx S p i) * w1) - x) * (((gy S p (gAft S p i)) * w1) - y)) - ((((gy S p i) * w1) - y) * (((gx S p (gAft S p i)) * w1) - x)))), (18, aJ (((gy S p (gAft S p i)) * w1) - y)), (16, aJ (((gx S p (gAft S p i)) * w1) - x)), (14, aJ (((gy S p i) * w1) - y)), (12, aJ (((gx S p i) * w1) - x)), (11, aI (((12 * p + (gAft S p i) : Nat) : Int))), (10, aI ((12 * p + i : Int))), (0, aO (some o)), (1, aI ((p : Int))), (2, aJ x), (4, aJ y), (6, aJ w1)]) rfl rfl (by omega) (by omega) rfl ?_
                    refine g_goto rfl ?_
                    refine g_ls [0, 1, 12, 13, 14, 15, 16] rfl rfl ?_
                    exact ih6 (i + 1) _ (by omega) (by exact gWo_no hn hno rfl) (by exact xor_step hl (fun z => by have z := (mw_tog hw1.1 i hno).mpr z; exact ⟨fun q => by omega, fun q => by omega⟩) (fun z => by have z := fun y => z ((mw_tog hw1.1 i hno).mp y); omega)) (by omega)
                  · skip
                    refine g_iconst rfl ?_
                    refine g_goto rfl ?_
                    refine g_istore (l1 := [(8, aI 1), (24, aI 0), (23, aI 0), (22, aI 0), (20, aJ (((((gx S p i) * w1) - x) * (((gy S p (gAft S p i)) * w1) - y)) - ((((gy S p i) * w1) - y) * (((gx S p (gAft S p i)) * w1) - x)))), (18, aJ (((gy S p (gAft S p i)) * w1) - y)), (16, aJ (((gx S p (gAft S p i)) * w1) - x)), (14, aJ (((gy S p i) * w1) - y)), (12, aJ (((gx S p i) * w1) - x)), (11, aI (((12 * p + (gAft S p i) : Nat) : Int))), (10, aI ((12 * p + i : Int))), (9, aI ((i : Int))), (0, aO (some o)), (1, aI ((p : Int))), (2, aJ x), (4, aJ y), (6, aJ w1)]) rfl rfl ?_
                    refine g_iinc (l1 := [(9, aI ((i : Int) + 1)), (8, aI 1), (24, aI 0), (23, aI 0), (22, aI 0), (20, aJ (((((gx S p i) * w1) - x) * (((gy S p (gAft S p i)) * w1) - y)) - ((((gy S p i) * w1) - y) * (((gx S p (gAft S p i)) * w1) - x)))), (18, aJ (((gy S p (gAft S p i)) * w1) - y)), (16, aJ (((gx S p (gAft S p i)) * w1) - x)), (14, aJ (((gy S p i) * w1) - y)), (12, aJ (((gx S p i) * w1) - x)), (11, aI (((12 * p + (gAft S p i) : Nat) : Int))), (10, aI ((12 * p + i : Int))), (0, aO (some o)), (1, aI ((p : Int))), (2, aJ x), (4, aJ y), (6, aJ w1)]) rfl rfl (by omega) (by omega) rfl ?_
                    refine g_goto rfl ?_
                    refine g_ls [0, 1, 12, 13, 14, 15, 16] rfl rfl ?_
                    exact ih6 (i + 1) _ (by omega) (by exact gWo_no hn hno rfl) (by exact xor_step hl (fun z => by have z := (mw_tog hw1.1 i hno).mpr z; exact ⟨fun q => by omega, fun q => by omega⟩) (fun z => by have z := fun y => z ((mw_tog hw1.1 i hno).mp y); omega)) (by omega)
                · skip
                  refine g_iconst rfl ?_
                  refine g_goto rfl ?_
                  refine g_istore (l1 := [(24, aI 1), (23, aI 0), (22, aI 0), (20, aJ (((((gx S p i) * w1) - x) * (((gy S p (gAft S p i)) * w1) - y)) - ((((gy S p i) * w1) - y) * (((gx S p (gAft S p i)) * w1) - x)))), (18, aJ (((gy S p (gAft S p i)) * w1) - y)), (16, aJ (((gx S p (gAft S p i)) * w1) - x)), (14, aJ (((gy S p i) * w1) - y)), (12, aJ (((gx S p i) * w1) - x)), (11, aI (((12 * p + (gAft S p i) : Nat) : Int))), (10, aI ((12 * p + i : Int))), (9, aI ((i : Int))), (8, aI l), (0, aO (some o)), (1, aI ((p : Int))), (2, aJ x), (4, aJ y), (6, aJ w1)]) rfl rfl ?_
                  refine g_iload rfl rfl ?_
                  refine g_iload rfl rfl ?_
                  refine g_if_eq_t rfl (by omega) ?_
                  refine g_iload rfl rfl ?_
                  refine g_if_eq_f rfl (by omega) ?_
                  refine g_lload rfl rfl ?_
                  refine g_lconst0 rfl ?_
                  refine g_lc_ge rfl rfl (fun cq245 => ?_) (fun cq245 => ?_)
                  · skip
                    refine g_iconst rfl ?_
                    refine g_icmp_eq rfl (fun cq254 => ?_) (fun cq254 => ?_)
                    · skip
                      refine g_iconst rfl ?_
                      refine g_istore (l1 := [(8, aI 0), (24, aI 1), (23, aI 0), (22, aI 0), (20, aJ (((((gx S p i) * w1) - x) * (((gy S p (gAft S p i)) * w1) - y)) - ((((gy S p i) * w1) - y) * (((gx S p (gAft S p i)) * w1) - x)))), (18, aJ (((gy S p (gAft S p i)) * w1) - y)), (16, aJ (((gx S p (gAft S p i)) * w1) - x)), (14, aJ (((gy S p i) * w1) - y)), (12, aJ (((gx S p i) * w1) - x)), (11, aI (((12 * p + (gAft S p i) : Nat) : Int))), (10, aI ((12 * p + i : Int))), (9, aI ((i : Int))), (0, aO (some o)), (1, aI ((p : Int))), (2, aJ x), (4, aJ y), (6, aJ w1)]) rfl rfl ?_
                      refine g_iinc (l1 := [(9, aI ((i : Int) + 1)), (8, aI 0), (24, aI 1), (23, aI 0), (22, aI 0), (20, aJ (((((gx S p i) * w1) - x) * (((gy S p (gAft S p i)) * w1) - y)) - ((((gy S p i) * w1) - y) * (((gx S p (gAft S p i)) * w1) - x)))), (18, aJ (((gy S p (gAft S p i)) * w1) - y)), (16, aJ (((gx S p (gAft S p i)) * w1) - x)), (14, aJ (((gy S p i) * w1) - y)), (12, aJ (((gx S p i) * w1) - x)), (11, aI (((12 * p + (gAft S p i) : Nat) : Int))), (10, aI ((12 * p + i : Int))), (0, aO (some o)), (1, aI ((p : Int))), (2, aJ x), (4, aJ y), (6, aJ w1)]) rfl rfl (by omega) (by omega) rfl ?_
                      refine g_goto rfl ?_
                      refine g_ls [0, 1, 12, 13, 14, 15, 16] rfl rfl ?_
                      exact ih6 (i + 1) _ (by omega) (by exact gWo_no hn hno rfl) (by exact xor_step hl (fun z => by have z := (mw_tog hw1.1 i hno).mpr z; exact ⟨fun q => by omega, fun q => by omega⟩) (fun z => by have z := fun y => z ((mw_tog hw1.1 i hno).mp y); omega)) (by omega)
                    · skip
                      refine g_iconst rfl ?_
                      refine g_goto rfl ?_
                      refine g_istore (l1 := [(8, aI 1), (24, aI 1), (23, aI 0), (22, aI 0), (20, aJ (((((gx S p i) * w1) - x) * (((gy S p (gAft S p i)) * w1) - y)) - ((((gy S p i) * w1) - y) * (((gx S p (gAft S p i)) * w1) - x)))), (18, aJ (((gy S p (gAft S p i)) * w1) - y)), (16, aJ (((gx S p (gAft S p i)) * w1) - x)), (14, aJ (((gy S p i) * w1) - y)), (12, aJ (((gx S p i) * w1) - x)), (11, aI (((12 * p + (gAft S p i) : Nat) : Int))), (10, aI ((12 * p + i : Int))), (9, aI ((i : Int))), (0, aO (some o)), (1, aI ((p : Int))), (2, aJ x), (4, aJ y), (6, aJ w1)]) rfl rfl ?_
                      refine g_iinc (l1 := [(9, aI ((i : Int) + 1)), (8, aI 1), (24, aI 1), (23, aI 0), (22, aI 0), (20, aJ (((((gx S p i) * w1) - x) * (((gy S p (gAft S p i)) * w1) - y)) - ((((gy S p i) * w1) - y) * (((gx S p (gAft S p i)) * w1) - x)))), (18, aJ (((gy S p (gAft S p i)) * w1) - y)), (16, aJ (((gx S p (gAft S p i)) * w1) - x)), (14, aJ (((gy S p i) * w1) - y)), (12, aJ (((gx S p i) * w1) - x)), (11, aI (((12 * p + (gAft S p i) : Nat) : Int))), (10, aI ((12 * p + i : Int))), (0, aO (some o)), (1, aI ((p : Int))), (2, aJ x), (4, aJ y), (6, aJ w1)]) rfl rfl (by omega) (by omega) rfl ?_
                      refine g_goto rfl ?_
                      refine g_ls [0, 1, 12, 13, 14, 15, 16] rfl rfl ?_
                      exact ih6 (i + 1) _ (by omega) (by exact gWo_no hn hno rfl) (by exact xor_step hl (fun z => by have z := (mw_tog hw1.1 i hno).mpr z; exact ⟨fun q => by omega, fun q => by omega⟩) (fun z => by have z := fun y => z ((mw_tog hw1.1 i hno).mp y); omega)) (by omega)
                  · skip
                    refine g_iconst rfl ?_
                    refine g_goto rfl ?_
                    refine g_icmp_eq rfl (fun cq254 => ?_) (fun cq254 => ?_)
                    · skip
                      refine g_iconst rfl ?_
                      refine g_istore (l1 := [(8, aI 0), (24, aI 1), (23, aI 0), (22, aI 0), (20, aJ (((((gx S p i) * w1) - x) * (((gy S p (gAft S p i)) * w1) - y)) - ((((gy S p i) * w1) - y) * (((gx S p (gAft S p i)) * w1) - x)))), (18, aJ (((gy S p (gAft S p i)) * w1) - y)), (16, aJ (((gx S p (gAft S p i)) * w1) - x)), (14, aJ (((gy S p i) * w1) - y)), (12, aJ (((gx S p i) * w1) - x)), (11, aI (((12 * p + (gAft S p i) : Nat) : Int))), (10, aI ((12 * p + i : Int))), (9, aI ((i : Int))), (0, aO (some o)), (1, aI ((p : Int))), (2, aJ x), (4, aJ y), (6, aJ w1)]) rfl rfl ?_
                      refine g_iinc (l1 := [(9, aI ((i : Int) + 1)), (8, aI 0), (24, aI 1), (23, aI 0), (22, aI 0), (20, aJ (((((gx S p i) * w1) - x) * (((gy S p (gAft S p i)) * w1) - y)) - ((((gy S p i) * w1) - y) * (((gx S p (gAft S p i)) * w1) - x)))), (18, aJ (((gy S p (gAft S p i)) * w1) - y)), (16, aJ (((gx S p (gAft S p i)) * w1) - x)), (14, aJ (((gy S p i) * w1) - y)), (12, aJ (((gx S p i) * w1) - x)), (11, aI (((12 * p + (gAft S p i) : Nat) : Int))), (10, aI ((12 * p + i : Int))), (0, aO (some o)), (1, aI ((p : Int))), (2, aJ x), (4, aJ y), (6, aJ w1)]) rfl rfl (by omega) (by omega) rfl ?_
                      refine g_goto rfl ?_
                      refine g_ls [0, 1, 12, 13, 14, 15, 16] rfl rfl ?_
                      exact ih6 (i + 1) _ (by omega) (by exact gWo_no hn hno rfl) (by exact xor_step hl (fun z => by have z := (mw_tog hw1.1 i hno).mpr z; exact ⟨fun q => by omega, fun q => by omega⟩) (fun z => by have z := fun y => z ((mw_tog hw1.1 i hno).mp y); omega)) (by omega)
                    · skip
                      refine g_iconst rfl ?_
                      refine g_goto rfl ?_
                      refine g_istore (l1 := [(8, aI 1), (24, aI 1), (23, aI 0), (22, aI 0), (20, aJ (((((gx S p i) * w1) - x) * (((gy S p (gAft S p i)) * w1) - y)) - ((((gy S p i) * w1) - y) * (((gx S p (gAft S p i)) * w1) - x)))), (18, aJ (((gy S p (gAft S p i)) * w1) - y)), (16, aJ (((gx S p (gAft S p i)) * w1) - x)), (14, aJ (((gy S p i) * w1) - y)), (12, aJ (((gx S p i) * w1) - x)), (11, aI (((12 * p + (gAft S p i) : Nat) : Int))), (10, aI ((12 * p + i : Int))), (9, aI ((i : Int))), (0, aO (some o)), (1, aI ((p : Int))), (2, aJ x), (4, aJ y), (6, aJ w1)]) rfl rfl ?_
                      refine g_iinc (l1 := [(9, aI ((i : Int) + 1)), (8, aI 1), (24, aI 1), (23, aI 0), (22, aI 0), (20, aJ (((((gx S p i) * w1) - x) * (((gy S p (gAft S p i)) * w1) - y)) - ((((gy S p i) * w1) - y) * (((gx S p (gAft S p i)) * w1) - x)))), (18, aJ (((gy S p (gAft S p i)) * w1) - y)), (16, aJ (((gx S p (gAft S p i)) * w1) - x)), (14, aJ (((gy S p i) * w1) - y)), (12, aJ (((gx S p i) * w1) - x)), (11, aI (((12 * p + (gAft S p i) : Nat) : Int))), (10, aI ((12 * p + i : Int))), (0, aO (some o)), (1, aI ((p : Int))), (2, aJ x), (4, aJ y), (6, aJ w1)]) rfl rfl (by omega) (by omega) rfl ?_
                      refine g_goto rfl ?_
                      refine g_ls [0, 1, 12, 13, 14, 15, 16] rfl rfl ?_
                      exact ih6 (i + 1) _ (by omega) (by exact gWo_no hn hno rfl) (by exact xor_step hl (fun z => by have z := (mw_tog hw1.1 i hno).mpr z; exact ⟨fun q => by omega, fun q => by omega⟩) (fun z => by have z := fun y => z ((mw_tog hw1.1 i hno).mp y); omega)) (by omega)
            · skip
              refine g_iconst rfl ?_
              refine g_goto rfl ?_
              refine g_istore (l1 := [(23, aI 1), (22, aI 0), (20, aJ (((((gx S p i) * w1) - x) * (((gy S p (gAft S p i)) * w1) - y)) - ((((gy S p i) * w1) - y) * (((gx S p (gAft S p i)) * w1) - x)))), (18, aJ (((gy S p (gAft S p i)) * w1) - y)), (16, aJ (((gx S p (gAft S p i)) * w1) - x)), (14, aJ (((gy S p i) * w1) - y)), (12, aJ (((gx S p i) * w1) - x)), (11, aI (((12 * p + (gAft S p i) : Nat) : Int))), (10, aI ((12 * p + i : Int))), (9, aI ((i : Int))), (8, aI l), (0, aO (some o)), (1, aI ((p : Int))), (2, aJ x), (4, aJ y), (6, aJ w1)]) rfl rfl ?_
              refine g_lload rfl rfl ?_
              refine g_lconst0 rfl ?_
              refine g_lc_gt rfl rfl (fun cq205 => ?_) (fun cq205 => ?_)
              · skip
                refine g_iconst rfl ?_
                refine g_istore (l1 := [(24, aI 0), (23, aI 1), (22, aI 0), (20, aJ (((((gx S p i) * w1) - x) * (((gy S p (gAft S p i)) * w1) - y)) - ((((gy S p i) * w1) - y) * (((gx S p (gAft S p i)) * w1) - x)))), (18, aJ (((gy S p (gAft S p i)) * w1) - y)), (16, aJ (((gx S p (gAft S p i)) * w1) - x)), (14, aJ (((gy S p i) * w1) - y)), (12, aJ (((gx S p i) * w1) - x)), (11, aI (((12 * p + (gAft S p i) : Nat) : Int))), (10, aI ((12 * p + i : Int))), (9, aI ((i : Int))), (8, aI l), (0, aO (some o)), (1, aI ((p : Int))), (2, aJ x), (4, aJ y), (6, aJ w1)]) rfl rfl ?_
                refine g_iload rfl rfl ?_
                refine g_iload rfl rfl ?_
                refine g_if_eq_f rfl (by omega) ?_
                refine g_lload rfl rfl ?_
                refine g_lconst0 rfl ?_
                refine g_lc_gt rfl rfl (fun cq233 => ?_) (fun cq233 => ?_)
                · skip
                  refine g_iconst rfl ?_
                  refine g_goto rfl ?_
                  refine g_icmp_eq rfl (fun cq254 => ?_) (fun cq254 => ?_)
                  · skip
                    refine g_iconst rfl ?_
                    refine g_istore (l1 := [(8, aI 0), (24, aI 0), (23, aI 1), (22, aI 0), (20, aJ (((((gx S p i) * w1) - x) * (((gy S p (gAft S p i)) * w1) - y)) - ((((gy S p i) * w1) - y) * (((gx S p (gAft S p i)) * w1) - x)))), (18, aJ (((gy S p (gAft S p i)) * w1) - y)), (16, aJ (((gx S p (gAft S p i)) * w1) - x)), (14, aJ (((gy S p i) * w1) - y)), (12, aJ (((gx S p i) * w1) - x)), (11, aI (((12 * p + (gAft S p i) : Nat) : Int))), (10, aI ((12 * p + i : Int))), (9, aI ((i : Int))), (0, aO (some o)), (1, aI ((p : Int))), (2, aJ x), (4, aJ y), (6, aJ w1)]) rfl rfl ?_
                    refine g_iinc (l1 := [(9, aI ((i : Int) + 1)), (8, aI 0), (24, aI 0), (23, aI 1), (22, aI 0), (20, aJ (((((gx S p i) * w1) - x) * (((gy S p (gAft S p i)) * w1) - y)) - ((((gy S p i) * w1) - y) * (((gx S p (gAft S p i)) * w1) - x)))), (18, aJ (((gy S p (gAft S p i)) * w1) - y)), (16, aJ (((gx S p (gAft S p i)) * w1) - x)), (14, aJ (((gy S p i) * w1) - y)), (12, aJ (((gx S p i) * w1) - x)), (11, aI (((12 * p + (gAft S p i) : Nat) : Int))), (10, aI ((12 * p + i : Int))), (0, aO (some o)), (1, aI ((p : Int))), (2, aJ x), (4, aJ y), (6, aJ w1)]) rfl rfl (by omega) (by omega) rfl ?_
                    refine g_goto rfl ?_
                    refine g_ls [0, 1, 12, 13, 14, 15, 16] rfl rfl ?_
                    exact ih6 (i + 1) _ (by omega) (by exact gWo_no hn hno rfl) (by exact xor_step hl (fun z => by have z := (mw_tog hw1.1 i hno).mpr z; exact ⟨fun q => by omega, fun q => by omega⟩) (fun z => by have z := fun y => z ((mw_tog hw1.1 i hno).mp y); omega)) (by omega)
                  · skip
                    refine g_iconst rfl ?_
                    refine g_goto rfl ?_
                    refine g_istore (l1 := [(8, aI 1), (24, aI 0), (23, aI 1), (22, aI 0), (20, aJ (((((gx S p i) * w1) - x) * (((gy S p (gAft S p i)) * w1) - y)) - ((((gy S p i) * w1) - y) * (((gx S p (gAft S p i)) * w1) - x)))), (18, aJ (((gy S p (gAft S p i)) * w1) - y)), (16, aJ (((gx S p (gAft S p i)) * w1) - x)), (14, aJ (((gy S p i) * w1) - y)), (12, aJ (((gx S p i) * w1) - x)), (11, aI (((12 * p + (gAft S p i) : Nat) : Int))), (10, aI ((12 * p + i : Int))), (9, aI ((i : Int))), (0, aO (some o)), (1, aI ((p : Int))), (2, aJ x), (4, aJ y), (6, aJ w1)]) rfl rfl ?_
                    refine g_iinc (l1 := [(9, aI ((i : Int) + 1)), (8, aI 1), (24, aI 0), (23, aI 1), (22, aI 0), (20, aJ (((((gx S p i) * w1) - x) * (((gy S p (gAft S p i)) * w1) - y)) - ((((gy S p i) * w1) - y) * (((gx S p (gAft S p i)) * w1) - x)))), (18, aJ (((gy S p (gAft S p i)) * w1) - y)), (16, aJ (((gx S p (gAft S p i)) * w1) - x)), (14, aJ (((gy S p i) * w1) - y)), (12, aJ (((gx S p i) * w1) - x)), (11, aI (((12 * p + (gAft S p i) : Nat) : Int))), (10, aI ((12 * p + i : Int))), (0, aO (some o)), (1, aI ((p : Int))), (2, aJ x), (4, aJ y), (6, aJ w1)]) rfl rfl (by omega) (by omega) rfl ?_
                    refine g_goto rfl ?_
                    refine g_ls [0, 1, 12, 13, 14, 15, 16] rfl rfl ?_
                    exact ih6 (i + 1) _ (by omega) (by exact gWo_no hn hno rfl) (by exact xor_step hl (fun z => by have z := (mw_tog hw1.1 i hno).mpr z; exact ⟨fun q => by omega, fun q => by omega⟩) (fun z => by have z := fun y => z ((mw_tog hw1.1 i hno).mp y); omega)) (by omega)
                · skip
                  refine g_iload rfl rfl ?_
                  refine g_if_eq_t rfl (by omega) ?_
                  refine g_iconst rfl ?_
                  refine g_icmp_eq rfl (fun cq254 => ?_) (fun cq254 => ?_)
                  · skip
                    refine g_iconst rfl ?_
                    refine g_istore (l1 := [(8, aI 0), (24, aI 0), (23, aI 1), (22, aI 0), (20, aJ (((((gx S p i) * w1) - x) * (((gy S p (gAft S p i)) * w1) - y)) - ((((gy S p i) * w1) - y) * (((gx S p (gAft S p i)) * w1) - x)))), (18, aJ (((gy S p (gAft S p i)) * w1) - y)), (16, aJ (((gx S p (gAft S p i)) * w1) - x)), (14, aJ (((gy S p i) * w1) - y)), (12, aJ (((gx S p i) * w1) - x)), (11, aI (((12 * p + (gAft S p i) : Nat) : Int))), (10, aI ((12 * p + i : Int))), (9, aI ((i : Int))), (0, aO (some o)), (1, aI ((p : Int))), (2, aJ x), (4, aJ y), (6, aJ w1)]) rfl rfl ?_
                    refine g_iinc (l1 := [(9, aI ((i : Int) + 1)), (8, aI 0), (24, aI 0), (23, aI 1), (22, aI 0), (20, aJ (((((gx S p i) * w1) - x) * (((gy S p (gAft S p i)) * w1) - y)) - ((((gy S p i) * w1) - y) * (((gx S p (gAft S p i)) * w1) - x)))), (18, aJ (((gy S p (gAft S p i)) * w1) - y)), (16, aJ (((gx S p (gAft S p i)) * w1) - x)), (14, aJ (((gy S p i) * w1) - y)), (12, aJ (((gx S p i) * w1) - x)), (11, aI (((12 * p + (gAft S p i) : Nat) : Int))), (10, aI ((12 * p + i : Int))), (0, aO (some o)), (1, aI ((p : Int))), (2, aJ x), (4, aJ y), (6, aJ w1)]) rfl rfl (by omega) (by omega) rfl ?_
                    refine g_goto rfl ?_
                    refine g_ls [0, 1, 12, 13, 14, 15, 16] rfl rfl ?_
                    exact ih6 (i + 1) _ (by omega) (by exact gWo_no hn hno rfl) (by exact xor_step hl (fun z => by have z := (mw_tog hw1.1 i hno).mpr z; exact ⟨fun q => by omega, fun q => by omega⟩) (fun z => by have z := fun y => z ((mw_tog hw1.1 i hno).mp y); omega)) (by omega)
                  · skip
                    refine g_iconst rfl ?_
                    refine g_goto rfl ?_
                    refine g_istore (l1 := [(8, aI 1), (24, aI 0), (23, aI 1), (22, aI 0), (20, aJ (((((gx S p i) * w1) - x) * (((gy S p (gAft S p i)) * w1) - y)) - ((((gy S p i) * w1) - y) * (((gx S p (gAft S p i)) * w1) - x)))), (18, aJ (((gy S p (gAft S p i)) * w1) - y)), (16, aJ (((gx S p (gAft S p i)) * w1) - x)), (14, aJ (((gy S p i) * w1) - y)), (12, aJ (((gx S p i) * w1) - x)), (11, aI (((12 * p + (gAft S p i) : Nat) : Int))), (10, aI ((12 * p + i : Int))), (9, aI ((i : Int))), (0, aO (some o)), (1, aI ((p : Int))), (2, aJ x), (4, aJ y), (6, aJ w1)]) rfl rfl ?_
                    refine g_iinc (l1 := [(9, aI ((i : Int) + 1)), (8, aI 1), (24, aI 0), (23, aI 1), (22, aI 0), (20, aJ (((((gx S p i) * w1) - x) * (((gy S p (gAft S p i)) * w1) - y)) - ((((gy S p i) * w1) - y) * (((gx S p (gAft S p i)) * w1) - x)))), (18, aJ (((gy S p (gAft S p i)) * w1) - y)), (16, aJ (((gx S p (gAft S p i)) * w1) - x)), (14, aJ (((gy S p i) * w1) - y)), (12, aJ (((gx S p i) * w1) - x)), (11, aI (((12 * p + (gAft S p i) : Nat) : Int))), (10, aI ((12 * p + i : Int))), (0, aO (some o)), (1, aI ((p : Int))), (2, aJ x), (4, aJ y), (6, aJ w1)]) rfl rfl (by omega) (by omega) rfl ?_
                    refine g_goto rfl ?_
                    refine g_ls [0, 1, 12, 13, 14, 15, 16] rfl rfl ?_
                    exact ih6 (i + 1) _ (by omega) (by exact gWo_no hn hno rfl) (by exact xor_step hl (fun z => by have z := (mw_tog hw1.1 i hno).mpr z; exact ⟨fun q => by omega, fun q => by omega⟩) (fun z => by have z := fun y => z ((mw_tog hw1.1 i hno).mp y); omega)) (by omega)
              · skip
                refine g_lload rfl rfl ?_
                refine g_lconst0 rfl ?_
                refine g_lc_le rfl rfl (fun cq212 => ?_) (fun cq212 => ?_)
                · skip
                  refine g_iconst rfl ?_
                  refine g_istore (l1 := [(24, aI 0), (23, aI 1), (22, aI 0), (20, aJ (((((gx S p i) * w1) - x) * (((gy S p (gAft S p i)) * w1) - y)) - ((((gy S p i) * w1) - y) * (((gx S p (gAft S p i)) * w1) - x)))), (18, aJ (((gy S p (gAft S p i)) * w1) - y)), (16, aJ (((gx S p (gAft S p i)) * w1) - x)), (14, aJ (((gy S p i) * w1) - y)), (12, aJ (((gx S p i) * w1) - x)), (11, aI (((12 * p + (gAft S p i) : Nat) : Int))), (10, aI ((12 * p + i : Int))), (9, aI ((i : Int))), (8, aI l), (0, aO (some o)), (1, aI ((p : Int))), (2, aJ x), (4, aJ y), (6, aJ w1)]) rfl rfl ?_
                  refine g_iload rfl rfl ?_
                  refine g_iload rfl rfl ?_
                  refine g_if_eq_f rfl (by omega) ?_
                  refine g_lload rfl rfl ?_
                  refine g_lconst0 rfl ?_
                  refine g_lc_gt rfl rfl (fun cq233 => ?_) (fun cq233 => ?_)
                  · skip
                    refine g_iconst rfl ?_
                    refine g_goto rfl ?_
                    refine g_icmp_eq rfl (fun cq254 => ?_) (fun cq254 => ?_)
                    · skip
                      refine g_iconst rfl ?_
                      refine g_istore (l1 := [(8, aI 0), (24, aI 0), (23, aI 1), (22, aI 0), (20, aJ (((((gx S p i) * w1) - x) * (((gy S p (gAft S p i)) * w1) - y)) - ((((gy S p i) * w1) - y) * (((gx S p (gAft S p i)) * w1) - x)))), (18, aJ (((gy S p (gAft S p i)) * w1) - y)), (16, aJ (((gx S p (gAft S p i)) * w1) - x)), (14, aJ (((gy S p i) * w1) - y)), (12, aJ (((gx S p i) * w1) - x)), (11, aI (((12 * p + (gAft S p i) : Nat) : Int))), (10, aI ((12 * p + i : Int))), (9, aI ((i : Int))), (0, aO (some o)), (1, aI ((p : Int))), (2, aJ x), (4, aJ y), (6, aJ w1)]) rfl rfl ?_
                      refine g_iinc (l1 := [(9, aI ((i : Int) + 1)), (8, aI 0), (24, aI 0), (23, aI 1), (22, aI 0), (20, aJ (((((gx S p i) * w1) - x) * (((gy S p (gAft S p i)) * w1) - y)) - ((((gy S p i) * w1) - y) * (((gx S p (gAft S p i)) * w1) - x)))), (18, aJ (((gy S p (gAft S p i)) * w1) - y)), (16, aJ (((gx S p (gAft S p i)) * w1) - x)), (14, aJ (((gy S p i) * w1) - y)), (12, aJ (((gx S p i) * w1) - x)), (11, aI (((12 * p + (gAft S p i) : Nat) : Int))), (10, aI ((12 * p + i : Int))), (0, aO (some o)), (1, aI ((p : Int))), (2, aJ x), (4, aJ y), (6, aJ w1)]) rfl rfl (by omega) (by omega) rfl ?_
                      refine g_goto rfl ?_
                      refine g_ls [0, 1, 12, 13, 14, 15, 16] rfl rfl ?_
                      exact ih6 (i + 1) _ (by omega) (by exact gWo_no hn hno rfl) (by exact xor_step hl (fun z => by have z := (mw_tog hw1.1 i hno).mpr z; exact ⟨fun q => by omega, fun q => by omega⟩) (fun z => by have z := fun y => z ((mw_tog hw1.1 i hno).mp y); omega)) (by omega)
                    · skip
                      refine g_iconst rfl ?_
                      refine g_goto rfl ?_
                      refine g_istore (l1 := [(8, aI 1), (24, aI 0), (23, aI 1), (22, aI 0), (20, aJ (((((gx S p i) * w1) - x) * (((gy S p (gAft S p i)) * w1) - y)) - ((((gy S p i) * w1) - y) * (((gx S p (gAft S p i)) * w1) - x)))), (18, aJ (((gy S p (gAft S p i)) * w1) - y)), (16, aJ (((gx S p (gAft S p i)) * w1) - x)), (14, aJ (((gy S p i) * w1) - y)), (12, aJ (((gx S p i) * w1) - x)), (11, aI (((12 * p + (gAft S p i) : Nat) : Int))), (10, aI ((12 * p + i : Int))), (9, aI ((i : Int))), (0, aO (some o)), (1, aI ((p : Int))), (2, aJ x), (4, aJ y), (6, aJ w1)]) rfl rfl ?_
                      refine g_iinc (l1 := [(9, aI ((i : Int) + 1)), (8, aI 1), (24, aI 0), (23, aI 1), (22, aI 0), (20, aJ (((((gx S p i) * w1) - x) * (((gy S p (gAft S p i)) * w1) - y)) - ((((gy S p i) * w1) - y) * (((gx S p (gAft S p i)) * w1) - x)))), (18, aJ (((gy S p (gAft S p i)) * w1) - y)), (16, aJ (((gx S p (gAft S p i)) * w1) - x)), (14, aJ (((gy S p i) * w1) - y)), (12, aJ (((gx S p i) * w1) - x)), (11, aI (((12 * p + (gAft S p i) : Nat) : Int))), (10, aI ((12 * p + i : Int))), (0, aO (some o)), (1, aI ((p : Int))), (2, aJ x), (4, aJ y), (6, aJ w1)]) rfl rfl (by omega) (by omega) rfl ?_
                      refine g_goto rfl ?_
                      refine g_ls [0, 1, 12, 13, 14, 15, 16] rfl rfl ?_
                      exact ih6 (i + 1) _ (by omega) (by exact gWo_no hn hno rfl) (by exact xor_step hl (fun z => by have z := (mw_tog hw1.1 i hno).mpr z; exact ⟨fun q => by omega, fun q => by omega⟩) (fun z => by have z := fun y => z ((mw_tog hw1.1 i hno).mp y); omega)) (by omega)
                  · skip
                    refine g_iload rfl rfl ?_
                    refine g_if_eq_t rfl (by omega) ?_
                    refine g_iconst rfl ?_
                    refine g_icmp_eq rfl (fun cq254 => ?_) (fun cq254 => ?_)
                    · skip
                      refine g_iconst rfl ?_
                      refine g_istore (l1 := [(8, aI 0), (24, aI 0), (23, aI 1), (22, aI 0), (20, aJ (((((gx S p i) * w1) - x) * (((gy S p (gAft S p i)) * w1) - y)) - ((((gy S p i) * w1) - y) * (((gx S p (gAft S p i)) * w1) - x)))), (18, aJ (((gy S p (gAft S p i)) * w1) - y)), (16, aJ (((gx S p (gAft S p i)) * w1) - x)), (14, aJ (((gy S p i) * w1) - y)), (12, aJ (((gx S p i) * w1) - x)), (11, aI (((12 * p + (gAft S p i) : Nat) : Int))), (10, aI ((12 * p + i : Int))), (9, aI ((i : Int))), (0, aO (some o)), (1, aI ((p : Int))), (2, aJ x), (4, aJ y), (6, aJ w1)]) rfl rfl ?_
                      refine g_iinc (l1 := [(9, aI ((i : Int) + 1)), (8, aI 0), (24, aI 0), (23, aI 1), (22, aI 0), (20, aJ (((((gx S p i) * w1) - x) * (((gy S p (gAft S p i)) * w1) - y)) - ((((gy S p i) * w1) - y) * (((gx S p (gAft S p i)) * w1) - x)))), (18, aJ (((gy S p (gAft S p i)) * w1) - y)), (16, aJ (((gx S p (gAft S p i)) * w1) - x)), (14, aJ (((gy S p i) * w1) - y)), (12, aJ (((gx S p i) * w1) - x)), (11, aI (((12 * p + (gAft S p i) : Nat) : Int))), (10, aI ((12 * p + i : Int))), (0, aO (some o)), (1, aI ((p : Int))), (2, aJ x), (4, aJ y), (6, aJ w1)]) rfl rfl (by omega) (by omega) rfl ?_
                      refine g_goto rfl ?_
                      refine g_ls [0, 1, 12, 13, 14, 15, 16] rfl rfl ?_
                      exact ih6 (i + 1) _ (by omega) (by exact gWo_no hn hno rfl) (by exact xor_step hl (fun z => by have z := (mw_tog hw1.1 i hno).mpr z; exact ⟨fun q => by omega, fun q => by omega⟩) (fun z => by have z := fun y => z ((mw_tog hw1.1 i hno).mp y); omega)) (by omega)
                    · skip
                      refine g_iconst rfl ?_
                      refine g_goto rfl ?_
                      refine g_istore (l1 := [(8, aI 1), (24, aI 0), (23, aI 1), (22, aI 0), (20, aJ (((((gx S p i) * w1) - x) * (((gy S p (gAft S p i)) * w1) - y)) - ((((gy S p i) * w1) - y) * (((gx S p (gAft S p i)) * w1) - x)))), (18, aJ (((gy S p (gAft S p i)) * w1) - y)), (16, aJ (((gx S p (gAft S p i)) * w1) - x)), (14, aJ (((gy S p i) * w1) - y)), (12, aJ (((gx S p i) * w1) - x)), (11, aI (((12 * p + (gAft S p i) : Nat) : Int))), (10, aI ((12 * p + i : Int))), (9, aI ((i : Int))), (0, aO (some o)), (1, aI ((p : Int))), (2, aJ x), (4, aJ y), (6, aJ w1)]) rfl rfl ?_
                      refine g_iinc (l1 := [(9, aI ((i : Int) + 1)), (8, aI 1), (24, aI 0), (23, aI 1), (22, aI 0), (20, aJ (((((gx S p i) * w1) - x) * (((gy S p (gAft S p i)) * w1) - y)) - ((((gy S p i) * w1) - y) * (((gx S p (gAft S p i)) * w1) - x)))), (18, aJ (((gy S p (gAft S p i)) * w1) - y)), (16, aJ (((gx S p (gAft S p i)) * w1) - x)), (14, aJ (((gy S p i) * w1) - y)), (12, aJ (((gx S p i) * w1) - x)), (11, aI (((12 * p + (gAft S p i) : Nat) : Int))), (10, aI ((12 * p + i : Int))), (0, aO (some o)), (1, aI ((p : Int))), (2, aJ x), (4, aJ y), (6, aJ w1)]) rfl rfl (by omega) (by omega) rfl ?_
                      refine g_goto rfl ?_
                      refine g_ls [0, 1, 12, 13, 14, 15, 16] rfl rfl ?_
                      exact ih6 (i + 1) _ (by omega) (by exact gWo_no hn hno rfl) (by exact xor_step hl (fun z => by have z := (mw_tog hw1.1 i hno).mpr z; exact ⟨fun q => by omega, fun q => by omega⟩) (fun z => by have z := fun y => z ((mw_tog hw1.1 i hno).mp y); omega)) (by omega)
                · skip
                  refine g_iconst rfl ?_
                  refine g_goto rfl ?_
                  refine g_istore (l1 := [(24, aI 1), (23, aI 1), (22, aI 0), (20, aJ (((((gx S p i) * w1) - x) * (((gy S p (gAft S p i)) * w1) - y)) - ((((gy S p i) * w1) - y) * (((gx S p (gAft S p i)) * w1) - x)))), (18, aJ (((gy S p (gAft S p i)) * w1) - y)), (16, aJ (((gx S p (gAft S p i)) * w1) - x)), (14, aJ (((gy S p i) * w1) - y)), (12, aJ (((gx S p i) * w1) - x)), (11, aI (((12 * p + (gAft S p i) : Nat) : Int))), (10, aI ((12 * p + i : Int))), (9, aI ((i : Int))), (8, aI l), (0, aO (some o)), (1, aI ((p : Int))), (2, aJ x), (4, aJ y), (6, aJ w1)]) rfl rfl ?_
                  refine g_iload rfl rfl ?_
                  refine g_iload rfl rfl ?_
                  refine g_if_eq_f rfl (by omega) ?_
                  refine g_lload rfl rfl ?_
                  refine g_lconst0 rfl ?_
                  refine g_lc_gt rfl rfl (fun cq233 => ?_) (fun cq233 => ?_)
                  · skip
                    refine g_iconst rfl ?_
                    refine g_goto rfl ?_
                    refine g_icmp_eq rfl (fun cq254 => ?_) (fun cq254 => ?_)
                    · skip
                      refine g_iconst rfl ?_
                      refine g_istore (l1 := [(8, aI 0), (24, aI 1), (23, aI 1), (22, aI 0), (20, aJ (((((gx S p i) * w1) - x) * (((gy S p (gAft S p i)) * w1) - y)) - ((((gy S p i) * w1) - y) * (((gx S p (gAft S p i)) * w1) - x)))), (18, aJ (((gy S p (gAft S p i)) * w1) - y)), (16, aJ (((gx S p (gAft S p i)) * w1) - x)), (14, aJ (((gy S p i) * w1) - y)), (12, aJ (((gx S p i) * w1) - x)), (11, aI (((12 * p + (gAft S p i) : Nat) : Int))), (10, aI ((12 * p + i : Int))), (9, aI ((i : Int))), (0, aO (some o)), (1, aI ((p : Int))), (2, aJ x), (4, aJ y), (6, aJ w1)]) rfl rfl ?_
                      refine g_iinc (l1 := [(9, aI ((i : Int) + 1)), (8, aI 0), (24, aI 1), (23, aI 1), (22, aI 0), (20, aJ (((((gx S p i) * w1) - x) * (((gy S p (gAft S p i)) * w1) - y)) - ((((gy S p i) * w1) - y) * (((gx S p (gAft S p i)) * w1) - x)))), (18, aJ (((gy S p (gAft S p i)) * w1) - y)), (16, aJ (((gx S p (gAft S p i)) * w1) - x)), (14, aJ (((gy S p i) * w1) - y)), (12, aJ (((gx S p i) * w1) - x)), (11, aI (((12 * p + (gAft S p i) : Nat) : Int))), (10, aI ((12 * p + i : Int))), (0, aO (some o)), (1, aI ((p : Int))), (2, aJ x), (4, aJ y), (6, aJ w1)]) rfl rfl (by omega) (by omega) rfl ?_
                      refine g_goto rfl ?_
                      refine g_ls [0, 1, 12, 13, 14, 15, 16] rfl rfl ?_
                      exact ih6 (i + 1) _ (by omega) (by exact gWo_no hn hno rfl) (by exact xor_step hl (fun z => by have z := (mw_tog hw1.1 i hno).mpr z; exact ⟨fun q => by omega, fun q => by omega⟩) (fun z => by have z := fun y => z ((mw_tog hw1.1 i hno).mp y); omega)) (by omega)
                    · skip
                      refine g_iconst rfl ?_
                      refine g_goto rfl ?_
                      refine g_istore (l1 := [(8, aI 1), (24, aI 1), (23, aI 1), (22, aI 0), (20, aJ (((((gx S p i) * w1) - x) * (((gy S p (gAft S p i)) * w1) - y)) - ((((gy S p i) * w1) - y) * (((gx S p (gAft S p i)) * w1) - x)))), (18, aJ (((gy S p (gAft S p i)) * w1) - y)), (16, aJ (((gx S p (gAft S p i)) * w1) - x)), (14, aJ (((gy S p i) * w1) - y)), (12, aJ (((gx S p i) * w1) - x)), (11, aI (((12 * p + (gAft S p i) : Nat) : Int))), (10, aI ((12 * p + i : Int))), (9, aI ((i : Int))), (0, aO (some o)), (1, aI ((p : Int))), (2, aJ x), (4, aJ y), (6, aJ w1)]) rfl rfl ?_
                      refine g_iinc (l1 := [(9, aI ((i : Int) + 1)), (8, aI 1), (24, aI 1), (23, aI 1), (22, aI 0), (20, aJ (((((gx S p i) * w1) - x) * (((gy S p (gAft S p i)) * w1) - y)) - ((((gy S p i) * w1) - y) * (((gx S p (gAft S p i)) * w1) - x)))), (18, aJ (((gy S p (gAft S p i)) * w1) - y)), (16, aJ (((gx S p (gAft S p i)) * w1) - x)), (14, aJ (((gy S p i) * w1) - y)), (12, aJ (((gx S p i) * w1) - x)), (11, aI (((12 * p + (gAft S p i) : Nat) : Int))), (10, aI ((12 * p + i : Int))), (0, aO (some o)), (1, aI ((p : Int))), (2, aJ x), (4, aJ y), (6, aJ w1)]) rfl rfl (by omega) (by omega) rfl ?_
                      refine g_goto rfl ?_
                      refine g_ls [0, 1, 12, 13, 14, 15, 16] rfl rfl ?_
                      exact ih6 (i + 1) _ (by omega) (by exact gWo_no hn hno rfl) (by exact xor_step hl (fun z => by have z := (mw_tog hw1.1 i hno).mpr z; exact ⟨fun q => by omega, fun q => by omega⟩) (fun z => by have z := fun y => z ((mw_tog hw1.1 i hno).mp y); omega)) (by omega)
                  · skip
                    refine g_iload rfl rfl ?_
                    refine g_if_eq_f rfl (by omega) ?_
                    refine g_lload rfl rfl ?_
                    refine g_lconst0 rfl ?_
                    refine g_lc_ge rfl rfl (fun cq245 => ?_) (fun cq245 => ?_)
                    · skip
                      refine g_iconst rfl ?_
                      refine g_icmp_eq rfl (fun cq254 => ?_) (fun cq254 => ?_)
                      · skip
                        refine g_iconst rfl ?_
                        refine g_istore (l1 := [(8, aI 0), (24, aI 1), (23, aI 1), (22, aI 0), (20, aJ (((((gx S p i) * w1) - x) * (((gy S p (gAft S p i)) * w1) - y)) - ((((gy S p i) * w1) - y) * (((gx S p (gAft S p i)) * w1) - x)))), (18, aJ (((gy S p (gAft S p i)) * w1) - y)), (16, aJ (((gx S p (gAft S p i)) * w1) - x)), (14, aJ (((gy S p i) * w1) - y)), (12, aJ (((gx S p i) * w1) - x)), (11, aI (((12 * p + (gAft S p i) : Nat) : Int))), (10, aI ((12 * p + i : Int))), (9, aI ((i : Int))), (0, aO (some o)), (1, aI ((p : Int))), (2, aJ x), (4, aJ y), (6, aJ w1)]) rfl rfl ?_
                        refine g_iinc (l1 := [(9, aI ((i : Int) + 1)), (8, aI 0), (24, aI 1), (23, aI 1), (22, aI 0), (20, aJ (((((gx S p i) * w1) - x) * (((gy S p (gAft S p i)) * w1) - y)) - ((((gy S p i) * w1) - y) * (((gx S p (gAft S p i)) * w1) - x)))), (18, aJ (((gy S p (gAft S p i)) * w1) - y)), (16, aJ (((gx S p (gAft S p i)) * w1) - x)), (14, aJ (((gy S p i) * w1) - y)), (12, aJ (((gx S p i) * w1) - x)), (11, aI (((12 * p + (gAft S p i) : Nat) : Int))), (10, aI ((12 * p + i : Int))), (0, aO (some o)), (1, aI ((p : Int))), (2, aJ x), (4, aJ y), (6, aJ w1)]) rfl rfl (by omega) (by omega) rfl ?_
                        refine g_goto rfl ?_
                        refine g_ls [0, 1, 12, 13, 14, 15, 16] rfl rfl ?_
                        exact ih6 (i + 1) _ (by omega) (by exact gWo_no hn hno rfl) (by exact xor_step hl (fun z => by have z := (mw_tog hw1.1 i hno).mpr z; exact ⟨fun q => by omega, fun q => by omega⟩) (fun z => by have z := fun y => z ((mw_tog hw1.1 i hno).mp y); omega)) (by omega)
                      · skip
                        refine g_iconst rfl ?_
                        refine g_goto rfl ?_
                        refine g_istore (l1 := [(8, aI 1), (24, aI 1), (23, aI 1), (22, aI 0), (20, aJ (((((gx S p i) * w1) - x) * (((gy S p (gAft S p i)) * w1) - y)) - ((((gy S p i) * w1) - y) * (((gx S p (gAft S p i)) * w1) - x)))), (18, aJ (((gy S p (gAft S p i)) * w1) - y)), (16, aJ (((gx S p (gAft S p i)) * w1) - x)), (14, aJ (((gy S p i) * w1) - y)), (12, aJ (((gx S p i) * w1) - x)), (11, aI (((12 * p + (gAft S p i) : Nat) : Int))), (10, aI ((12 * p + i : Int))), (9, aI ((i : Int))), (0, aO (some o)), (1, aI ((p : Int))), (2, aJ x), (4, aJ y), (6, aJ w1)]) rfl rfl ?_
                        refine g_iinc (l1 := [(9, aI ((i : Int) + 1)), (8, aI 1), (24, aI 1), (23, aI 1), (22, aI 0), (20, aJ (((((gx S p i) * w1) - x) * (((gy S p (gAft S p i)) * w1) - y)) - ((((gy S p i) * w1) - y) * (((gx S p (gAft S p i)) * w1) - x)))), (18, aJ (((gy S p (gAft S p i)) * w1) - y)), (16, aJ (((gx S p (gAft S p i)) * w1) - x)), (14, aJ (((gy S p i) * w1) - y)), (12, aJ (((gx S p i) * w1) - x)), (11, aI (((12 * p + (gAft S p i) : Nat) : Int))), (10, aI ((12 * p + i : Int))), (0, aO (some o)), (1, aI ((p : Int))), (2, aJ x), (4, aJ y), (6, aJ w1)]) rfl rfl (by omega) (by omega) rfl ?_
                        refine g_goto rfl ?_
                        refine g_ls [0, 1, 12, 13, 14, 15, 16] rfl rfl ?_
                        exact ih6 (i + 1) _ (by omega) (by exact gWo_no hn hno rfl) (by exact xor_step hl (fun z => by have z := (mw_tog hw1.1 i hno).mpr z; exact ⟨fun q => by omega, fun q => by omega⟩) (fun z => by have z := fun y => z ((mw_tog hw1.1 i hno).mp y); omega)) (by omega)
                    · skip
                      refine g_iconst rfl ?_
                      refine g_goto rfl ?_
                      refine g_icmp_eq rfl (fun cq254 => ?_) (fun cq254 => ?_)
                      · skip
                        refine g_iconst rfl ?_
                        refine g_istore (l1 := [(8, aI 0), (24, aI 1), (23, aI 1), (22, aI 0), (20, aJ (((((gx S p i) * w1) - x) * (((gy S p (gAft S p i)) * w1) - y)) - ((((gy S p i) * w1) - y) * (((gx S p (gAft S p i)) * w1) - x)))), (18, aJ (((gy S p (gAft S p i)) * w1) - y)), (16, aJ (((gx S p (gAft S p i)) * w1) - x)), (14, aJ (((gy S p i) * w1) - y)), (12, aJ (((gx S p i) * w1) - x)), (11, aI (((12 * p + (gAft S p i) : Nat) : Int))), (10, aI ((12 * p + i : Int))), (9, aI ((i : Int))), (0, aO (some o)), (1, aI ((p : Int))), (2, aJ x), (4, aJ y), (6, aJ w1)]) rfl rfl ?_
                        refine g_iinc (l1 := [(9, aI ((i : Int) + 1)), (8, aI 0), (24, aI 1), (23, aI 1), (22, aI 0), (20, aJ (((((gx S p i) * w1) - x) * (((gy S p (gAft S p i)) * w1) - y)) - ((((gy S p i) * w1) - y) * (((gx S p (gAft S p i)) * w1) - x)))), (18, aJ (((gy S p (gAft S p i)) * w1) - y)), (16, aJ (((gx S p (gAft S p i)) * w1) - x)), (14, aJ (((gy S p i) * w1) - y)), (12, aJ (((gx S p i) * w1) - x)), (11, aI (((12 * p + (gAft S p i) : Nat) : Int))), (10, aI ((12 * p + i : Int))), (0, aO (some o)), (1, aI ((p : Int))), (2, aJ x), (4, aJ y), (6, aJ w1)]) rfl rfl (by omega) (by omega) rfl ?_
                        refine g_goto rfl ?_
                        refine g_ls [0, 1, 12, 13, 14, 15, 16] rfl rfl ?_
                        exact ih6 (i + 1) _ (by omega) (by exact gWo_no hn hno rfl) (by exact xor_step hl (fun z => by have z := (mw_tog hw1.1 i hno).mpr z; exact ⟨fun q => by omega, fun q => by omega⟩) (fun z => by have z := fun y => z ((mw_tog hw1.1 i hno).mp y); omega)) (by omega)
                      · skip
                        refine g_iconst rfl ?_
                        refine g_goto rfl ?_
                        refine g_istore (l1 := [(8, aI 1), (24, aI 1), (23, aI 1), (22, aI 0), (20, aJ (((((gx S p i) * w1) - x) * (((gy S p (gAft S p i)) * w1) - y)) - ((((gy S p i) * w1) - y) * (((gx S p (gAft S p i)) * w1) - x)))), (18, aJ (((gy S p (gAft S p i)) * w1) - y)), (16, aJ (((gx S p (gAft S p i)) * w1) - x)), (14, aJ (((gy S p i) * w1) - y)), (12, aJ (((gx S p i) * w1) - x)), (11, aI (((12 * p + (gAft S p i) : Nat) : Int))), (10, aI ((12 * p + i : Int))), (9, aI ((i : Int))), (0, aO (some o)), (1, aI ((p : Int))), (2, aJ x), (4, aJ y), (6, aJ w1)]) rfl rfl ?_
                        refine g_iinc (l1 := [(9, aI ((i : Int) + 1)), (8, aI 1), (24, aI 1), (23, aI 1), (22, aI 0), (20, aJ (((((gx S p i) * w1) - x) * (((gy S p (gAft S p i)) * w1) - y)) - ((((gy S p i) * w1) - y) * (((gx S p (gAft S p i)) * w1) - x)))), (18, aJ (((gy S p (gAft S p i)) * w1) - y)), (16, aJ (((gx S p (gAft S p i)) * w1) - x)), (14, aJ (((gy S p i) * w1) - y)), (12, aJ (((gx S p i) * w1) - x)), (11, aI (((12 * p + (gAft S p i) : Nat) : Int))), (10, aI ((12 * p + i : Int))), (0, aO (some o)), (1, aI ((p : Int))), (2, aJ x), (4, aJ y), (6, aJ w1)]) rfl rfl (by omega) (by omega) rfl ?_
                        refine g_goto rfl ?_
                        refine g_ls [0, 1, 12, 13, 14, 15, 16] rfl rfl ?_
                        exact ih6 (i + 1) _ (by omega) (by exact gWo_no hn hno rfl) (by exact xor_step hl (fun z => by have z := (mw_tog hw1.1 i hno).mpr z; exact ⟨fun q => by omega, fun q => by omega⟩) (fun z => by have z := fun y => z ((mw_tog hw1.1 i hno).mp y); omega)) (by omega)
        · skip
          refine g_lload rfl rfl ?_
          refine g_lload rfl rfl ?_
          refine g_callSJ [aJ (((gx S p i) * w1) - x), aJ (((gx S p (gAft S p i)) * w1) - x)] [] rfl rfl rfl rfl (Nat.le_of_ble_eq_true rfl) (c_les (by omega) (((gx S p i) * w1) - x) (((gx S p (gAft S p i)) * w1) - x) _) ?_
          rintro r3 hx3 ⟨ehx3, rfl⟩
          rw [ehx3]
          clear ehx3 hx3
          refine g_lconst0 rfl ?_
          refine g_lc_gt rfl rfl (fun cq127 => ?_) (fun cq127 => ?_)
          · skip
            refine g_iconst rfl ?_
            refine g_istore (l1 := [(22, aI 0), (20, aJ (((((gx S p i) * w1) - x) * (((gy S p (gAft S p i)) * w1) - y)) - ((((gy S p i) * w1) - y) * (((gx S p (gAft S p i)) * w1) - x)))), (18, aJ (((gy S p (gAft S p i)) * w1) - y)), (16, aJ (((gx S p (gAft S p i)) * w1) - x)), (14, aJ (((gy S p i) * w1) - y)), (12, aJ (((gx S p i) * w1) - x)), (11, aI (((12 * p + (gAft S p i) : Nat) : Int))), (10, aI ((12 * p + i : Int))), (9, aI ((i : Int))), (8, aI l), (0, aO (some o)), (1, aI ((p : Int))), (2, aJ x), (4, aJ y), (6, aJ w1)]) rfl rfl ?_
            refine g_iload rfl rfl ?_
            refine g_if_eq_t rfl (by omega) ?_
            have hno : ¬ gWon S p x y w1 i := fun z => by
              have z := (mw_on hw1.1 i).mpr z
              unfold mWon oneS at z
              have z1 := z.1
              have z2 := z.2.1
              have z3 := z.2.2
              omega
            refine g_lload rfl rfl ?_
            refine g_lconst0 rfl ?_
            refine g_lc_gt rfl rfl (fun cq184 => ?_) (fun cq184 => ?_)
            · skip
              refine g_iconst rfl ?_
              refine g_istore (l1 := [(23, aI 0), (22, aI 0), (20, aJ (((((gx S p i) * w1) - x) * (((gy S p (gAft S p i)) * w1) - y)) - ((((gy S p i) * w1) - y) * (((gx S p (gAft S p i)) * w1) - x)))), (18, aJ (((gy S p (gAft S p i)) * w1) - y)), (16, aJ (((gx S p (gAft S p i)) * w1) - x)), (14, aJ (((gy S p i) * w1) - y)), (12, aJ (((gx S p i) * w1) - x)), (11, aI (((12 * p + (gAft S p i) : Nat) : Int))), (10, aI ((12 * p + i : Int))), (9, aI ((i : Int))), (8, aI l), (0, aO (some o)), (1, aI ((p : Int))), (2, aJ x), (4, aJ y), (6, aJ w1)]) rfl rfl ?_
              refine g_lload rfl rfl ?_
              refine g_lconst0 rfl ?_
              refine g_lc_gt rfl rfl (fun cq205 => ?_) (fun cq205 => ?_)
              · skip
                refine g_iconst rfl ?_
                refine g_istore (l1 := [(24, aI 0), (23, aI 0), (22, aI 0), (20, aJ (((((gx S p i) * w1) - x) * (((gy S p (gAft S p i)) * w1) - y)) - ((((gy S p i) * w1) - y) * (((gx S p (gAft S p i)) * w1) - x)))), (18, aJ (((gy S p (gAft S p i)) * w1) - y)), (16, aJ (((gx S p (gAft S p i)) * w1) - x)), (14, aJ (((gy S p i) * w1) - y)), (12, aJ (((gx S p i) * w1) - x)), (11, aI (((12 * p + (gAft S p i) : Nat) : Int))), (10, aI ((12 * p + i : Int))), (9, aI ((i : Int))), (8, aI l), (0, aO (some o)), (1, aI ((p : Int))), (2, aJ x), (4, aJ y), (6, aJ w1)]) rfl rfl ?_
                refine g_iload rfl rfl ?_
                refine g_iload rfl rfl ?_
                refine g_if_eq_t rfl (by omega) ?_
                refine g_iload rfl rfl ?_
                refine g_if_eq_t rfl (by omega) ?_
                refine g_iconst rfl ?_
                refine g_icmp_eq rfl (fun cq254 => ?_) (fun cq254 => ?_)
                · skip
                  refine g_iconst rfl ?_
                  refine g_istore (l1 := [(8, aI 0), (24, aI 0), (23, aI 0), (22, aI 0), (20, aJ (((((gx S p i) * w1) - x) * (((gy S p (gAft S p i)) * w1) - y)) - ((((gy S p i) * w1) - y) * (((gx S p (gAft S p i)) * w1) - x)))), (18, aJ (((gy S p (gAft S p i)) * w1) - y)), (16, aJ (((gx S p (gAft S p i)) * w1) - x)), (14, aJ (((gy S p i) * w1) - y)), (12, aJ (((gx S p i) * w1) - x)), (11, aI (((12 * p + (gAft S p i) : Nat) : Int))), (10, aI ((12 * p + i : Int))), (9, aI ((i : Int))), (0, aO (some o)), (1, aI ((p : Int))), (2, aJ x), (4, aJ y), (6, aJ w1)]) rfl rfl ?_
                  refine g_iinc (l1 := [(9, aI ((i : Int) + 1)), (8, aI 0), (24, aI 0), (23, aI 0), (22, aI 0), (20, aJ (((((gx S p i) * w1) - x) * (((gy S p (gAft S p i)) * w1) - y)) - ((((gy S p i) * w1) - y) * (((gx S p (gAft S p i)) * w1) - x)))), (18, aJ (((gy S p (gAft S p i)) * w1) - y)), (16, aJ (((gx S p (gAft S p i)) * w1) - x)), (14, aJ (((gy S p i) * w1) - y)), (12, aJ (((gx S p i) * w1) - x)), (11, aI (((12 * p + (gAft S p i) : Nat) : Int))), (10, aI ((12 * p + i : Int))), (0, aO (some o)), (1, aI ((p : Int))), (2, aJ x), (4, aJ y), (6, aJ w1)]) rfl rfl (by omega) (by omega) rfl ?_
                  refine g_goto rfl ?_
                  refine g_ls [0, 1, 12, 13, 14, 15, 16] rfl rfl ?_
                  exact ih6 (i + 1) _ (by omega) (by exact gWo_no hn hno rfl) (by exact xor_step hl (fun z => by have z := (mw_tog hw1.1 i hno).mpr z; exact ⟨fun q => by omega, fun q => by omega⟩) (fun z => by have z := fun y => z ((mw_tog hw1.1 i hno).mp y); omega)) (by omega)
                · skip
                  refine g_iconst rfl ?_
                  refine g_goto rfl ?_
                  refine g_istore (l1 := [(8, aI 1), (24, aI 0), (23, aI 0), (22, aI 0), (20, aJ (((((gx S p i) * w1) - x) * (((gy S p (gAft S p i)) * w1) - y)) - ((((gy S p i) * w1) - y) * (((gx S p (gAft S p i)) * w1) - x)))), (18, aJ (((gy S p (gAft S p i)) * w1) - y)), (16, aJ (((gx S p (gAft S p i)) * w1) - x)), (14, aJ (((gy S p i) * w1) - y)), (12, aJ (((gx S p i) * w1) - x)), (11, aI (((12 * p + (gAft S p i) : Nat) : Int))), (10, aI ((12 * p + i : Int))), (9, aI ((i : Int))), (0, aO (some o)), (1, aI ((p : Int))), (2, aJ x), (4, aJ y), (6, aJ w1)]) rfl rfl ?_
                  refine g_iinc (l1 := [(9, aI ((i : Int) + 1)), (8, aI 1), (24, aI 0), (23, aI 0), (22, aI 0), (20, aJ (((((gx S p i) * w1) - x) * (((gy S p (gAft S p i)) * w1) - y)) - ((((gy S p i) * w1) - y) * (((gx S p (gAft S p i)) * w1) - x)))), (18, aJ (((gy S p (gAft S p i)) * w1) - y)), (16, aJ (((gx S p (gAft S p i)) * w1) - x)), (14, aJ (((gy S p i) * w1) - y)), (12, aJ (((gx S p i) * w1) - x)), (11, aI (((12 * p + (gAft S p i) : Nat) : Int))), (10, aI ((12 * p + i : Int))), (0, aO (some o)), (1, aI ((p : Int))), (2, aJ x), (4, aJ y), (6, aJ w1)]) rfl rfl (by omega) (by omega) rfl ?_
                  refine g_goto rfl ?_
                  refine g_ls [0, 1, 12, 13, 14, 15, 16] rfl rfl ?_
                  exact ih6 (i + 1) _ (by omega) (by exact gWo_no hn hno rfl) (by exact xor_step hl (fun z => by have z := (mw_tog hw1.1 i hno).mpr z; exact ⟨fun q => by omega, fun q => by omega⟩) (fun z => by have z := fun y => z ((mw_tog hw1.1 i hno).mp y); omega)) (by omega)
              · skip
                refine g_lload rfl rfl ?_
                refine g_lconst0 rfl ?_
                refine g_lc_le rfl rfl (fun cq212 => ?_) (fun cq212 => ?_)
                · skip
                  refine g_iconst rfl ?_
                  refine g_istore (l1 := [(24, aI 0), (23, aI 0), (22, aI 0), (20, aJ (((((gx S p i) * w1) - x) * (((gy S p (gAft S p i)) * w1) - y)) - ((((gy S p i) * w1) - y) * (((gx S p (gAft S p i)) * w1) - x)))), (18, aJ (((gy S p (gAft S p i)) * w1) - y)), (16, aJ (((gx S p (gAft S p i)) * w1) - x)), (14, aJ (((gy S p i) * w1) - y)), (12, aJ (((gx S p i) * w1) - x)), (11, aI (((12 * p + (gAft S p i) : Nat) : Int))), (10, aI ((12 * p + i : Int))), (9, aI ((i : Int))), (8, aI l), (0, aO (some o)), (1, aI ((p : Int))), (2, aJ x), (4, aJ y), (6, aJ w1)]) rfl rfl ?_
                  refine g_iload rfl rfl ?_
                  refine g_iload rfl rfl ?_
                  refine g_if_eq_t rfl (by omega) ?_
                  refine g_iload rfl rfl ?_
                  refine g_if_eq_t rfl (by omega) ?_
                  refine g_iconst rfl ?_
                  refine g_icmp_eq rfl (fun cq254 => ?_) (fun cq254 => ?_)
                  · skip
                    refine g_iconst rfl ?_
                    refine g_istore (l1 := [(8, aI 0), (24, aI 0), (23, aI 0), (22, aI 0), (20, aJ (((((gx S p i) * w1) - x) * (((gy S p (gAft S p i)) * w1) - y)) - ((((gy S p i) * w1) - y) * (((gx S p (gAft S p i)) * w1) - x)))), (18, aJ (((gy S p (gAft S p i)) * w1) - y)), (16, aJ (((gx S p (gAft S p i)) * w1) - x)), (14, aJ (((gy S p i) * w1) - y)), (12, aJ (((gx S p i) * w1) - x)), (11, aI (((12 * p + (gAft S p i) : Nat) : Int))), (10, aI ((12 * p + i : Int))), (9, aI ((i : Int))), (0, aO (some o)), (1, aI ((p : Int))), (2, aJ x), (4, aJ y), (6, aJ w1)]) rfl rfl ?_
                    refine g_iinc (l1 := [(9, aI ((i : Int) + 1)), (8, aI 0), (24, aI 0), (23, aI 0), (22, aI 0), (20, aJ (((((gx S p i) * w1) - x) * (((gy S p (gAft S p i)) * w1) - y)) - ((((gy S p i) * w1) - y) * (((gx S p (gAft S p i)) * w1) - x)))), (18, aJ (((gy S p (gAft S p i)) * w1) - y)), (16, aJ (((gx S p (gAft S p i)) * w1) - x)), (14, aJ (((gy S p i) * w1) - y)), (12, aJ (((gx S p i) * w1) - x)), (11, aI (((12 * p + (gAft S p i) : Nat) : Int))), (10, aI ((12 * p + i : Int))), (0, aO (some o)), (1, aI ((p : Int))), (2, aJ x), (4, aJ y), (6, aJ w1)]) rfl rfl (by omega) (by omega) rfl ?_
                    refine g_goto rfl ?_
                    refine g_ls [0, 1, 12, 13, 14, 15, 16] rfl rfl ?_
                    exact ih6 (i + 1) _ (by omega) (by exact gWo_no hn hno rfl) (by exact xor_step hl (fun z => by have z := (mw_tog hw1.1 i hno).mpr z; exact ⟨fun q => by omega, fun q => by omega⟩) (fun z => by have z := fun y => z ((mw_tog hw1.1 i hno).mp y); omega)) (by omega)
                  · skip
                    refine g_iconst rfl ?_
                    refine g_goto rfl ?_
                    refine g_istore (l1 := [(8, aI 1), (24, aI 0), (23, aI 0), (22, aI 0), (20, aJ (((((gx S p i) * w1) - x) * (((gy S p (gAft S p i)) * w1) - y)) - ((((gy S p i) * w1) - y) * (((gx S p (gAft S p i)) * w1) - x)))), (18, aJ (((gy S p (gAft S p i)) * w1) - y)), (16, aJ (((gx S p (gAft S p i)) * w1) - x)), (14, aJ (((gy S p i) * w1) - y)), (12, aJ (((gx S p i) * w1) - x)), (11, aI (((12 * p + (gAft S p i) : Nat) : Int))), (10, aI ((12 * p + i : Int))), (9, aI ((i : Int))), (0, aO (some o)), (1, aI ((p : Int))), (2, aJ x), (4, aJ y), (6, aJ w1)]) rfl rfl ?_
                    refine g_iinc (l1 := [(9, aI ((i : Int) + 1)), (8, aI 1), (24, aI 0), (23, aI 0), (22, aI 0), (20, aJ (((((gx S p i) * w1) - x) * (((gy S p (gAft S p i)) * w1) - y)) - ((((gy S p i) * w1) - y) * (((gx S p (gAft S p i)) * w1) - x)))), (18, aJ (((gy S p (gAft S p i)) * w1) - y)), (16, aJ (((gx S p (gAft S p i)) * w1) - x)), (14, aJ (((gy S p i) * w1) - y)), (12, aJ (((gx S p i) * w1) - x)), (11, aI (((12 * p + (gAft S p i) : Nat) : Int))), (10, aI ((12 * p + i : Int))), (0, aO (some o)), (1, aI ((p : Int))), (2, aJ x), (4, aJ y), (6, aJ w1)]) rfl rfl (by omega) (by omega) rfl ?_
                    refine g_goto rfl ?_
                    refine g_ls [0, 1, 12, 13, 14, 15, 16] rfl rfl ?_
                    exact ih6 (i + 1) _ (by omega) (by exact gWo_no hn hno rfl) (by exact xor_step hl (fun z => by have z := (mw_tog hw1.1 i hno).mpr z; exact ⟨fun q => by omega, fun q => by omega⟩) (fun z => by have z := fun y => z ((mw_tog hw1.1 i hno).mp y); omega)) (by omega)
                · skip
                  refine g_iconst rfl ?_
                  refine g_goto rfl ?_
                  refine g_istore (l1 := [(24, aI 1), (23, aI 0), (22, aI 0), (20, aJ (((((gx S p i) * w1) - x) * (((gy S p (gAft S p i)) * w1) - y)) - ((((gy S p i) * w1) - y) * (((gx S p (gAft S p i)) * w1) - x)))), (18, aJ (((gy S p (gAft S p i)) * w1) - y)), (16, aJ (((gx S p (gAft S p i)) * w1) - x)), (14, aJ (((gy S p i) * w1) - y)), (12, aJ (((gx S p i) * w1) - x)), (11, aI (((12 * p + (gAft S p i) : Nat) : Int))), (10, aI ((12 * p + i : Int))), (9, aI ((i : Int))), (8, aI l), (0, aO (some o)), (1, aI ((p : Int))), (2, aJ x), (4, aJ y), (6, aJ w1)]) rfl rfl ?_
                  refine g_iload rfl rfl ?_
                  refine g_iload rfl rfl ?_
                  refine g_if_eq_t rfl (by omega) ?_
                  refine g_iload rfl rfl ?_
                  refine g_if_eq_f rfl (by omega) ?_
                  refine g_lload rfl rfl ?_
                  refine g_lconst0 rfl ?_
                  refine g_lc_ge rfl rfl (fun cq245 => ?_) (fun cq245 => ?_)
                  · skip
                    refine g_iconst rfl ?_
                    refine g_icmp_eq rfl (fun cq254 => ?_) (fun cq254 => ?_)
                    · skip
                      refine g_iconst rfl ?_
                      refine g_istore (l1 := [(8, aI 0), (24, aI 1), (23, aI 0), (22, aI 0), (20, aJ (((((gx S p i) * w1) - x) * (((gy S p (gAft S p i)) * w1) - y)) - ((((gy S p i) * w1) - y) * (((gx S p (gAft S p i)) * w1) - x)))), (18, aJ (((gy S p (gAft S p i)) * w1) - y)), (16, aJ (((gx S p (gAft S p i)) * w1) - x)), (14, aJ (((gy S p i) * w1) - y)), (12, aJ (((gx S p i) * w1) - x)), (11, aI (((12 * p + (gAft S p i) : Nat) : Int))), (10, aI ((12 * p + i : Int))), (9, aI ((i : Int))), (0, aO (some o)), (1, aI ((p : Int))), (2, aJ x), (4, aJ y), (6, aJ w1)]) rfl rfl ?_
                      refine g_iinc (l1 := [(9, aI ((i : Int) + 1)), (8, aI 0), (24, aI 1), (23, aI 0), (22, aI 0), (20, aJ (((((gx S p i) * w1) - x) * (((gy S p (gAft S p i)) * w1) - y)) - ((((gy S p i) * w1) - y) * (((gx S p (gAft S p i)) * w1) - x)))), (18, aJ (((gy S p (gAft S p i)) * w1) - y)), (16, aJ (((gx S p (gAft S p i)) * w1) - x)), (14, aJ (((gy S p i) * w1) - y)), (12, aJ (((gx S p i) * w1) - x)), (11, aI (((12 * p + (gAft S p i) : Nat) : Int))), (10, aI ((12 * p + i : Int))), (0, aO (some o)), (1, aI ((p : Int))), (2, aJ x), (4, aJ y), (6, aJ w1)]) rfl rfl (by omega) (by omega) rfl ?_
                      refine g_goto rfl ?_
                      refine g_ls [0, 1, 12, 13, 14, 15, 16] rfl rfl ?_
                      exact ih6 (i + 1) _ (by omega) (by exact gWo_no hn hno rfl) (by exact xor_step hl (fun z => by have z := (mw_tog hw1.1 i hno).mpr z; exact ⟨fun q => by omega, fun q => by omega⟩) (fun z => by have z := fun y => z ((mw_tog hw1.1 i hno).mp y); omega)) (by omega)
                    · skip
                      refine g_iconst rfl ?_
                      refine g_goto rfl ?_
                      refine g_istore (l1 := [(8, aI 1), (24, aI 1), (23, aI 0), (22, aI 0), (20, aJ (((((gx S p i) * w1) - x) * (((gy S p (gAft S p i)) * w1) - y)) - ((((gy S p i) * w1) - y) * (((gx S p (gAft S p i)) * w1) - x)))), (18, aJ (((gy S p (gAft S p i)) * w1) - y)), (16, aJ (((gx S p (gAft S p i)) * w1) - x)), (14, aJ (((gy S p i) * w1) - y)), (12, aJ (((gx S p i) * w1) - x)), (11, aI (((12 * p + (gAft S p i) : Nat) : Int))), (10, aI ((12 * p + i : Int))), (9, aI ((i : Int))), (0, aO (some o)), (1, aI ((p : Int))), (2, aJ x), (4, aJ y), (6, aJ w1)]) rfl rfl ?_
                      refine g_iinc (l1 := [(9, aI ((i : Int) + 1)), (8, aI 1), (24, aI 1), (23, aI 0), (22, aI 0), (20, aJ (((((gx S p i) * w1) - x) * (((gy S p (gAft S p i)) * w1) - y)) - ((((gy S p i) * w1) - y) * (((gx S p (gAft S p i)) * w1) - x)))), (18, aJ (((gy S p (gAft S p i)) * w1) - y)), (16, aJ (((gx S p (gAft S p i)) * w1) - x)), (14, aJ (((gy S p i) * w1) - y)), (12, aJ (((gx S p i) * w1) - x)), (11, aI (((12 * p + (gAft S p i) : Nat) : Int))), (10, aI ((12 * p + i : Int))), (0, aO (some o)), (1, aI ((p : Int))), (2, aJ x), (4, aJ y), (6, aJ w1)]) rfl rfl (by omega) (by omega) rfl ?_
                      refine g_goto rfl ?_
                      refine g_ls [0, 1, 12, 13, 14, 15, 16] rfl rfl ?_
                      exact ih6 (i + 1) _ (by omega) (by exact gWo_no hn hno rfl) (by exact xor_step hl (fun z => by have z := (mw_tog hw1.1 i hno).mpr z; exact ⟨fun q => by omega, fun q => by omega⟩) (fun z => by have z := fun y => z ((mw_tog hw1.1 i hno).mp y); omega)) (by omega)
                  · skip
                    refine g_iconst rfl ?_
                    refine g_goto rfl ?_
                    refine g_icmp_eq rfl (fun cq254 => ?_) (fun cq254 => ?_)
                    · skip
                      refine g_iconst rfl ?_
                      refine g_istore (l1 := [(8, aI 0), (24, aI 1), (23, aI 0), (22, aI 0), (20, aJ (((((gx S p i) * w1) - x) * (((gy S p (gAft S p i)) * w1) - y)) - ((((gy S p i) * w1) - y) * (((gx S p (gAft S p i)) * w1) - x)))), (18, aJ (((gy S p (gAft S p i)) * w1) - y)), (16, aJ (((gx S p (gAft S p i)) * w1) - x)), (14, aJ (((gy S p i) * w1) - y)), (12, aJ (((gx S p i) * w1) - x)), (11, aI (((12 * p + (gAft S p i) : Nat) : Int))), (10, aI ((12 * p + i : Int))), (9, aI ((i : Int))), (0, aO (some o)), (1, aI ((p : Int))), (2, aJ x), (4, aJ y), (6, aJ w1)]) rfl rfl ?_
                      refine g_iinc (l1 := [(9, aI ((i : Int) + 1)), (8, aI 0), (24, aI 1), (23, aI 0), (22, aI 0), (20, aJ (((((gx S p i) * w1) - x) * (((gy S p (gAft S p i)) * w1) - y)) - ((((gy S p i) * w1) - y) * (((gx S p (gAft S p i)) * w1) - x)))), (18, aJ (((gy S p (gAft S p i)) * w1) - y)), (16, aJ (((gx S p (gAft S p i)) * w1) - x)), (14, aJ (((gy S p i) * w1) - y)), (12, aJ (((gx S p i) * w1) - x)), (11, aI (((12 * p + (gAft S p i) : Nat) : Int))), (10, aI ((12 * p + i : Int))), (0, aO (some o)), (1, aI ((p : Int))), (2, aJ x), (4, aJ y), (6, aJ w1)]) rfl rfl (by omega) (by omega) rfl ?_
                      refine g_goto rfl ?_
                      refine g_ls [0, 1, 12, 13, 14, 15, 16] rfl rfl ?_
                      exact ih6 (i + 1) _ (by omega) (by exact gWo_no hn hno rfl) (by exact xor_step hl (fun z => by have z := (mw_tog hw1.1 i hno).mpr z; exact ⟨fun q => by omega, fun q => by omega⟩) (fun z => by have z := fun y => z ((mw_tog hw1.1 i hno).mp y); omega)) (by omega)
                    · skip
                      refine g_iconst rfl ?_
                      refine g_goto rfl ?_
                      refine g_istore (l1 := [(8, aI 1), (24, aI 1), (23, aI 0), (22, aI 0), (20, aJ (((((gx S p i) * w1) - x) * (((gy S p (gAft S p i)) * w1) - y)) - ((((gy S p i) * w1) - y) * (((gx S p (gAft S p i)) * w1) - x)))), (18, aJ (((gy S p (gAft S p i)) * w1) - y)), (16, aJ (((gx S p (gAft S p i)) * w1) - x)), (14, aJ (((gy S p i) * w1) - y)), (12, aJ (((gx S p i) * w1) - x)), (11, aI (((12 * p + (gAft S p i) : Nat) : Int))), (10, aI ((12 * p + i : Int))), (9, aI ((i : Int))), (0, aO (some o)), (1, aI ((p : Int))), (2, aJ x), (4, aJ y), (6, aJ w1)]) rfl rfl ?_
                      refine g_iinc (l1 := [(9, aI ((i : Int) + 1)), (8, aI 1), (24, aI 1), (23, aI 0), (22, aI 0), (20, aJ (((((gx S p i) * w1) - x) * (((gy S p (gAft S p i)) * w1) - y)) - ((((gy S p i) * w1) - y) * (((gx S p (gAft S p i)) * w1) - x)))), (18, aJ (((gy S p (gAft S p i)) * w1) - y)), (16, aJ (((gx S p (gAft S p i)) * w1) - x)), (14, aJ (((gy S p i) * w1) - y)), (12, aJ (((gx S p i) * w1) - x)), (11, aI (((12 * p + (gAft S p i) : Nat) : Int))), (10, aI ((12 * p + i : Int))), (0, aO (some o)), (1, aI ((p : Int))), (2, aJ x), (4, aJ y), (6, aJ w1)]) rfl rfl (by omega) (by omega) rfl ?_
                      refine g_goto rfl ?_
                      refine g_ls [0, 1, 12, 13, 14, 15, 16] rfl rfl ?_
                      exact ih6 (i + 1) _ (by omega) (by exact gWo_no hn hno rfl) (by exact xor_step hl (fun z => by have z := (mw_tog hw1.1 i hno).mpr z; exact ⟨fun q => by omega, fun q => by omega⟩) (fun z => by have z := fun y => z ((mw_tog hw1.1 i hno).mp y); omega)) (by omega)
            · skip
              refine g_lload rfl rfl ?_
              refine g_lconst0 rfl ?_
              refine g_lc_le rfl rfl (fun cq191 => ?_) (fun cq191 => ?_)
              · skip
                refine g_iconst rfl ?_
                refine g_istore (l1 := [(23, aI 0), (22, aI 0), (20, aJ (((((gx S p i) * w1) - x) * (((gy S p (gAft S p i)) * w1) - y)) - ((((gy S p i) * w1) - y) * (((gx S p (gAft S p i)) * w1) - x)))), (18, aJ (((gy S p (gAft S p i)) * w1) - y)), (16, aJ (((gx S p (gAft S p i)) * w1) - x)), (14, aJ (((gy S p i) * w1) - y)), (12, aJ (((gx S p i) * w1) - x)), (11, aI (((12 * p + (gAft S p i) : Nat) : Int))), (10, aI ((12 * p + i : Int))), (9, aI ((i : Int))), (8, aI l), (0, aO (some o)), (1, aI ((p : Int))), (2, aJ x), (4, aJ y), (6, aJ w1)]) rfl rfl ?_
                refine g_lload rfl rfl ?_
                refine g_lconst0 rfl ?_
                refine g_lc_gt rfl rfl (fun cq205 => ?_) (fun cq205 => ?_)
                · skip
                  refine g_iconst rfl ?_
                  refine g_istore (l1 := [(24, aI 0), (23, aI 0), (22, aI 0), (20, aJ (((((gx S p i) * w1) - x) * (((gy S p (gAft S p i)) * w1) - y)) - ((((gy S p i) * w1) - y) * (((gx S p (gAft S p i)) * w1) - x)))), (18, aJ (((gy S p (gAft S p i)) * w1) - y)), (16, aJ (((gx S p (gAft S p i)) * w1) - x)), (14, aJ (((gy S p i) * w1) - y)), (12, aJ (((gx S p i) * w1) - x)), (11, aI (((12 * p + (gAft S p i) : Nat) : Int))), (10, aI ((12 * p + i : Int))), (9, aI ((i : Int))), (8, aI l), (0, aO (some o)), (1, aI ((p : Int))), (2, aJ x), (4, aJ y), (6, aJ w1)]) rfl rfl ?_
                  refine g_iload rfl rfl ?_
                  refine g_iload rfl rfl ?_
                  refine g_if_eq_t rfl (by omega) ?_
                  refine g_iload rfl rfl ?_
                  refine g_if_eq_t rfl (by omega) ?_
                  refine g_iconst rfl ?_
                  refine g_icmp_eq rfl (fun cq254 => ?_) (fun cq254 => ?_)
                  · skip
                    refine g_iconst rfl ?_
                    refine g_istore (l1 := [(8, aI 0), (24, aI 0), (23, aI 0), (22, aI 0), (20, aJ (((((gx S p i) * w1) - x) * (((gy S p (gAft S p i)) * w1) - y)) - ((((gy S p i) * w1) - y) * (((gx S p (gAft S p i)) * w1) - x)))), (18, aJ (((gy S p (gAft S p i)) * w1) - y)), (16, aJ (((gx S p (gAft S p i)) * w1) - x)), (14, aJ (((gy S p i) * w1) - y)), (12, aJ (((gx S p i) * w1) - x)), (11, aI (((12 * p + (gAft S p i) : Nat) : Int))), (10, aI ((12 * p + i : Int))), (9, aI ((i : Int))), (0, aO (some o)), (1, aI ((p : Int))), (2, aJ x), (4, aJ y), (6, aJ w1)]) rfl rfl ?_
                    refine g_iinc (l1 := [(9, aI ((i : Int) + 1)), (8, aI 0), (24, aI 0), (23, aI 0), (22, aI 0), (20, aJ (((((gx S p i) * w1) - x) * (((gy S p (gAft S p i)) * w1) - y)) - ((((gy S p i) * w1) - y) * (((gx S p (gAft S p i)) * w1) - x)))), (18, aJ (((gy S p (gAft S p i)) * w1) - y)), (16, aJ (((gx S p (gAft S p i)) * w1) - x)), (14, aJ (((gy S p i) * w1) - y)), (12, aJ (((gx S p i) * w1) - x)), (11, aI (((12 * p + (gAft S p i) : Nat) : Int))), (10, aI ((12 * p + i : Int))), (0, aO (some o)), (1, aI ((p : Int))), (2, aJ x), (4, aJ y), (6, aJ w1)]) rfl rfl (by omega) (by omega) rfl ?_
                    refine g_goto rfl ?_
                    refine g_ls [0, 1, 12, 13, 14, 15, 16] rfl rfl ?_
                    exact ih6 (i + 1) _ (by omega) (by exact gWo_no hn hno rfl) (by exact xor_step hl (fun z => by have z := (mw_tog hw1.1 i hno).mpr z; exact ⟨fun q => by omega, fun q => by omega⟩) (fun z => by have z := fun y => z ((mw_tog hw1.1 i hno).mp y); omega)) (by omega)
                  · skip
                    refine g_iconst rfl ?_
                    refine g_goto rfl ?_
                    refine g_istore (l1 := [(8, aI 1), (24, aI 0), (23, aI 0), (22, aI 0), (20, aJ (((((gx S p i) * w1) - x) * (((gy S p (gAft S p i)) * w1) - y)) - ((((gy S p i) * w1) - y) * (((gx S p (gAft S p i)) * w1) - x)))), (18, aJ (((gy S p (gAft S p i)) * w1) - y)), (16, aJ (((gx S p (gAft S p i)) * w1) - x)), (14, aJ (((gy S p i) * w1) - y)), (12, aJ (((gx S p i) * w1) - x)), (11, aI (((12 * p + (gAft S p i) : Nat) : Int))), (10, aI ((12 * p + i : Int))), (9, aI ((i : Int))), (0, aO (some o)), (1, aI ((p : Int))), (2, aJ x), (4, aJ y), (6, aJ w1)]) rfl rfl ?_
                    refine g_iinc (l1 := [(9, aI ((i : Int) + 1)), (8, aI 1), (24, aI 0), (23, aI 0), (22, aI 0), (20, aJ (((((gx S p i) * w1) - x) * (((gy S p (gAft S p i)) * w1) - y)) - ((((gy S p i) * w1) - y) * (((gx S p (gAft S p i)) * w1) - x)))), (18, aJ (((gy S p (gAft S p i)) * w1) - y)), (16, aJ (((gx S p (gAft S p i)) * w1) - x)), (14, aJ (((gy S p i) * w1) - y)), (12, aJ (((gx S p i) * w1) - x)), (11, aI (((12 * p + (gAft S p i) : Nat) : Int))), (10, aI ((12 * p + i : Int))), (0, aO (some o)), (1, aI ((p : Int))), (2, aJ x), (4, aJ y), (6, aJ w1)]) rfl rfl (by omega) (by omega) rfl ?_
                    refine g_goto rfl ?_
                    refine g_ls [0, 1, 12, 13, 14, 15, 16] rfl rfl ?_
                    exact ih6 (i + 1) _ (by omega) (by exact gWo_no hn hno rfl) (by exact xor_step hl (fun z => by have z := (mw_tog hw1.1 i hno).mpr z; exact ⟨fun q => by omega, fun q => by omega⟩) (fun z => by have z := fun y => z ((mw_tog hw1.1 i hno).mp y); omega)) (by omega)
                · skip
                  refine g_lload rfl rfl ?_
                  refine g_lconst0 rfl ?_
                  refine g_lc_le rfl rfl (fun cq212 => ?_) (fun cq212 => ?_)
                  · skip
                    refine g_iconst rfl ?_
                    refine g_istore (l1 := [(24, aI 0), (23, aI 0), (22, aI 0), (20, aJ (((((gx S p i) * w1) - x) * (((gy S p (gAft S p i)) * w1) - y)) - ((((gy S p i) * w1) - y) * (((gx S p (gAft S p i)) * w1) - x)))), (18, aJ (((gy S p (gAft S p i)) * w1) - y)), (16, aJ (((gx S p (gAft S p i)) * w1) - x)), (14, aJ (((gy S p i) * w1) - y)), (12, aJ (((gx S p i) * w1) - x)), (11, aI (((12 * p + (gAft S p i) : Nat) : Int))), (10, aI ((12 * p + i : Int))), (9, aI ((i : Int))), (8, aI l), (0, aO (some o)), (1, aI ((p : Int))), (2, aJ x), (4, aJ y), (6, aJ w1)]) rfl rfl ?_
                    refine g_iload rfl rfl ?_
                    refine g_iload rfl rfl ?_
                    refine g_if_eq_t rfl (by omega) ?_
                    refine g_iload rfl rfl ?_
                    refine g_if_eq_t rfl (by omega) ?_
                    refine g_iconst rfl ?_
                    refine g_icmp_eq rfl (fun cq254 => ?_) (fun cq254 => ?_)
                    · skip
                      refine g_iconst rfl ?_
                      refine g_istore (l1 := [(8, aI 0), (24, aI 0), (23, aI 0), (22, aI 0), (20, aJ (((((gx S p i) * w1) - x) * (((gy S p (gAft S p i)) * w1) - y)) - ((((gy S p i) * w1) - y) * (((gx S p (gAft S p i)) * w1) - x)))), (18, aJ (((gy S p (gAft S p i)) * w1) - y)), (16, aJ (((gx S p (gAft S p i)) * w1) - x)), (14, aJ (((gy S p i) * w1) - y)), (12, aJ (((gx S p i) * w1) - x)), (11, aI (((12 * p + (gAft S p i) : Nat) : Int))), (10, aI ((12 * p + i : Int))), (9, aI ((i : Int))), (0, aO (some o)), (1, aI ((p : Int))), (2, aJ x), (4, aJ y), (6, aJ w1)]) rfl rfl ?_
                      refine g_iinc (l1 := [(9, aI ((i : Int) + 1)), (8, aI 0), (24, aI 0), (23, aI 0), (22, aI 0), (20, aJ (((((gx S p i) * w1) - x) * (((gy S p (gAft S p i)) * w1) - y)) - ((((gy S p i) * w1) - y) * (((gx S p (gAft S p i)) * w1) - x)))), (18, aJ (((gy S p (gAft S p i)) * w1) - y)), (16, aJ (((gx S p (gAft S p i)) * w1) - x)), (14, aJ (((gy S p i) * w1) - y)), (12, aJ (((gx S p i) * w1) - x)), (11, aI (((12 * p + (gAft S p i) : Nat) : Int))), (10, aI ((12 * p + i : Int))), (0, aO (some o)), (1, aI ((p : Int))), (2, aJ x), (4, aJ y), (6, aJ w1)]) rfl rfl (by omega) (by omega) rfl ?_
                      refine g_goto rfl ?_
                      refine g_ls [0, 1, 12, 13, 14, 15, 16] rfl rfl ?_
                      exact ih6 (i + 1) _ (by omega) (by exact gWo_no hn hno rfl) (by exact xor_step hl (fun z => by have z := (mw_tog hw1.1 i hno).mpr z; exact ⟨fun q => by omega, fun q => by omega⟩) (fun z => by have z := fun y => z ((mw_tog hw1.1 i hno).mp y); omega)) (by omega)
                    · skip
                      refine g_iconst rfl ?_
                      refine g_goto rfl ?_
                      refine g_istore (l1 := [(8, aI 1), (24, aI 0), (23, aI 0), (22, aI 0), (20, aJ (((((gx S p i) * w1) - x) * (((gy S p (gAft S p i)) * w1) - y)) - ((((gy S p i) * w1) - y) * (((gx S p (gAft S p i)) * w1) - x)))), (18, aJ (((gy S p (gAft S p i)) * w1) - y)), (16, aJ (((gx S p (gAft S p i)) * w1) - x)), (14, aJ (((gy S p i) * w1) - y)), (12, aJ (((gx S p i) * w1) - x)), (11, aI (((12 * p + (gAft S p i) : Nat) : Int))), (10, aI ((12 * p + i : Int))), (9, aI ((i : Int))), (0, aO (some o)), (1, aI ((p : Int))), (2, aJ x), (4, aJ y), (6, aJ w1)]) rfl rfl ?_
                      refine g_iinc (l1 := [(9, aI ((i : Int) + 1)), (8, aI 1), (24, aI 0), (23, aI 0), (22, aI 0), (20, aJ (((((gx S p i) * w1) - x) * (((gy S p (gAft S p i)) * w1) - y)) - ((((gy S p i) * w1) - y) * (((gx S p (gAft S p i)) * w1) - x)))), (18, aJ (((gy S p (gAft S p i)) * w1) - y)), (16, aJ (((gx S p (gAft S p i)) * w1) - x)), (14, aJ (((gy S p i) * w1) - y)), (12, aJ (((gx S p i) * w1) - x)), (11, aI (((12 * p + (gAft S p i) : Nat) : Int))), (10, aI ((12 * p + i : Int))), (0, aO (some o)), (1, aI ((p : Int))), (2, aJ x), (4, aJ y), (6, aJ w1)]) rfl rfl (by omega) (by omega) rfl ?_
                      refine g_goto rfl ?_
                      refine g_ls [0, 1, 12, 13, 14, 15, 16] rfl rfl ?_
                      exact ih6 (i + 1) _ (by omega) (by exact gWo_no hn hno rfl) (by exact xor_step hl (fun z => by have z := (mw_tog hw1.1 i hno).mpr z; exact ⟨fun q => by omega, fun q => by omega⟩) (fun z => by have z := fun y => z ((mw_tog hw1.1 i hno).mp y); omega)) (by omega)
                  · skip
                    refine g_iconst rfl ?_
                    refine g_goto rfl ?_
                    refine g_istore (l1 := [(24, aI 1), (23, aI 0), (22, aI 0), (20, aJ (((((gx S p i) * w1) - x) * (((gy S p (gAft S p i)) * w1) - y)) - ((((gy S p i) * w1) - y) * (((gx S p (gAft S p i)) * w1) - x)))), (18, aJ (((gy S p (gAft S p i)) * w1) - y)), (16, aJ (((gx S p (gAft S p i)) * w1) - x)), (14, aJ (((gy S p i) * w1) - y)), (12, aJ (((gx S p i) * w1) - x)), (11, aI (((12 * p + (gAft S p i) : Nat) : Int))), (10, aI ((12 * p + i : Int))), (9, aI ((i : Int))), (8, aI l), (0, aO (some o)), (1, aI ((p : Int))), (2, aJ x), (4, aJ y), (6, aJ w1)]) rfl rfl ?_
                    refine g_iload rfl rfl ?_
                    refine g_iload rfl rfl ?_
                    refine g_if_eq_t rfl (by omega) ?_
                    refine g_iload rfl rfl ?_
                    refine g_if_eq_f rfl (by omega) ?_
                    refine g_lload rfl rfl ?_
                    refine g_lconst0 rfl ?_
                    refine g_lc_ge rfl rfl (fun cq245 => ?_) (fun cq245 => ?_)
                    · skip
                      refine g_iconst rfl ?_
                      refine g_icmp_eq rfl (fun cq254 => ?_) (fun cq254 => ?_)
                      · skip
                        refine g_iconst rfl ?_
                        refine g_istore (l1 := [(8, aI 0), (24, aI 1), (23, aI 0), (22, aI 0), (20, aJ (((((gx S p i) * w1) - x) * (((gy S p (gAft S p i)) * w1) - y)) - ((((gy S p i) * w1) - y) * (((gx S p (gAft S p i)) * w1) - x)))), (18, aJ (((gy S p (gAft S p i)) * w1) - y)), (16, aJ (((gx S p (gAft S p i)) * w1) - x)), (14, aJ (((gy S p i) * w1) - y)), (12, aJ (((gx S p i) * w1) - x)), (11, aI (((12 * p + (gAft S p i) : Nat) : Int))), (10, aI ((12 * p + i : Int))), (9, aI ((i : Int))), (0, aO (some o)), (1, aI ((p : Int))), (2, aJ x), (4, aJ y), (6, aJ w1)]) rfl rfl ?_
                        refine g_iinc (l1 := [(9, aI ((i : Int) + 1)), (8, aI 0), (24, aI 1), (23, aI 0), (22, aI 0), (20, aJ (((((gx S p i) * w1) - x) * (((gy S p (gAft S p i)) * w1) - y)) - ((((gy S p i) * w1) - y) * (((gx S p (gAft S p i)) * w1) - x)))), (18, aJ (((gy S p (gAft S p i)) * w1) - y)), (16, aJ (((gx S p (gAft S p i)) * w1) - x)), (14, aJ (((gy S p i) * w1) - y)), (12, aJ (((gx S p i) * w1) - x)), (11, aI (((12 * p + (gAft S p i) : Nat) : Int))), (10, aI ((12 * p + i : Int))), (0, aO (some o)), (1, aI ((p : Int))), (2, aJ x), (4, aJ y), (6, aJ w1)]) rfl rfl (by omega) (by omega) rfl ?_
                        refine g_goto rfl ?_
                        refine g_ls [0, 1, 12, 13, 14, 15, 16] rfl rfl ?_
                        exact ih6 (i + 1) _ (by omega) (by exact gWo_no hn hno rfl) (by exact xor_step hl (fun z => by have z := (mw_tog hw1.1 i hno).mpr z; exact ⟨fun q => by omega, fun q => by omega⟩) (fun z => by have z := fun y => z ((mw_tog hw1.1 i hno).mp y); omega)) (by omega)
                      · skip
                        refine g_iconst rfl ?_
                        refine g_goto rfl ?_
                        refine g_istore (l1 := [(8, aI 1), (24, aI 1), (23, aI 0), (22, aI 0), (20, aJ (((((gx S p i) * w1) - x) * (((gy S p (gAft S p i)) * w1) - y)) - ((((gy S p i) * w1) - y) * (((gx S p (gAft S p i)) * w1) - x)))), (18, aJ (((gy S p (gAft S p i)) * w1) - y)), (16, aJ (((gx S p (gAft S p i)) * w1) - x)), (14, aJ (((gy S p i) * w1) - y)), (12, aJ (((gx S p i) * w1) - x)), (11, aI (((12 * p + (gAft S p i) : Nat) : Int))), (10, aI ((12 * p + i : Int))), (9, aI ((i : Int))), (0, aO (some o)), (1, aI ((p : Int))), (2, aJ x), (4, aJ y), (6, aJ w1)]) rfl rfl ?_
                        refine g_iinc (l1 := [(9, aI ((i : Int) + 1)), (8, aI 1), (24, aI 1), (23, aI 0), (22, aI 0), (20, aJ (((((gx S p i) * w1) - x) * (((gy S p (gAft S p i)) * w1) - y)) - ((((gy S p i) * w1) - y) * (((gx S p (gAft S p i)) * w1) - x)))), (18, aJ (((gy S p (gAft S p i)) * w1) - y)), (16, aJ (((gx S p (gAft S p i)) * w1) - x)), (14, aJ (((gy S p i) * w1) - y)), (12, aJ (((gx S p i) * w1) - x)), (11, aI (((12 * p + (gAft S p i) : Nat) : Int))), (10, aI ((12 * p + i : Int))), (0, aO (some o)), (1, aI ((p : Int))), (2, aJ x), (4, aJ y), (6, aJ w1)]) rfl rfl (by omega) (by omega) rfl ?_
                        refine g_goto rfl ?_
                        refine g_ls [0, 1, 12, 13, 14, 15, 16] rfl rfl ?_
                        exact ih6 (i + 1) _ (by omega) (by exact gWo_no hn hno rfl) (by exact xor_step hl (fun z => by have z := (mw_tog hw1.1 i hno).mpr z; exact ⟨fun q => by omega, fun q => by omega⟩) (fun z => by have z := fun y => z ((mw_tog hw1.1 i hno).mp y); omega)) (by omega)
                    · skip
                      refine g_iconst rfl ?_
                      refine g_goto rfl ?_
                      refine g_icmp_eq rfl (fun cq254 => ?_) (fun cq254 => ?_)
                      · skip
                        refine g_iconst rfl ?_
                        refine g_istore (l1 := [(8, aI 0), (24, aI 1), (23, aI 0), (22, aI 0), (20, aJ (((((gx S p i) * w1) - x) * (((gy S p (gAft S p i)) * w1) - y)) - ((((gy S p i) * w1) - y) * (((gx S p (gAft S p i)) * w1) - x)))), (18, aJ (((gy S p (gAft S p i)) * w1) - y)), (16, aJ (((gx S p (gAft S p i)) * w1) - x)), (14, aJ (((gy S p i) * w1) - y)), (12, aJ (((gx S p i) * w1) - x)), (11, aI (((12 * p + (gAft S p i) : Nat) : Int))), (10, aI ((12 * p + i : Int))), (9, aI ((i : Int))), (0, aO (some o)), (1, aI ((p : Int))), (2, aJ x), (4, aJ y), (6, aJ w1)]) rfl rfl ?_
                        refine g_iinc (l1 := [(9, aI ((i : Int) + 1)), (8, aI 0), (24, aI 1), (23, aI 0), (22, aI 0), (20, aJ (((((gx S p i) * w1) - x) * (((gy S p (gAft S p i)) * w1) - y)) - ((((gy S p i) * w1) - y) * (((gx S p (gAft S p i)) * w1) - x)))), (18, aJ (((gy S p (gAft S p i)) * w1) - y)), (16, aJ (((gx S p (gAft S p i)) * w1) - x)), (14, aJ (((gy S p i) * w1) - y)), (12, aJ (((gx S p i) * w1) - x)), (11, aI (((12 * p + (gAft S p i) : Nat) : Int))), (10, aI ((12 * p + i : Int))), (0, aO (some o)), (1, aI ((p : Int))), (2, aJ x), (4, aJ y), (6, aJ w1)]) rfl rfl (by omega) (by omega) rfl ?_
                        refine g_goto rfl ?_
                        refine g_ls [0, 1, 12, 13, 14, 15, 16] rfl rfl ?_
                        exact ih6 (i + 1) _ (by omega) (by exact gWo_no hn hno rfl) (by exact xor_step hl (fun z => by have z := (mw_tog hw1.1 i hno).mpr z; exact ⟨fun q => by omega, fun q => by omega⟩) (fun z => by have z := fun y => z ((mw_tog hw1.1 i hno).mp y); omega)) (by omega)
                      · skip
                        refine g_iconst rfl ?_
                        refine g_goto rfl ?_
                        refine g_istore (l1 := [(8, aI 1), (24, aI 1), (23, aI 0), (22, aI 0), (20, aJ (((((gx S p i) * w1) - x) * (((gy S p (gAft S p i)) * w1) - y)) - ((((gy S p i) * w1) - y) * (((gx S p (gAft S p i)) * w1) - x)))), (18, aJ (((gy S p (gAft S p i)) * w1) - y)), (16, aJ (((gx S p (gAft S p i)) * w1) - x)), (14, aJ (((gy S p i) * w1) - y)), (12, aJ (((gx S p i) * w1) - x)), (11, aI (((12 * p + (gAft S p i) : Nat) : Int))), (10, aI ((12 * p + i : Int))), (9, aI ((i : Int))), (0, aO (some o)), (1, aI ((p : Int))), (2, aJ x), (4, aJ y), (6, aJ w1)]) rfl rfl ?_
                        refine g_iinc (l1 := [(9, aI ((i : Int) + 1)), (8, aI 1), (24, aI 1), (23, aI 0), (22, aI 0), (20, aJ (((((gx S p i) * w1) - x) * (((gy S p (gAft S p i)) * w1) - y)) - ((((gy S p i) * w1) - y) * (((gx S p (gAft S p i)) * w1) - x)))), (18, aJ (((gy S p (gAft S p i)) * w1) - y)), (16, aJ (((gx S p (gAft S p i)) * w1) - x)), (14, aJ (((gy S p i) * w1) - y)), (12, aJ (((gx S p i) * w1) - x)), (11, aI (((12 * p + (gAft S p i) : Nat) : Int))), (10, aI ((12 * p + i : Int))), (0, aO (some o)), (1, aI ((p : Int))), (2, aJ x), (4, aJ y), (6, aJ w1)]) rfl rfl (by omega) (by omega) rfl ?_
                        refine g_goto rfl ?_
                        refine g_ls [0, 1, 12, 13, 14, 15, 16] rfl rfl ?_
                        exact ih6 (i + 1) _ (by omega) (by exact gWo_no hn hno rfl) (by exact xor_step hl (fun z => by have z := (mw_tog hw1.1 i hno).mpr z; exact ⟨fun q => by omega, fun q => by omega⟩) (fun z => by have z := fun y => z ((mw_tog hw1.1 i hno).mp y); omega)) (by omega)
              · skip
                refine g_iconst rfl ?_
                refine g_goto rfl ?_
                refine g_istore (l1 := [(23, aI 1), (22, aI 0), (20, aJ (((((gx S p i) * w1) - x) * (((gy S p (gAft S p i)) * w1) - y)) - ((((gy S p i) * w1) - y) * (((gx S p (gAft S p i)) * w1) - x)))), (18, aJ (((gy S p (gAft S p i)) * w1) - y)), (16, aJ (((gx S p (gAft S p i)) * w1) - x)), (14, aJ (((gy S p i) * w1) - y)), (12, aJ (((gx S p i) * w1) - x)), (11, aI (((12 * p + (gAft S p i) : Nat) : Int))), (10, aI ((12 * p + i : Int))), (9, aI ((i : Int))), (8, aI l), (0, aO (some o)), (1, aI ((p : Int))), (2, aJ x), (4, aJ y), (6, aJ w1)]) rfl rfl ?_
                refine g_lload rfl rfl ?_
                refine g_lconst0 rfl ?_
                refine g_lc_gt rfl rfl (fun cq205 => ?_) (fun cq205 => ?_)
                · skip
                  refine g_iconst rfl ?_
                  refine g_istore (l1 := [(24, aI 0), (23, aI 1), (22, aI 0), (20, aJ (((((gx S p i) * w1) - x) * (((gy S p (gAft S p i)) * w1) - y)) - ((((gy S p i) * w1) - y) * (((gx S p (gAft S p i)) * w1) - x)))), (18, aJ (((gy S p (gAft S p i)) * w1) - y)), (16, aJ (((gx S p (gAft S p i)) * w1) - x)), (14, aJ (((gy S p i) * w1) - y)), (12, aJ (((gx S p i) * w1) - x)), (11, aI (((12 * p + (gAft S p i) : Nat) : Int))), (10, aI ((12 * p + i : Int))), (9, aI ((i : Int))), (8, aI l), (0, aO (some o)), (1, aI ((p : Int))), (2, aJ x), (4, aJ y), (6, aJ w1)]) rfl rfl ?_
                  refine g_iload rfl rfl ?_
                  refine g_iload rfl rfl ?_
                  refine g_if_eq_f rfl (by omega) ?_
                  refine g_lload rfl rfl ?_
                  refine g_lconst0 rfl ?_
                  refine g_lc_gt rfl rfl (fun cq233 => ?_) (fun cq233 => ?_)
                  · skip
                    refine g_iconst rfl ?_
                    refine g_goto rfl ?_
                    refine g_icmp_eq rfl (fun cq254 => ?_) (fun cq254 => ?_)
                    · skip
                      refine g_iconst rfl ?_
                      refine g_istore (l1 := [(8, aI 0), (24, aI 0), (23, aI 1), (22, aI 0), (20, aJ (((((gx S p i) * w1) - x) * (((gy S p (gAft S p i)) * w1) - y)) - ((((gy S p i) * w1) - y) * (((gx S p (gAft S p i)) * w1) - x)))), (18, aJ (((gy S p (gAft S p i)) * w1) - y)), (16, aJ (((gx S p (gAft S p i)) * w1) - x)), (14, aJ (((gy S p i) * w1) - y)), (12, aJ (((gx S p i) * w1) - x)), (11, aI (((12 * p + (gAft S p i) : Nat) : Int))), (10, aI ((12 * p + i : Int))), (9, aI ((i : Int))), (0, aO (some o)), (1, aI ((p : Int))), (2, aJ x), (4, aJ y), (6, aJ w1)]) rfl rfl ?_
                      refine g_iinc (l1 := [(9, aI ((i : Int) + 1)), (8, aI 0), (24, aI 0), (23, aI 1), (22, aI 0), (20, aJ (((((gx S p i) * w1) - x) * (((gy S p (gAft S p i)) * w1) - y)) - ((((gy S p i) * w1) - y) * (((gx S p (gAft S p i)) * w1) - x)))), (18, aJ (((gy S p (gAft S p i)) * w1) - y)), (16, aJ (((gx S p (gAft S p i)) * w1) - x)), (14, aJ (((gy S p i) * w1) - y)), (12, aJ (((gx S p i) * w1) - x)), (11, aI (((12 * p + (gAft S p i) : Nat) : Int))), (10, aI ((12 * p + i : Int))), (0, aO (some o)), (1, aI ((p : Int))), (2, aJ x), (4, aJ y), (6, aJ w1)]) rfl rfl (by omega) (by omega) rfl ?_
                      refine g_goto rfl ?_
                      refine g_ls [0, 1, 12, 13, 14, 15, 16] rfl rfl ?_
                      exact ih6 (i + 1) _ (by omega) (by exact gWo_no hn hno rfl) (by exact xor_step hl (fun z => by have z := (mw_tog hw1.1 i hno).mpr z; exact ⟨fun q => by omega, fun q => by omega⟩) (fun z => by have z := fun y => z ((mw_tog hw1.1 i hno).mp y); omega)) (by omega)
                    · skip
                      refine g_iconst rfl ?_
                      refine g_goto rfl ?_
                      refine g_istore (l1 := [(8, aI 1), (24, aI 0), (23, aI 1), (22, aI 0), (20, aJ (((((gx S p i) * w1) - x) * (((gy S p (gAft S p i)) * w1) - y)) - ((((gy S p i) * w1) - y) * (((gx S p (gAft S p i)) * w1) - x)))), (18, aJ (((gy S p (gAft S p i)) * w1) - y)), (16, aJ (((gx S p (gAft S p i)) * w1) - x)), (14, aJ (((gy S p i) * w1) - y)), (12, aJ (((gx S p i) * w1) - x)), (11, aI (((12 * p + (gAft S p i) : Nat) : Int))), (10, aI ((12 * p + i : Int))), (9, aI ((i : Int))), (0, aO (some o)), (1, aI ((p : Int))), (2, aJ x), (4, aJ y), (6, aJ w1)]) rfl rfl ?_
                      refine g_iinc (l1 := [(9, aI ((i : Int) + 1)), (8, aI 1), (24, aI 0), (23, aI 1), (22, aI 0), (20, aJ (((((gx S p i) * w1) - x) * (((gy S p (gAft S p i)) * w1) - y)) - ((((gy S p i) * w1) - y) * (((gx S p (gAft S p i)) * w1) - x)))), (18, aJ (((gy S p (gAft S p i)) * w1) - y)), (16, aJ (((gx S p (gAft S p i)) * w1) - x)), (14, aJ (((gy S p i) * w1) - y)), (12, aJ (((gx S p i) * w1) - x)), (11, aI (((12 * p + (gAft S p i) : Nat) : Int))), (10, aI ((12 * p + i : Int))), (0, aO (some o)), (1, aI ((p : Int))), (2, aJ x), (4, aJ y), (6, aJ w1)]) rfl rfl (by omega) (by omega) rfl ?_
                      refine g_goto rfl ?_
                      refine g_ls [0, 1, 12, 13, 14, 15, 16] rfl rfl ?_
                      exact ih6 (i + 1) _ (by omega) (by exact gWo_no hn hno rfl) (by exact xor_step hl (fun z => by have z := (mw_tog hw1.1 i hno).mpr z; exact ⟨fun q => by omega, fun q => by omega⟩) (fun z => by have z := fun y => z ((mw_tog hw1.1 i hno).mp y); omega)) (by omega)
                  · skip
                    refine g_iload rfl rfl ?_
                    refine g_if_eq_t rfl (by omega) ?_
                    refine g_iconst rfl ?_
                    refine g_icmp_eq rfl (fun cq254 => ?_) (fun cq254 => ?_)
                    · skip
                      refine g_iconst rfl ?_
                      refine g_istore (l1 := [(8, aI 0), (24, aI 0), (23, aI 1), (22, aI 0), (20, aJ (((((gx S p i) * w1) - x) * (((gy S p (gAft S p i)) * w1) - y)) - ((((gy S p i) * w1) - y) * (((gx S p (gAft S p i)) * w1) - x)))), (18, aJ (((gy S p (gAft S p i)) * w1) - y)), (16, aJ (((gx S p (gAft S p i)) * w1) - x)), (14, aJ (((gy S p i) * w1) - y)), (12, aJ (((gx S p i) * w1) - x)), (11, aI (((12 * p + (gAft S p i) : Nat) : Int))), (10, aI ((12 * p + i : Int))), (9, aI ((i : Int))), (0, aO (some o)), (1, aI ((p : Int))), (2, aJ x), (4, aJ y), (6, aJ w1)]) rfl rfl ?_
                      refine g_iinc (l1 := [(9, aI ((i : Int) + 1)), (8, aI 0), (24, aI 0), (23, aI 1), (22, aI 0), (20, aJ (((((gx S p i) * w1) - x) * (((gy S p (gAft S p i)) * w1) - y)) - ((((gy S p i) * w1) - y) * (((gx S p (gAft S p i)) * w1) - x)))), (18, aJ (((gy S p (gAft S p i)) * w1) - y)), (16, aJ (((gx S p (gAft S p i)) * w1) - x)), (14, aJ (((gy S p i) * w1) - y)), (12, aJ (((gx S p i) * w1) - x)), (11, aI (((12 * p + (gAft S p i) : Nat) : Int))), (10, aI ((12 * p + i : Int))), (0, aO (some o)), (1, aI ((p : Int))), (2, aJ x), (4, aJ y), (6, aJ w1)]) rfl rfl (by omega) (by omega) rfl ?_
                      refine g_goto rfl ?_
                      refine g_ls [0, 1, 12, 13, 14, 15, 16] rfl rfl ?_
                      exact ih6 (i + 1) _ (by omega) (by exact gWo_no hn hno rfl) (by exact xor_step hl (fun z => by have z := (mw_tog hw1.1 i hno).mpr z; exact ⟨fun q => by omega, fun q => by omega⟩) (fun z => by have z := fun y => z ((mw_tog hw1.1 i hno).mp y); omega)) (by omega)
                    · skip
                      refine g_iconst rfl ?_
                      refine g_goto rfl ?_
                      refine g_istore (l1 := [(8, aI 1), (24, aI 0), (23, aI 1), (22, aI 0), (20, aJ (((((gx S p i) * w1) - x) * (((gy S p (gAft S p i)) * w1) - y)) - ((((gy S p i) * w1) - y) * (((gx S p (gAft S p i)) * w1) - x)))), (18, aJ (((gy S p (gAft S p i)) * w1) - y)), (16, aJ (((gx S p (gAft S p i)) * w1) - x)), (14, aJ (((gy S p i) * w1) - y)), (12, aJ (((gx S p i) * w1) - x)), (11, aI (((12 * p + (gAft S p i) : Nat) : Int))), (10, aI ((12 * p + i : Int))), (9, aI ((i : Int))), (0, aO (some o)), (1, aI ((p : Int))), (2, aJ x), (4, aJ y), (6, aJ w1)]) rfl rfl ?_
                      refine g_iinc (l1 := [(9, aI ((i : Int) + 1)), (8, aI 1), (24, aI 0), (23, aI 1), (22, aI 0), (20, aJ (((((gx S p i) * w1) - x) * (((gy S p (gAft S p i)) * w1) - y)) - ((((gy S p i) * w1) - y) * (((gx S p (gAft S p i)) * w1) - x)))), (18, aJ (((gy S p (gAft S p i)) * w1) - y)), (16, aJ (((gx S p (gAft S p i)) * w1) - x)), (14, aJ (((gy S p i) * w1) - y)), (12, aJ (((gx S p i) * w1) - x)), (11, aI (((12 * p + (gAft S p i) : Nat) : Int))), (10, aI ((12 * p + i : Int))), (0, aO (some o)), (1, aI ((p : Int))), (2, aJ x), (4, aJ y), (6, aJ w1)]) rfl rfl (by omega) (by omega) rfl ?_
                      refine g_goto rfl ?_
                      refine g_ls [0, 1, 12, 13, 14, 15, 16] rfl rfl ?_
                      exact ih6 (i + 1) _ (by omega) (by exact gWo_no hn hno rfl) (by exact xor_step hl (fun z => by have z := (mw_tog hw1.1 i hno).mpr z; exact ⟨fun q => by omega, fun q => by omega⟩) (fun z => by have z := fun y => z ((mw_tog hw1.1 i hno).mp y); omega)) (by omega)
                · skip
                  refine g_lload rfl rfl ?_
                  refine g_lconst0 rfl ?_
                  refine g_lc_le rfl rfl (fun cq212 => ?_) (fun cq212 => ?_)
                  · skip
                    refine g_iconst rfl ?_
                    refine g_istore (l1 := [(24, aI 0), (23, aI 1), (22, aI 0), (20, aJ (((((gx S p i) * w1) - x) * (((gy S p (gAft S p i)) * w1) - y)) - ((((gy S p i) * w1) - y) * (((gx S p (gAft S p i)) * w1) - x)))), (18, aJ (((gy S p (gAft S p i)) * w1) - y)), (16, aJ (((gx S p (gAft S p i)) * w1) - x)), (14, aJ (((gy S p i) * w1) - y)), (12, aJ (((gx S p i) * w1) - x)), (11, aI (((12 * p + (gAft S p i) : Nat) : Int))), (10, aI ((12 * p + i : Int))), (9, aI ((i : Int))), (8, aI l), (0, aO (some o)), (1, aI ((p : Int))), (2, aJ x), (4, aJ y), (6, aJ w1)]) rfl rfl ?_
                    refine g_iload rfl rfl ?_
                    refine g_iload rfl rfl ?_
                    refine g_if_eq_f rfl (by omega) ?_
                    refine g_lload rfl rfl ?_
                    refine g_lconst0 rfl ?_
                    refine g_lc_gt rfl rfl (fun cq233 => ?_) (fun cq233 => ?_)
                    · skip
                      refine g_iconst rfl ?_
                      refine g_goto rfl ?_
                      refine g_icmp_eq rfl (fun cq254 => ?_) (fun cq254 => ?_)
                      · skip
                        refine g_iconst rfl ?_
                        refine g_istore (l1 := [(8, aI 0), (24, aI 0), (23, aI 1), (22, aI 0), (20, aJ (((((gx S p i) * w1) - x) * (((gy S p (gAft S p i)) * w1) - y)) - ((((gy S p i) * w1) - y) * (((gx S p (gAft S p i)) * w1) - x)))), (18, aJ (((gy S p (gAft S p i)) * w1) - y)), (16, aJ (((gx S p (gAft S p i)) * w1) - x)), (14, aJ (((gy S p i) * w1) - y)), (12, aJ (((gx S p i) * w1) - x)), (11, aI (((12 * p + (gAft S p i) : Nat) : Int))), (10, aI ((12 * p + i : Int))), (9, aI ((i : Int))), (0, aO (some o)), (1, aI ((p : Int))), (2, aJ x), (4, aJ y), (6, aJ w1)]) rfl rfl ?_
                        refine g_iinc (l1 := [(9, aI ((i : Int) + 1)), (8, aI 0), (24, aI 0), (23, aI 1), (22, aI 0), (20, aJ (((((gx S p i) * w1) - x) * (((gy S p (gAft S p i)) * w1) - y)) - ((((gy S p i) * w1) - y) * (((gx S p (gAft S p i)) * w1) - x)))), (18, aJ (((gy S p (gAft S p i)) * w1) - y)), (16, aJ (((gx S p (gAft S p i)) * w1) - x)), (14, aJ (((gy S p i) * w1) - y)), (12, aJ (((gx S p i) * w1) - x)), (11, aI (((12 * p + (gAft S p i) : Nat) : Int))), (10, aI ((12 * p + i : Int))), (0, aO (some o)), (1, aI ((p : Int))), (2, aJ x), (4, aJ y), (6, aJ w1)]) rfl rfl (by omega) (by omega) rfl ?_
                        refine g_goto rfl ?_
                        refine g_ls [0, 1, 12, 13, 14, 15, 16] rfl rfl ?_
                        exact ih6 (i + 1) _ (by omega) (by exact gWo_no hn hno rfl) (by exact xor_step hl (fun z => by have z := (mw_tog hw1.1 i hno).mpr z; exact ⟨fun q => by omega, fun q => by omega⟩) (fun z => by have z := fun y => z ((mw_tog hw1.1 i hno).mp y); omega)) (by omega)
                      · skip
                        refine g_iconst rfl ?_
                        refine g_goto rfl ?_
                        refine g_istore (l1 := [(8, aI 1), (24, aI 0), (23, aI 1), (22, aI 0), (20, aJ (((((gx S p i) * w1) - x) * (((gy S p (gAft S p i)) * w1) - y)) - ((((gy S p i) * w1) - y) * (((gx S p (gAft S p i)) * w1) - x)))), (18, aJ (((gy S p (gAft S p i)) * w1) - y)), (16, aJ (((gx S p (gAft S p i)) * w1) - x)), (14, aJ (((gy S p i) * w1) - y)), (12, aJ (((gx S p i) * w1) - x)), (11, aI (((12 * p + (gAft S p i) : Nat) : Int))), (10, aI ((12 * p + i : Int))), (9, aI ((i : Int))), (0, aO (some o)), (1, aI ((p : Int))), (2, aJ x), (4, aJ y), (6, aJ w1)]) rfl rfl ?_
                        refine g_iinc (l1 := [(9, aI ((i : Int) + 1)), (8, aI 1), (24, aI 0), (23, aI 1), (22, aI 0), (20, aJ (((((gx S p i) * w1) - x) * (((gy S p (gAft S p i)) * w1) - y)) - ((((gy S p i) * w1) - y) * (((gx S p (gAft S p i)) * w1) - x)))), (18, aJ (((gy S p (gAft S p i)) * w1) - y)), (16, aJ (((gx S p (gAft S p i)) * w1) - x)), (14, aJ (((gy S p i) * w1) - y)), (12, aJ (((gx S p i) * w1) - x)), (11, aI (((12 * p + (gAft S p i) : Nat) : Int))), (10, aI ((12 * p + i : Int))), (0, aO (some o)), (1, aI ((p : Int))), (2, aJ x), (4, aJ y), (6, aJ w1)]) rfl rfl (by omega) (by omega) rfl ?_
                        refine g_goto rfl ?_
                        refine g_ls [0, 1, 12, 13, 14, 15, 16] rfl rfl ?_
                        exact ih6 (i + 1) _ (by omega) (by exact gWo_no hn hno rfl) (by exact xor_step hl (fun z => by have z := (mw_tog hw1.1 i hno).mpr z; exact ⟨fun q => by omega, fun q => by omega⟩) (fun z => by have z := fun y => z ((mw_tog hw1.1 i hno).mp y); omega)) (by omega)
                    · skip
                      refine g_iload rfl rfl ?_
                      refine g_if_eq_t rfl (by omega) ?_
                      refine g_iconst rfl ?_
                      refine g_icmp_eq rfl (fun cq254 => ?_) (fun cq254 => ?_)
                      · skip
                        refine g_iconst rfl ?_
                        refine g_istore (l1 := [(8, aI 0), (24, aI 0), (23, aI 1), (22, aI 0), (20, aJ (((((gx S p i) * w1) - x) * (((gy S p (gAft S p i)) * w1) - y)) - ((((gy S p i) * w1) - y) * (((gx S p (gAft S p i)) * w1) - x)))), (18, aJ (((gy S p (gAft S p i)) * w1) - y)), (16, aJ (((gx S p (gAft S p i)) * w1) - x)), (14, aJ (((gy S p i) * w1) - y)), (12, aJ (((gx S p i) * w1) - x)), (11, aI (((12 * p + (gAft S p i) : Nat) : Int))), (10, aI ((12 * p + i : Int))), (9, aI ((i : Int))), (0, aO (some o)), (1, aI ((p : Int))), (2, aJ x), (4, aJ y), (6, aJ w1)]) rfl rfl ?_
                        refine g_iinc (l1 := [(9, aI ((i : Int) + 1)), (8, aI 0), (24, aI 0), (23, aI 1), (22, aI 0), (20, aJ (((((gx S p i) * w1) - x) * (((gy S p (gAft S p i)) * w1) - y)) - ((((gy S p i) * w1) - y) * (((gx S p (gAft S p i)) * w1) - x)))), (18, aJ (((gy S p (gAft S p i)) * w1) - y)), (16, aJ (((gx S p (gAft S p i)) * w1) - x)), (14, aJ (((gy S p i) * w1) - y)), (12, aJ (((gx S p i) * w1) - x)), (11, aI (((12 * p + (gAft S p i) : Nat) : Int))), (10, aI ((12 * p + i : Int))), (0, aO (some o)), (1, aI ((p : Int))), (2, aJ x), (4, aJ y), (6, aJ w1)]) rfl rfl (by omega) (by omega) rfl ?_
                        refine g_goto rfl ?_
                        refine g_ls [0, 1, 12, 13, 14, 15, 16] rfl rfl ?_
                        exact ih6 (i + 1) _ (by omega) (by exact gWo_no hn hno rfl) (by exact xor_step hl (fun z => by have z := (mw_tog hw1.1 i hno).mpr z; exact ⟨fun q => by omega, fun q => by omega⟩) (fun z => by have z := fun y => z ((mw_tog hw1.1 i hno).mp y); omega)) (by omega)
                      · skip
                        refine g_iconst rfl ?_
                        refine g_goto rfl ?_
                        refine g_istore (l1 := [(8, aI 1), (24, aI 0), (23, aI 1), (22, aI 0), (20, aJ (((((gx S p i) * w1) - x) * (((gy S p (gAft S p i)) * w1) - y)) - ((((gy S p i) * w1) - y) * (((gx S p (gAft S p i)) * w1) - x)))), (18, aJ (((gy S p (gAft S p i)) * w1) - y)), (16, aJ (((gx S p (gAft S p i)) * w1) - x)), (14, aJ (((gy S p i) * w1) - y)), (12, aJ (((gx S p i) * w1) - x)), (11, aI (((12 * p + (gAft S p i) : Nat) : Int))), (10, aI ((12 * p + i : Int))), (9, aI ((i : Int))), (0, aO (some o)), (1, aI ((p : Int))), (2, aJ x), (4, aJ y), (6, aJ w1)]) rfl rfl ?_
                        refine g_iinc (l1 := [(9, aI ((i : Int) + 1)), (8, aI 1), (24, aI 0), (23, aI 1), (22, aI 0), (20, aJ (((((gx S p i) * w1) - x) * (((gy S p (gAft S p i)) * w1) - y)) - ((((gy S p i) * w1) - y) * (((gx S p (gAft S p i)) * w1) - x)))), (18, aJ (((gy S p (gAft S p i)) * w1) - y)), (16, aJ (((gx S p (gAft S p i)) * w1) - x)), (14, aJ (((gy S p i) * w1) - y)), (12, aJ (((gx S p i) * w1) - x)), (11, aI (((12 * p + (gAft S p i) : Nat) : Int))), (10, aI ((12 * p + i : Int))), (0, aO (some o)), (1, aI ((p : Int))), (2, aJ x), (4, aJ y), (6, aJ w1)]) rfl rfl (by omega) (by omega) rfl ?_
                        refine g_goto rfl ?_
                        refine g_ls [0, 1, 12, 13, 14, 15, 16] rfl rfl ?_
                        exact ih6 (i + 1) _ (by omega) (by exact gWo_no hn hno rfl) (by exact xor_step hl (fun z => by have z := (mw_tog hw1.1 i hno).mpr z; exact ⟨fun q => by omega, fun q => by omega⟩) (fun z => by have z := fun y => z ((mw_tog hw1.1 i hno).mp y); omega)) (by omega)
                  · skip
                    refine g_iconst rfl ?_
                    refine g_goto rfl ?_
                    refine g_istore (l1 := [(24, aI 1), (23, aI 1), (22, aI 0), (20, aJ (((((gx S p i) * w1) - x) * (((gy S p (gAft S p i)) * w1) - y)) - ((((gy S p i) * w1) - y) * (((gx S p (gAft S p i)) * w1) - x)))), (18, aJ (((gy S p (gAft S p i)) * w1) - y)), (16, aJ (((gx S p (gAft S p i)) * w1) - x)), (14, aJ (((gy S p i) * w1) - y)), (12, aJ (((gx S p i) * w1) - x)), (11, aI (((12 * p + (gAft S p i) : Nat) : Int))), (10, aI ((12 * p + i : Int))), (9, aI ((i : Int))), (8, aI l), (0, aO (some o)), (1, aI ((p : Int))), (2, aJ x), (4, aJ y), (6, aJ w1)]) rfl rfl ?_
                    refine g_iload rfl rfl ?_
                    refine g_iload rfl rfl ?_
                    refine g_if_eq_f rfl (by omega) ?_
                    refine g_lload rfl rfl ?_
                    refine g_lconst0 rfl ?_
                    refine g_lc_gt rfl rfl (fun cq233 => ?_) (fun cq233 => ?_)
                    · skip
                      refine g_iconst rfl ?_
                      refine g_goto rfl ?_
                      refine g_icmp_eq rfl (fun cq254 => ?_) (fun cq254 => ?_)
                      · skip
                        refine g_iconst rfl ?_
                        refine g_istore (l1 := [(8, aI 0), (24, aI 1), (23, aI 1), (22, aI 0), (20, aJ (((((gx S p i) * w1) - x) * (((gy S p (gAft S p i)) * w1) - y)) - ((((gy S p i) * w1) - y) * (((gx S p (gAft S p i)) * w1) - x)))), (18, aJ (((gy S p (gAft S p i)) * w1) - y)), (16, aJ (((gx S p (gAft S p i)) * w1) - x)), (14, aJ (((gy S p i) * w1) - y)), (12, aJ (((gx S p i) * w1) - x)), (11, aI (((12 * p + (gAft S p i) : Nat) : Int))), (10, aI ((12 * p + i : Int))), (9, aI ((i : Int))), (0, aO (some o)), (1, aI ((p : Int))), (2, aJ x), (4, aJ y), (6, aJ w1)]) rfl rfl ?_
                        refine g_iinc (l1 := [(9, aI ((i : Int) + 1)), (8, aI 0), (24, aI 1), (23, aI 1), (22, aI 0), (20, aJ (((((gx S p i) * w1) - x) * (((gy S p (gAft S p i)) * w1) - y)) - ((((gy S p i) * w1) - y) * (((gx S p (gAft S p i)) * w1) - x)))), (18, aJ (((gy S p (gAft S p i)) * w1) - y)), (16, aJ (((gx S p (gAft S p i)) * w1) - x)), (14, aJ (((gy S p i) * w1) - y)), (12, aJ (((gx S p i) * w1) - x)), (11, aI (((12 * p + (gAft S p i) : Nat) : Int))), (10, aI ((12 * p + i : Int))), (0, aO (some o)), (1, aI ((p : Int))), (2, aJ x), (4, aJ y), (6, aJ w1)]) rfl rfl (by omega) (by omega) rfl ?_
                        refine g_goto rfl ?_
                        refine g_ls [0, 1, 12, 13, 14, 15, 16] rfl rfl ?_
                        exact ih6 (i + 1) _ (by omega) (by exact gWo_no hn hno rfl) (by exact xor_step hl (fun z => by have z := (mw_tog hw1.1 i hno).mpr z; exact ⟨fun q => by omega, fun q => by omega⟩) (fun z => by have z := fun y => z ((mw_tog hw1.1 i hno).mp y); omega)) (by omega)
                      · skip
                        refine g_iconst rfl ?_
                        refine g_goto rfl ?_
                        refine g_istore (l1 := [(8, aI 1), (24, aI 1), (23, aI 1), (22, aI 0), (20, aJ (((((gx S p i) * w1) - x) * (((gy S p (gAft S p i)) * w1) - y)) - ((((gy S p i) * w1) - y) * (((gx S p (gAft S p i)) * w1) - x)))), (18, aJ (((gy S p (gAft S p i)) * w1) - y)), (16, aJ (((gx S p (gAft S p i)) * w1) - x)), (14, aJ (((gy S p i) * w1) - y)), (12, aJ (((gx S p i) * w1) - x)), (11, aI (((12 * p + (gAft S p i) : Nat) : Int))), (10, aI ((12 * p + i : Int))), (9, aI ((i : Int))), (0, aO (some o)), (1, aI ((p : Int))), (2, aJ x), (4, aJ y), (6, aJ w1)]) rfl rfl ?_
                        refine g_iinc (l1 := [(9, aI ((i : Int) + 1)), (8, aI 1), (24, aI 1), (23, aI 1), (22, aI 0), (20, aJ (((((gx S p i) * w1) - x) * (((gy S p (gAft S p i)) * w1) - y)) - ((((gy S p i) * w1) - y) * (((gx S p (gAft S p i)) * w1) - x)))), (18, aJ (((gy S p (gAft S p i)) * w1) - y)), (16, aJ (((gx S p (gAft S p i)) * w1) - x)), (14, aJ (((gy S p i) * w1) - y)), (12, aJ (((gx S p i) * w1) - x)), (11, aI (((12 * p + (gAft S p i) : Nat) : Int))), (10, aI ((12 * p + i : Int))), (0, aO (some o)), (1, aI ((p : Int))), (2, aJ x), (4, aJ y), (6, aJ w1)]) rfl rfl (by omega) (by omega) rfl ?_
                        refine g_goto rfl ?_
                        refine g_ls [0, 1, 12, 13, 14, 15, 16] rfl rfl ?_
                        exact ih6 (i + 1) _ (by omega) (by exact gWo_no hn hno rfl) (by exact xor_step hl (fun z => by have z := (mw_tog hw1.1 i hno).mpr z; exact ⟨fun q => by omega, fun q => by omega⟩) (fun z => by have z := fun y => z ((mw_tog hw1.1 i hno).mp y); omega)) (by omega)
                    · skip
                      refine g_iload rfl rfl ?_
                      refine g_if_eq_f rfl (by omega) ?_
                      refine g_lload rfl rfl ?_
                      refine g_lconst0 rfl ?_
                      refine g_lc_ge rfl rfl (fun cq245 => ?_) (fun cq245 => ?_)
                      · skip
                        refine g_iconst rfl ?_
                        refine g_icmp_eq rfl (fun cq254 => ?_) (fun cq254 => ?_)
                        · skip
                          refine g_iconst rfl ?_
                          refine g_istore (l1 := [(8, aI 0), (24, aI 1), (23, aI 1), (22, aI 0), (20, aJ (((((gx S p i) * w1) - x) * (((gy S p (gAft S p i)) * w1) - y)) - ((((gy S p i) * w1) - y) * (((gx S p (gAft S p i)) * w1) - x)))), (18, aJ (((gy S p (gAft S p i)) * w1) - y)), (16, aJ (((gx S p (gAft S p i)) * w1) - x)), (14, aJ (((gy S p i) * w1) - y)), (12, aJ (((gx S p i) * w1) - x)), (11, aI (((12 * p + (gAft S p i) : Nat) : Int))), (10, aI ((12 * p + i : Int))), (9, aI ((i : Int))), (0, aO (some o)), (1, aI ((p : Int))), (2, aJ x), (4, aJ y), (6, aJ w1)]) rfl rfl ?_
                          refine g_iinc (l1 := [(9, aI ((i : Int) + 1)), (8, aI 0), (24, aI 1), (23, aI 1), (22, aI 0), (20, aJ (((((gx S p i) * w1) - x) * (((gy S p (gAft S p i)) * w1) - y)) - ((((gy S p i) * w1) - y) * (((gx S p (gAft S p i)) * w1) - x)))), (18, aJ (((gy S p (gAft S p i)) * w1) - y)), (16, aJ (((gx S p (gAft S p i)) * w1) - x)), (14, aJ (((gy S p i) * w1) - y)), (12, aJ (((gx S p i) * w1) - x)), (11, aI (((12 * p + (gAft S p i) : Nat) : Int))), (10, aI ((12 * p + i : Int))), (0, aO (some o)), (1, aI ((p : Int))), (2, aJ x), (4, aJ y), (6, aJ w1)]) rfl rfl (by omega) (by omega) rfl ?_
                          refine g_goto rfl ?_
                          refine g_ls [0, 1, 12, 13, 14, 15, 16] rfl rfl ?_
                          exact ih6 (i + 1) _ (by omega) (by exact gWo_no hn hno rfl) (by exact xor_step hl (fun z => by have z := (mw_tog hw1.1 i hno).mpr z; exact ⟨fun q => by omega, fun q => by omega⟩) (fun z => by have z := fun y => z ((mw_tog hw1.1 i hno).mp y); omega)) (by omega)
                        · skip
                          refine g_iconst rfl ?_
                          refine g_goto rfl ?_
                          refine g_istore (l1 := [(8, aI 1), (24, aI 1), (23, aI 1), (22, aI 0), (20, aJ (((((gx S p i) * w1) - x) * (((gy S p (gAft S p i)) * w1) - y)) - ((((gy S p i) * w1) - y) * (((gx S p (gAft S p i)) * w1) - x)))), (18, aJ (((gy S p (gAft S p i)) * w1) - y)), (16, aJ (((gx S p (gAft S p i)) * w1) - x)), (14, aJ (((gy S p i) * w1) - y)), (12, aJ (((gx S p i) * w1) - x)), (11, aI (((12 * p + (gAft S p i) : Nat) : Int))), (10, aI ((12 * p + i : Int))), (9, aI ((i : Int))), (0, aO (some o)), (1, aI ((p : Int))), (2, aJ x), (4, aJ y), (6, aJ w1)]) rfl rfl ?_
                          refine g_iinc (l1 := [(9, aI ((i : Int) + 1)), (8, aI 1), (24, aI 1), (23, aI 1), (22, aI 0), (20, aJ (((((gx S p i) * w1) - x) * (((gy S p (gAft S p i)) * w1) - y)) - ((((gy S p i) * w1) - y) * (((gx S p (gAft S p i)) * w1) - x)))), (18, aJ (((gy S p (gAft S p i)) * w1) - y)), (16, aJ (((gx S p (gAft S p i)) * w1) - x)), (14, aJ (((gy S p i) * w1) - y)), (12, aJ (((gx S p i) * w1) - x)), (11, aI (((12 * p + (gAft S p i) : Nat) : Int))), (10, aI ((12 * p + i : Int))), (0, aO (some o)), (1, aI ((p : Int))), (2, aJ x), (4, aJ y), (6, aJ w1)]) rfl rfl (by omega) (by omega) rfl ?_
                          refine g_goto rfl ?_
                          refine g_ls [0, 1, 12, 13, 14, 15, 16] rfl rfl ?_
                          exact ih6 (i + 1) _ (by omega) (by exact gWo_no hn hno rfl) (by exact xor_step hl (fun z => by have z := (mw_tog hw1.1 i hno).mpr z; exact ⟨fun q => by omega, fun q => by omega⟩) (fun z => by have z := fun y => z ((mw_tog hw1.1 i hno).mp y); omega)) (by omega)
                      · skip
                        refine g_iconst rfl ?_
                        refine g_goto rfl ?_
                        refine g_icmp_eq rfl (fun cq254 => ?_) (fun cq254 => ?_)
                        · skip
                          refine g_iconst rfl ?_
                          refine g_istore (l1 := [(8, aI 0), (24, aI 1), (23, aI 1), (22, aI 0), (20, aJ (((((gx S p i) * w1) - x) * (((gy S p (gAft S p i)) * w1) - y)) - ((((gy S p i) * w1) - y) * (((gx S p (gAft S p i)) * w1) - x)))), (18, aJ (((gy S p (gAft S p i)) * w1) - y)), (16, aJ (((gx S p (gAft S p i)) * w1) - x)), (14, aJ (((gy S p i) * w1) - y)), (12, aJ (((gx S p i) * w1) - x)), (11, aI (((12 * p + (gAft S p i) : Nat) : Int))), (10, aI ((12 * p + i : Int))), (9, aI ((i : Int))), (0, aO (some o)), (1, aI ((p : Int))), (2, aJ x), (4, aJ y), (6, aJ w1)]) rfl rfl ?_
                          refine g_iinc (l1 := [(9, aI ((i : Int) + 1)), (8, aI 0), (24, aI 1), (23, aI 1), (22, aI 0), (20, aJ (((((gx S p i) * w1) - x) * (((gy S p (gAft S p i)) * w1) - y)) - ((((gy S p i) * w1) - y) * (((gx S p (gAft S p i)) * w1) - x)))), (18, aJ (((gy S p (gAft S p i)) * w1) - y)), (16, aJ (((gx S p (gAft S p i)) * w1) - x)), (14, aJ (((gy S p i) * w1) - y)), (12, aJ (((gx S p i) * w1) - x)), (11, aI (((12 * p + (gAft S p i) : Nat) : Int))), (10, aI ((12 * p + i : Int))), (0, aO (some o)), (1, aI ((p : Int))), (2, aJ x), (4, aJ y), (6, aJ w1)]) rfl rfl (by omega) (by omega) rfl ?_
                          refine g_goto rfl ?_
                          refine g_ls [0, 1, 12, 13, 14, 15, 16] rfl rfl ?_
                          exact ih6 (i + 1) _ (by omega) (by exact gWo_no hn hno rfl) (by exact xor_step hl (fun z => by have z := (mw_tog hw1.1 i hno).mpr z; exact ⟨fun q => by omega, fun q => by omega⟩) (fun z => by have z := fun y => z ((mw_tog hw1.1 i hno).mp y); omega)) (by omega)
                        · skip
                          refine g_iconst rfl ?_
                          refine g_goto rfl ?_
                          refine g_istore (l1 := [(8, aI 1), (24, aI 1), (23, aI 1), (22, aI 0), (20, aJ (((((gx S p i) * w1) - x) * (((gy S p (gAft S p i)) * w1) - y)) - ((((gy S p i) * w1) - y) * (((gx S p (gAft S p i)) * w1) - x)))), (18, aJ (((gy S p (gAft S p i)) * w1) - y)), (16, aJ (((gx S p (gAft S p i)) * w1) - x)), (14, aJ (((gy S p i) * w1) - y)), (12, aJ (((gx S p i) * w1) - x)), (11, aI (((12 * p + (gAft S p i) : Nat) : Int))), (10, aI ((12 * p + i : Int))), (9, aI ((i : Int))), (0, aO (some o)), (1, aI ((p : Int))), (2, aJ x), (4, aJ y), (6, aJ w1)]) rfl rfl ?_
                          refine g_iinc (l1 := [(9, aI ((i : Int) + 1)), (8, aI 1), (24, aI 1), (23, aI 1), (22, aI 0), (20, aJ (((((gx S p i) * w1) - x) * (((gy S p (gAft S p i)) * w1) - y)) - ((((gy S p i) * w1) - y) * (((gx S p (gAft S p i)) * w1) - x)))), (18, aJ (((gy S p (gAft S p i)) * w1) - y)), (16, aJ (((gx S p (gAft S p i)) * w1) - x)), (14, aJ (((gy S p i) * w1) - y)), (12, aJ (((gx S p i) * w1) - x)), (11, aI (((12 * p + (gAft S p i) : Nat) : Int))), (10, aI ((12 * p + i : Int))), (0, aO (some o)), (1, aI ((p : Int))), (2, aJ x), (4, aJ y), (6, aJ w1)]) rfl rfl (by omega) (by omega) rfl ?_
                          refine g_goto rfl ?_
                          refine g_ls [0, 1, 12, 13, 14, 15, 16] rfl rfl ?_
                          exact ih6 (i + 1) _ (by omega) (by exact gWo_no hn hno rfl) (by exact xor_step hl (fun z => by have z := (mw_tog hw1.1 i hno).mpr z; exact ⟨fun q => by omega, fun q => by omega⟩) (fun z => by have z := fun y => z ((mw_tog hw1.1 i hno).mp y); omega)) (by omega)
          · skip
            refine g_lload rfl rfl ?_
            refine g_lload rfl rfl ?_
            refine g_callSJ [aJ (((gx S p i) * w1) - x), aJ (((gx S p (gAft S p i)) * w1) - x)] [] rfl rfl rfl rfl (Nat.le_of_ble_eq_true rfl) (c_grt (by omega) (((gx S p i) * w1) - x) (((gx S p (gAft S p i)) * w1) - x) _) ?_
            rintro r4 hx4 ⟨ehx4, rfl⟩
            rw [ehx4]
            clear ehx4 hx4
            refine g_lconst0 rfl ?_
            refine g_lc_lt rfl rfl (fun cq139 => ?_) (fun cq139 => ?_)
            · skip
              refine g_iconst rfl ?_
              refine g_istore (l1 := [(22, aI 0), (20, aJ (((((gx S p i) * w1) - x) * (((gy S p (gAft S p i)) * w1) - y)) - ((((gy S p i) * w1) - y) * (((gx S p (gAft S p i)) * w1) - x)))), (18, aJ (((gy S p (gAft S p i)) * w1) - y)), (16, aJ (((gx S p (gAft S p i)) * w1) - x)), (14, aJ (((gy S p i) * w1) - y)), (12, aJ (((gx S p i) * w1) - x)), (11, aI (((12 * p + (gAft S p i) : Nat) : Int))), (10, aI ((12 * p + i : Int))), (9, aI ((i : Int))), (8, aI l), (0, aO (some o)), (1, aI ((p : Int))), (2, aJ x), (4, aJ y), (6, aJ w1)]) rfl rfl ?_
              refine g_iload rfl rfl ?_
              refine g_if_eq_t rfl (by omega) ?_
              have hno : ¬ gWon S p x y w1 i := fun z => by
                have z := (mw_on hw1.1 i).mpr z
                unfold mWon oneS at z
                have z1 := z.1
                have z2 := z.2.1
                have z3 := z.2.2
                omega
              refine g_lload rfl rfl ?_
              refine g_lconst0 rfl ?_
              refine g_lc_gt rfl rfl (fun cq184 => ?_) (fun cq184 => ?_)
              · skip
                refine g_iconst rfl ?_
                refine g_istore (l1 := [(23, aI 0), (22, aI 0), (20, aJ (((((gx S p i) * w1) - x) * (((gy S p (gAft S p i)) * w1) - y)) - ((((gy S p i) * w1) - y) * (((gx S p (gAft S p i)) * w1) - x)))), (18, aJ (((gy S p (gAft S p i)) * w1) - y)), (16, aJ (((gx S p (gAft S p i)) * w1) - x)), (14, aJ (((gy S p i) * w1) - y)), (12, aJ (((gx S p i) * w1) - x)), (11, aI (((12 * p + (gAft S p i) : Nat) : Int))), (10, aI ((12 * p + i : Int))), (9, aI ((i : Int))), (8, aI l), (0, aO (some o)), (1, aI ((p : Int))), (2, aJ x), (4, aJ y), (6, aJ w1)]) rfl rfl ?_
                refine g_lload rfl rfl ?_
                refine g_lconst0 rfl ?_
                refine g_lc_gt rfl rfl (fun cq205 => ?_) (fun cq205 => ?_)
                · skip
                  refine g_iconst rfl ?_
                  refine g_istore (l1 := [(24, aI 0), (23, aI 0), (22, aI 0), (20, aJ (((((gx S p i) * w1) - x) * (((gy S p (gAft S p i)) * w1) - y)) - ((((gy S p i) * w1) - y) * (((gx S p (gAft S p i)) * w1) - x)))), (18, aJ (((gy S p (gAft S p i)) * w1) - y)), (16, aJ (((gx S p (gAft S p i)) * w1) - x)), (14, aJ (((gy S p i) * w1) - y)), (12, aJ (((gx S p i) * w1) - x)), (11, aI (((12 * p + (gAft S p i) : Nat) : Int))), (10, aI ((12 * p + i : Int))), (9, aI ((i : Int))), (8, aI l), (0, aO (some o)), (1, aI ((p : Int))), (2, aJ x), (4, aJ y), (6, aJ w1)]) rfl rfl ?_
                  refine g_iload rfl rfl ?_
                  refine g_iload rfl rfl ?_
                  refine g_if_eq_t rfl (by omega) ?_
                  refine g_iload rfl rfl ?_
                  refine g_if_eq_t rfl (by omega) ?_
                  refine g_iconst rfl ?_
                  refine g_icmp_eq rfl (fun cq254 => ?_) (fun cq254 => ?_)
                  · skip
                    refine g_iconst rfl ?_
                    refine g_istore (l1 := [(8, aI 0), (24, aI 0), (23, aI 0), (22, aI 0), (20, aJ (((((gx S p i) * w1) - x) * (((gy S p (gAft S p i)) * w1) - y)) - ((((gy S p i) * w1) - y) * (((gx S p (gAft S p i)) * w1) - x)))), (18, aJ (((gy S p (gAft S p i)) * w1) - y)), (16, aJ (((gx S p (gAft S p i)) * w1) - x)), (14, aJ (((gy S p i) * w1) - y)), (12, aJ (((gx S p i) * w1) - x)), (11, aI (((12 * p + (gAft S p i) : Nat) : Int))), (10, aI ((12 * p + i : Int))), (9, aI ((i : Int))), (0, aO (some o)), (1, aI ((p : Int))), (2, aJ x), (4, aJ y), (6, aJ w1)]) rfl rfl ?_
                    refine g_iinc (l1 := [(9, aI ((i : Int) + 1)), (8, aI 0), (24, aI 0), (23, aI 0), (22, aI 0), (20, aJ (((((gx S p i) * w1) - x) * (((gy S p (gAft S p i)) * w1) - y)) - ((((gy S p i) * w1) - y) * (((gx S p (gAft S p i)) * w1) - x)))), (18, aJ (((gy S p (gAft S p i)) * w1) - y)), (16, aJ (((gx S p (gAft S p i)) * w1) - x)), (14, aJ (((gy S p i) * w1) - y)), (12, aJ (((gx S p i) * w1) - x)), (11, aI (((12 * p + (gAft S p i) : Nat) : Int))), (10, aI ((12 * p + i : Int))), (0, aO (some o)), (1, aI ((p : Int))), (2, aJ x), (4, aJ y), (6, aJ w1)]) rfl rfl (by omega) (by omega) rfl ?_
                    refine g_goto rfl ?_
                    refine g_ls [0, 1, 12, 13, 14, 15, 16] rfl rfl ?_
                    exact ih6 (i + 1) _ (by omega) (by exact gWo_no hn hno rfl) (by exact xor_step hl (fun z => by have z := (mw_tog hw1.1 i hno).mpr z; exact ⟨fun q => by omega, fun q => by omega⟩) (fun z => by have z := fun y => z ((mw_tog hw1.1 i hno).mp y); omega)) (by omega)
                  · skip
                    refine g_iconst rfl ?_
                    refine g_goto rfl ?_
                    refine g_istore (l1 := [(8, aI 1), (24, aI 0), (23, aI 0), (22, aI 0), (20, aJ (((((gx S p i) * w1) - x) * (((gy S p (gAft S p i)) * w1) - y)) - ((((gy S p i) * w1) - y) * (((gx S p (gAft S p i)) * w1) - x)))), (18, aJ (((gy S p (gAft S p i)) * w1) - y)), (16, aJ (((gx S p (gAft S p i)) * w1) - x)), (14, aJ (((gy S p i) * w1) - y)), (12, aJ (((gx S p i) * w1) - x)), (11, aI (((12 * p + (gAft S p i) : Nat) : Int))), (10, aI ((12 * p + i : Int))), (9, aI ((i : Int))), (0, aO (some o)), (1, aI ((p : Int))), (2, aJ x), (4, aJ y), (6, aJ w1)]) rfl rfl ?_
                    refine g_iinc (l1 := [(9, aI ((i : Int) + 1)), (8, aI 1), (24, aI 0), (23, aI 0), (22, aI 0), (20, aJ (((((gx S p i) * w1) - x) * (((gy S p (gAft S p i)) * w1) - y)) - ((((gy S p i) * w1) - y) * (((gx S p (gAft S p i)) * w1) - x)))), (18, aJ (((gy S p (gAft S p i)) * w1) - y)), (16, aJ (((gx S p (gAft S p i)) * w1) - x)), (14, aJ (((gy S p i) * w1) - y)), (12, aJ (((gx S p i) * w1) - x)), (11, aI (((12 * p + (gAft S p i) : Nat) : Int))), (10, aI ((12 * p + i : Int))), (0, aO (some o)), (1, aI ((p : Int))), (2, aJ x), (4, aJ y), (6, aJ w1)]) rfl rfl (by omega) (by omega) rfl ?_
                    refine g_goto rfl ?_
                    refine g_ls [0, 1, 12, 13, 14, 15, 16] rfl rfl ?_
                    exact ih6 (i + 1) _ (by omega) (by exact gWo_no hn hno rfl) (by exact xor_step hl (fun z => by have z := (mw_tog hw1.1 i hno).mpr z; exact ⟨fun q => by omega, fun q => by omega⟩) (fun z => by have z := fun y => z ((mw_tog hw1.1 i hno).mp y); omega)) (by omega)
                · skip
                  refine g_lload rfl rfl ?_
                  refine g_lconst0 rfl ?_
                  refine g_lc_le rfl rfl (fun cq212 => ?_) (fun cq212 => ?_)
                  · skip
                    refine g_iconst rfl ?_
                    refine g_istore (l1 := [(24, aI 0), (23, aI 0), (22, aI 0), (20, aJ (((((gx S p i) * w1) - x) * (((gy S p (gAft S p i)) * w1) - y)) - ((((gy S p i) * w1) - y) * (((gx S p (gAft S p i)) * w1) - x)))), (18, aJ (((gy S p (gAft S p i)) * w1) - y)), (16, aJ (((gx S p (gAft S p i)) * w1) - x)), (14, aJ (((gy S p i) * w1) - y)), (12, aJ (((gx S p i) * w1) - x)), (11, aI (((12 * p + (gAft S p i) : Nat) : Int))), (10, aI ((12 * p + i : Int))), (9, aI ((i : Int))), (8, aI l), (0, aO (some o)), (1, aI ((p : Int))), (2, aJ x), (4, aJ y), (6, aJ w1)]) rfl rfl ?_
                    refine g_iload rfl rfl ?_
                    refine g_iload rfl rfl ?_
                    refine g_if_eq_t rfl (by omega) ?_
                    refine g_iload rfl rfl ?_
                    refine g_if_eq_t rfl (by omega) ?_
                    refine g_iconst rfl ?_
                    refine g_icmp_eq rfl (fun cq254 => ?_) (fun cq254 => ?_)
                    · skip
                      refine g_iconst rfl ?_
                      refine g_istore (l1 := [(8, aI 0), (24, aI 0), (23, aI 0), (22, aI 0), (20, aJ (((((gx S p i) * w1) - x) * (((gy S p (gAft S p i)) * w1) - y)) - ((((gy S p i) * w1) - y) * (((gx S p (gAft S p i)) * w1) - x)))), (18, aJ (((gy S p (gAft S p i)) * w1) - y)), (16, aJ (((gx S p (gAft S p i)) * w1) - x)), (14, aJ (((gy S p i) * w1) - y)), (12, aJ (((gx S p i) * w1) - x)), (11, aI (((12 * p + (gAft S p i) : Nat) : Int))), (10, aI ((12 * p + i : Int))), (9, aI ((i : Int))), (0, aO (some o)), (1, aI ((p : Int))), (2, aJ x), (4, aJ y), (6, aJ w1)]) rfl rfl ?_
                      refine g_iinc (l1 := [(9, aI ((i : Int) + 1)), (8, aI 0), (24, aI 0), (23, aI 0), (22, aI 0), (20, aJ (((((gx S p i) * w1) - x) * (((gy S p (gAft S p i)) * w1) - y)) - ((((gy S p i) * w1) - y) * (((gx S p (gAft S p i)) * w1) - x)))), (18, aJ (((gy S p (gAft S p i)) * w1) - y)), (16, aJ (((gx S p (gAft S p i)) * w1) - x)), (14, aJ (((gy S p i) * w1) - y)), (12, aJ (((gx S p i) * w1) - x)), (11, aI (((12 * p + (gAft S p i) : Nat) : Int))), (10, aI ((12 * p + i : Int))), (0, aO (some o)), (1, aI ((p : Int))), (2, aJ x), (4, aJ y), (6, aJ w1)]) rfl rfl (by omega) (by omega) rfl ?_
                      refine g_goto rfl ?_
                      refine g_ls [0, 1, 12, 13, 14, 15, 16] rfl rfl ?_
                      exact ih6 (i + 1) _ (by omega) (by exact gWo_no hn hno rfl) (by exact xor_step hl (fun z => by have z := (mw_tog hw1.1 i hno).mpr z; exact ⟨fun q => by omega, fun q => by omega⟩) (fun z => by have z := fun y => z ((mw_tog hw1.1 i hno).mp y); omega)) (by omega)
                    · skip
                      refine g_iconst rfl ?_
                      refine g_goto rfl ?_
                      refine g_istore (l1 := [(8, aI 1), (24, aI 0), (23, aI 0), (22, aI 0), (20, aJ (((((gx S p i) * w1) - x) * (((gy S p (gAft S p i)) * w1) - y)) - ((((gy S p i) * w1) - y) * (((gx S p (gAft S p i)) * w1) - x)))), (18, aJ (((gy S p (gAft S p i)) * w1) - y)), (16, aJ (((gx S p (gAft S p i)) * w1) - x)), (14, aJ (((gy S p i) * w1) - y)), (12, aJ (((gx S p i) * w1) - x)), (11, aI (((12 * p + (gAft S p i) : Nat) : Int))), (10, aI ((12 * p + i : Int))), (9, aI ((i : Int))), (0, aO (some o)), (1, aI ((p : Int))), (2, aJ x), (4, aJ y), (6, aJ w1)]) rfl rfl ?_
                      refine g_iinc (l1 := [(9, aI ((i : Int) + 1)), (8, aI 1), (24, aI 0), (23, aI 0), (22, aI 0), (20, aJ (((((gx S p i) * w1) - x) * (((gy S p (gAft S p i)) * w1) - y)) - ((((gy S p i) * w1) - y) * (((gx S p (gAft S p i)) * w1) - x)))), (18, aJ (((gy S p (gAft S p i)) * w1) - y)), (16, aJ (((gx S p (gAft S p i)) * w1) - x)), (14, aJ (((gy S p i) * w1) - y)), (12, aJ (((gx S p i) * w1) - x)), (11, aI (((12 * p + (gAft S p i) : Nat) : Int))), (10, aI ((12 * p + i : Int))), (0, aO (some o)), (1, aI ((p : Int))), (2, aJ x), (4, aJ y), (6, aJ w1)]) rfl rfl (by omega) (by omega) rfl ?_
                      refine g_goto rfl ?_
                      refine g_ls [0, 1, 12, 13, 14, 15, 16] rfl rfl ?_
                      exact ih6 (i + 1) _ (by omega) (by exact gWo_no hn hno rfl) (by exact xor_step hl (fun z => by have z := (mw_tog hw1.1 i hno).mpr z; exact ⟨fun q => by omega, fun q => by omega⟩) (fun z => by have z := fun y => z ((mw_tog hw1.1 i hno).mp y); omega)) (by omega)
                  · skip
                    refine g_iconst rfl ?_
                    refine g_goto rfl ?_
                    refine g_istore (l1 := [(24, aI 1), (23, aI 0), (22, aI 0), (20, aJ (((((gx S p i) * w1) - x) * (((gy S p (gAft S p i)) * w1) - y)) - ((((gy S p i) * w1) - y) * (((gx S p (gAft S p i)) * w1) - x)))), (18, aJ (((gy S p (gAft S p i)) * w1) - y)), (16, aJ (((gx S p (gAft S p i)) * w1) - x)), (14, aJ (((gy S p i) * w1) - y)), (12, aJ (((gx S p i) * w1) - x)), (11, aI (((12 * p + (gAft S p i) : Nat) : Int))), (10, aI ((12 * p + i : Int))), (9, aI ((i : Int))), (8, aI l), (0, aO (some o)), (1, aI ((p : Int))), (2, aJ x), (4, aJ y), (6, aJ w1)]) rfl rfl ?_
                    refine g_iload rfl rfl ?_
                    refine g_iload rfl rfl ?_
                    refine g_if_eq_t rfl (by omega) ?_
                    refine g_iload rfl rfl ?_
                    refine g_if_eq_f rfl (by omega) ?_
                    refine g_lload rfl rfl ?_
                    refine g_lconst0 rfl ?_
                    refine g_lc_ge rfl rfl (fun cq245 => ?_) (fun cq245 => ?_)
                    · skip
                      refine g_iconst rfl ?_
                      refine g_icmp_eq rfl (fun cq254 => ?_) (fun cq254 => ?_)
                      · skip
                        refine g_iconst rfl ?_
                        refine g_istore (l1 := [(8, aI 0), (24, aI 1), (23, aI 0), (22, aI 0), (20, aJ (((((gx S p i) * w1) - x) * (((gy S p (gAft S p i)) * w1) - y)) - ((((gy S p i) * w1) - y) * (((gx S p (gAft S p i)) * w1) - x)))), (18, aJ (((gy S p (gAft S p i)) * w1) - y)), (16, aJ (((gx S p (gAft S p i)) * w1) - x)), (14, aJ (((gy S p i) * w1) - y)), (12, aJ (((gx S p i) * w1) - x)), (11, aI (((12 * p + (gAft S p i) : Nat) : Int))), (10, aI ((12 * p + i : Int))), (9, aI ((i : Int))), (0, aO (some o)), (1, aI ((p : Int))), (2, aJ x), (4, aJ y), (6, aJ w1)]) rfl rfl ?_
                        refine g_iinc (l1 := [(9, aI ((i : Int) + 1)), (8, aI 0), (24, aI 1), (23, aI 0), (22, aI 0), (20, aJ (((((gx S p i) * w1) - x) * (((gy S p (gAft S p i)) * w1) - y)) - ((((gy S p i) * w1) - y) * (((gx S p (gAft S p i)) * w1) - x)))), (18, aJ (((gy S p (gAft S p i)) * w1) - y)), (16, aJ (((gx S p (gAft S p i)) * w1) - x)), (14, aJ (((gy S p i) * w1) - y)), (12, aJ (((gx S p i) * w1) - x)), (11, aI (((12 * p + (gAft S p i) : Nat) : Int))), (10, aI ((12 * p + i : Int))), (0, aO (some o)), (1, aI ((p : Int))), (2, aJ x), (4, aJ y), (6, aJ w1)]) rfl rfl (by omega) (by omega) rfl ?_
                        refine g_goto rfl ?_
                        refine g_ls [0, 1, 12, 13, 14, 15, 16] rfl rfl ?_
                        exact ih6 (i + 1) _ (by omega) (by exact gWo_no hn hno rfl) (by exact xor_step hl (fun z => by have z := (mw_tog hw1.1 i hno).mpr z; exact ⟨fun q => by omega, fun q => by omega⟩) (fun z => by have z := fun y => z ((mw_tog hw1.1 i hno).mp y); omega)) (by omega)
                      · skip
                        refine g_iconst rfl ?_
                        refine g_goto rfl ?_
                        refine g_istore (l1 := [(8, aI 1), (24, aI 1), (23, aI 0), (22, aI 0), (20, aJ (((((gx S p i) * w1) - x) * (((gy S p (gAft S p i)) * w1) - y)) - ((((gy S p i) * w1) - y) * (((gx S p (gAft S p i)) * w1) - x)))), (18, aJ (((gy S p (gAft S p i)) * w1) - y)), (16, aJ (((gx S p (gAft S p i)) * w1) - x)), (14, aJ (((gy S p i) * w1) - y)), (12, aJ (((gx S p i) * w1) - x)), (11, aI (((12 * p + (gAft S p i) : Nat) : Int))), (10, aI ((12 * p + i : Int))), (9, aI ((i : Int))), (0, aO (some o)), (1, aI ((p : Int))), (2, aJ x), (4, aJ y), (6, aJ w1)]) rfl rfl ?_
                        refine g_iinc (l1 := [(9, aI ((i : Int) + 1)), (8, aI 1), (24, aI 1), (23, aI 0), (22, aI 0), (20, aJ (((((gx S p i) * w1) - x) * (((gy S p (gAft S p i)) * w1) - y)) - ((((gy S p i) * w1) - y) * (((gx S p (gAft S p i)) * w1) - x)))), (18, aJ (((gy S p (gAft S p i)) * w1) - y)), (16, aJ (((gx S p (gAft S p i)) * w1) - x)), (14, aJ (((gy S p i) * w1) - y)), (12, aJ (((gx S p i) * w1) - x)), (11, aI (((12 * p + (gAft S p i) : Nat) : Int))), (10, aI ((12 * p + i : Int))), (0, aO (some o)), (1, aI ((p : Int))), (2, aJ x), (4, aJ y), (6, aJ w1)]) rfl rfl (by omega) (by omega) rfl ?_
                        refine g_goto rfl ?_
                        refine g_ls [0, 1, 12, 13, 14, 15, 16] rfl rfl ?_
                        exact ih6 (i + 1) _ (by omega) (by exact gWo_no hn hno rfl) (by exact xor_step hl (fun z => by have z := (mw_tog hw1.1 i hno).mpr z; exact ⟨fun q => by omega, fun q => by omega⟩) (fun z => by have z := fun y => z ((mw_tog hw1.1 i hno).mp y); omega)) (by omega)
                    · skip
                      refine g_iconst rfl ?_
                      refine g_goto rfl ?_
                      refine g_icmp_eq rfl (fun cq254 => ?_) (fun cq254 => ?_)
                      · skip
                        refine g_iconst rfl ?_
                        refine g_istore (l1 := [(8, aI 0), (24, aI 1), (23, aI 0), (22, aI 0), (20, aJ (((((gx S p i) * w1) - x) * (((gy S p (gAft S p i)) * w1) - y)) - ((((gy S p i) * w1) - y) * (((gx S p (gAft S p i)) * w1) - x)))), (18, aJ (((gy S p (gAft S p i)) * w1) - y)), (16, aJ (((gx S p (gAft S p i)) * w1) - x)), (14, aJ (((gy S p i) * w1) - y)), (12, aJ (((gx S p i) * w1) - x)), (11, aI (((12 * p + (gAft S p i) : Nat) : Int))), (10, aI ((12 * p + i : Int))), (9, aI ((i : Int))), (0, aO (some o)), (1, aI ((p : Int))), (2, aJ x), (4, aJ y), (6, aJ w1)]) rfl rfl ?_
                        refine g_iinc (l1 := [(9, aI ((i : Int) + 1)), (8, aI 0), (24, aI 1), (23, aI 0), (22, aI 0), (20, aJ (((((gx S p i) * w1) - x) * (((gy S p (gAft S p i)) * w1) - y)) - ((((gy S p i) * w1) - y) * (((gx S p (gAft S p i)) * w1) - x)))), (18, aJ (((gy S p (gAft S p i)) * w1) - y)), (16, aJ (((gx S p (gAft S p i)) * w1) - x)), (14, aJ (((gy S p i) * w1) - y)), (12, aJ (((gx S p i) * w1) - x)), (11, aI (((12 * p + (gAft S p i) : Nat) : Int))), (10, aI ((12 * p + i : Int))), (0, aO (some o)), (1, aI ((p : Int))), (2, aJ x), (4, aJ y), (6, aJ w1)]) rfl rfl (by omega) (by omega) rfl ?_
                        refine g_goto rfl ?_
                        refine g_ls [0, 1, 12, 13, 14, 15, 16] rfl rfl ?_
                        exact ih6 (i + 1) _ (by omega) (by exact gWo_no hn hno rfl) (by exact xor_step hl (fun z => by have z := (mw_tog hw1.1 i hno).mpr z; exact ⟨fun q => by omega, fun q => by omega⟩) (fun z => by have z := fun y => z ((mw_tog hw1.1 i hno).mp y); omega)) (by omega)
                      · skip
                        refine g_iconst rfl ?_
                        refine g_goto rfl ?_
                        refine g_istore (l1 := [(8, aI 1), (24, aI 1), (23, aI 0), (22, aI 0), (20, aJ (((((gx S p i) * w1) - x) * (((gy S p (gAft S p i)) * w1) - y)) - ((((gy S p i) * w1) - y) * (((gx S p (gAft S p i)) * w1) - x)))), (18, aJ (((gy S p (gAft S p i)) * w1) - y)), (16, aJ (((gx S p (gAft S p i)) * w1) - x)), (14, aJ (((gy S p i) * w1) - y)), (12, aJ (((gx S p i) * w1) - x)), (11, aI (((12 * p + (gAft S p i) : Nat) : Int))), (10, aI ((12 * p + i : Int))), (9, aI ((i : Int))), (0, aO (some o)), (1, aI ((p : Int))), (2, aJ x), (4, aJ y), (6, aJ w1)]) rfl rfl ?_
                        refine g_iinc (l1 := [(9, aI ((i : Int) + 1)), (8, aI 1), (24, aI 1), (23, aI 0), (22, aI 0), (20, aJ (((((gx S p i) * w1) - x) * (((gy S p (gAft S p i)) * w1) - y)) - ((((gy S p i) * w1) - y) * (((gx S p (gAft S p i)) * w1) - x)))), (18, aJ (((gy S p (gAft S p i)) * w1) - y)), (16, aJ (((gx S p (gAft S p i)) * w1) - x)), (14, aJ (((gy S p i) * w1) - y)), (12, aJ (((gx S p i) * w1) - x)), (11, aI (((12 * p + (gAft S p i) : Nat) : Int))), (10, aI ((12 * p + i : Int))), (0, aO (some o)), (1, aI ((p : Int))), (2, aJ x), (4, aJ y), (6, aJ w1)]) rfl rfl (by omega) (by omega) rfl ?_
                        refine g_goto rfl ?_
                        refine g_ls [0, 1, 12, 13, 14, 15, 16] rfl rfl ?_
                        exact ih6 (i + 1) _ (by omega) (by exact gWo_no hn hno rfl) (by exact xor_step hl (fun z => by have z := (mw_tog hw1.1 i hno).mpr z; exact ⟨fun q => by omega, fun q => by omega⟩) (fun z => by have z := fun y => z ((mw_tog hw1.1 i hno).mp y); omega)) (by omega)
              · skip
                refine g_lload rfl rfl ?_
                refine g_lconst0 rfl ?_
                refine g_lc_le rfl rfl (fun cq191 => ?_) (fun cq191 => ?_)
                · skip
                  refine g_iconst rfl ?_
                  refine g_istore (l1 := [(23, aI 0), (22, aI 0), (20, aJ (((((gx S p i) * w1) - x) * (((gy S p (gAft S p i)) * w1) - y)) - ((((gy S p i) * w1) - y) * (((gx S p (gAft S p i)) * w1) - x)))), (18, aJ (((gy S p (gAft S p i)) * w1) - y)), (16, aJ (((gx S p (gAft S p i)) * w1) - x)), (14, aJ (((gy S p i) * w1) - y)), (12, aJ (((gx S p i) * w1) - x)), (11, aI (((12 * p + (gAft S p i) : Nat) : Int))), (10, aI ((12 * p + i : Int))), (9, aI ((i : Int))), (8, aI l), (0, aO (some o)), (1, aI ((p : Int))), (2, aJ x), (4, aJ y), (6, aJ w1)]) rfl rfl ?_
                  refine g_lload rfl rfl ?_
                  refine g_lconst0 rfl ?_
                  refine g_lc_gt rfl rfl (fun cq205 => ?_) (fun cq205 => ?_)
                  · skip
                    refine g_iconst rfl ?_
                    refine g_istore (l1 := [(24, aI 0), (23, aI 0), (22, aI 0), (20, aJ (((((gx S p i) * w1) - x) * (((gy S p (gAft S p i)) * w1) - y)) - ((((gy S p i) * w1) - y) * (((gx S p (gAft S p i)) * w1) - x)))), (18, aJ (((gy S p (gAft S p i)) * w1) - y)), (16, aJ (((gx S p (gAft S p i)) * w1) - x)), (14, aJ (((gy S p i) * w1) - y)), (12, aJ (((gx S p i) * w1) - x)), (11, aI (((12 * p + (gAft S p i) : Nat) : Int))), (10, aI ((12 * p + i : Int))), (9, aI ((i : Int))), (8, aI l), (0, aO (some o)), (1, aI ((p : Int))), (2, aJ x), (4, aJ y), (6, aJ w1)]) rfl rfl ?_
                    refine g_iload rfl rfl ?_
                    refine g_iload rfl rfl ?_
                    refine g_if_eq_t rfl (by omega) ?_
                    refine g_iload rfl rfl ?_
                    refine g_if_eq_t rfl (by omega) ?_
                    refine g_iconst rfl ?_
                    refine g_icmp_eq rfl (fun cq254 => ?_) (fun cq254 => ?_)
                    · skip
                      refine g_iconst rfl ?_
                      refine g_istore (l1 := [(8, aI 0), (24, aI 0), (23, aI 0), (22, aI 0), (20, aJ (((((gx S p i) * w1) - x) * (((gy S p (gAft S p i)) * w1) - y)) - ((((gy S p i) * w1) - y) * (((gx S p (gAft S p i)) * w1) - x)))), (18, aJ (((gy S p (gAft S p i)) * w1) - y)), (16, aJ (((gx S p (gAft S p i)) * w1) - x)), (14, aJ (((gy S p i) * w1) - y)), (12, aJ (((gx S p i) * w1) - x)), (11, aI (((12 * p + (gAft S p i) : Nat) : Int))), (10, aI ((12 * p + i : Int))), (9, aI ((i : Int))), (0, aO (some o)), (1, aI ((p : Int))), (2, aJ x), (4, aJ y), (6, aJ w1)]) rfl rfl ?_
                      refine g_iinc (l1 := [(9, aI ((i : Int) + 1)), (8, aI 0), (24, aI 0), (23, aI 0), (22, aI 0), (20, aJ (((((gx S p i) * w1) - x) * (((gy S p (gAft S p i)) * w1) - y)) - ((((gy S p i) * w1) - y) * (((gx S p (gAft S p i)) * w1) - x)))), (18, aJ (((gy S p (gAft S p i)) * w1) - y)), (16, aJ (((gx S p (gAft S p i)) * w1) - x)), (14, aJ (((gy S p i) * w1) - y)), (12, aJ (((gx S p i) * w1) - x)), (11, aI (((12 * p + (gAft S p i) : Nat) : Int))), (10, aI ((12 * p + i : Int))), (0, aO (some o)), (1, aI ((p : Int))), (2, aJ x), (4, aJ y), (6, aJ w1)]) rfl rfl (by omega) (by omega) rfl ?_
                      refine g_goto rfl ?_
                      refine g_ls [0, 1, 12, 13, 14, 15, 16] rfl rfl ?_
                      exact ih6 (i + 1) _ (by omega) (by exact gWo_no hn hno rfl) (by exact xor_step hl (fun z => by have z := (mw_tog hw1.1 i hno).mpr z; exact ⟨fun q => by omega, fun q => by omega⟩) (fun z => by have z := fun y => z ((mw_tog hw1.1 i hno).mp y); omega)) (by omega)
                    · skip
                      refine g_iconst rfl ?_
                      refine g_goto rfl ?_
                      refine g_istore (l1 := [(8, aI 1), (24, aI 0), (23, aI 0), (22, aI 0), (20, aJ (((((gx S p i) * w1) - x) * (((gy S p (gAft S p i)) * w1) - y)) - ((((gy S p i) * w1) - y) * (((gx S p (gAft S p i)) * w1) - x)))), (18, aJ (((gy S p (gAft S p i)) * w1) - y)), (16, aJ (((gx S p (gAft S p i)) * w1) - x)), (14, aJ (((gy S p i) * w1) - y)), (12, aJ (((gx S p i) * w1) - x)), (11, aI (((12 * p + (gAft S p i) : Nat) : Int))), (10, aI ((12 * p + i : Int))), (9, aI ((i : Int))), (0, aO (some o)), (1, aI ((p : Int))), (2, aJ x), (4, aJ y), (6, aJ w1)]) rfl rfl ?_
                      refine g_iinc (l1 := [(9, aI ((i : Int) + 1)), (8, aI 1), (24, aI 0), (23, aI 0), (22, aI 0), (20, aJ (((((gx S p i) * w1) - x) * (((gy S p (gAft S p i)) * w1) - y)) - ((((gy S p i) * w1) - y) * (((gx S p (gAft S p i)) * w1) - x)))), (18, aJ (((gy S p (gAft S p i)) * w1) - y)), (16, aJ (((gx S p (gAft S p i)) * w1) - x)), (14, aJ (((gy S p i) * w1) - y)), (12, aJ (((gx S p i) * w1) - x)), (11, aI (((12 * p + (gAft S p i) : Nat) : Int))), (10, aI ((12 * p + i : Int))), (0, aO (some o)), (1, aI ((p : Int))), (2, aJ x), (4, aJ y), (6, aJ w1)]) rfl rfl (by omega) (by omega) rfl ?_
                      refine g_goto rfl ?_
                      refine g_ls [0, 1, 12, 13, 14, 15, 16] rfl rfl ?_
                      exact ih6 (i + 1) _ (by omega) (by exact gWo_no hn hno rfl) (by exact xor_step hl (fun z => by have z := (mw_tog hw1.1 i hno).mpr z; exact ⟨fun q => by omega, fun q => by omega⟩) (fun z => by have z := fun y => z ((mw_tog hw1.1 i hno).mp y); omega)) (by omega)
                  · skip
                    refine g_lload rfl rfl ?_
                    refine g_lconst0 rfl ?_
                    refine g_lc_le rfl rfl (fun cq212 => ?_) (fun cq212 => ?_)
                    · skip
                      refine g_iconst rfl ?_
                      refine g_istore (l1 := [(24, aI 0), (23, aI 0), (22, aI 0), (20, aJ (((((gx S p i) * w1) - x) * (((gy S p (gAft S p i)) * w1) - y)) - ((((gy S p i) * w1) - y) * (((gx S p (gAft S p i)) * w1) - x)))), (18, aJ (((gy S p (gAft S p i)) * w1) - y)), (16, aJ (((gx S p (gAft S p i)) * w1) - x)), (14, aJ (((gy S p i) * w1) - y)), (12, aJ (((gx S p i) * w1) - x)), (11, aI (((12 * p + (gAft S p i) : Nat) : Int))), (10, aI ((12 * p + i : Int))), (9, aI ((i : Int))), (8, aI l), (0, aO (some o)), (1, aI ((p : Int))), (2, aJ x), (4, aJ y), (6, aJ w1)]) rfl rfl ?_
                      refine g_iload rfl rfl ?_
                      refine g_iload rfl rfl ?_
                      refine g_if_eq_t rfl (by omega) ?_
                      refine g_iload rfl rfl ?_
                      refine g_if_eq_t rfl (by omega) ?_
                      refine g_iconst rfl ?_
                      refine g_icmp_eq rfl (fun cq254 => ?_) (fun cq254 => ?_)
                      · skip
                        refine g_iconst rfl ?_
                        refine g_istore (l1 := [(8, aI 0), (24, aI 0), (23, aI 0), (22, aI 0), (20, aJ (((((gx S p i) * w1) - x) * (((gy S p (gAft S p i)) * w1) - y)) - ((((gy S p i) * w1) - y) * (((gx S p (gAft S p i)) * w1) - x)))), (18, aJ (((gy S p (gAft S p i)) * w1) - y)), (16, aJ (((gx S p (gAft S p i)) * w1) - x)), (14, aJ (((gy S p i) * w1) - y)), (12, aJ (((gx S p i) * w1) - x)), (11, aI (((12 * p + (gAft S p i) : Nat) : Int))), (10, aI ((12 * p + i : Int))), (9, aI ((i : Int))), (0, aO (some o)), (1, aI ((p : Int))), (2, aJ x), (4, aJ y), (6, aJ w1)]) rfl rfl ?_
                        refine g_iinc (l1 := [(9, aI ((i : Int) + 1)), (8, aI 0), (24, aI 0), (23, aI 0), (22, aI 0), (20, aJ (((((gx S p i) * w1) - x) * (((gy S p (gAft S p i)) * w1) - y)) - ((((gy S p i) * w1) - y) * (((gx S p (gAft S p i)) * w1) - x)))), (18, aJ (((gy S p (gAft S p i)) * w1) - y)), (16, aJ (((gx S p (gAft S p i)) * w1) - x)), (14, aJ (((gy S p i) * w1) - y)), (12, aJ (((gx S p i) * w1) - x)), (11, aI (((12 * p + (gAft S p i) : Nat) : Int))), (10, aI ((12 * p + i : Int))), (0, aO (some o)), (1, aI ((p : Int))), (2, aJ x), (4, aJ y), (6, aJ w1)]) rfl rfl (by omega) (by omega) rfl ?_
                        refine g_goto rfl ?_
                        refine g_ls [0, 1, 12, 13, 14, 15, 16] rfl rfl ?_
                        exact ih6 (i + 1) _ (by omega) (by exact gWo_no hn hno rfl) (by exact xor_step hl (fun z => by have z := (mw_tog hw1.1 i hno).mpr z; exact ⟨fun q => by omega, fun q => by omega⟩) (fun z => by have z := fun y => z ((mw_tog hw1.1 i hno).mp y); omega)) (by omega)
                      · skip
                        refine g_iconst rfl ?_
                        refine g_goto rfl ?_
                        refine g_istore (l1 := [(8, aI 1), (24, aI 0), (23, aI 0), (22, aI 0), (20, aJ (((((gx S p i) * w1) - x) * (((gy S p (gAft S p i)) * w1) - y)) - ((((gy S p i) * w1) - y) * (((gx S p (gAft S p i)) * w1) - x)))), (18, aJ (((gy S p (gAft S p i)) * w1) - y)), (16, aJ (((gx S p (gAft S p i)) * w1) - x)), (14, aJ (((gy S p i) * w1) - y)), (12, aJ (((gx S p i) * w1) - x)), (11, aI (((12 * p + (gAft S p i) : Nat) : Int))), (10, aI ((12 * p + i : Int))), (9, aI ((i : Int))), (0, aO (some o)), (1, aI ((p : Int))), (2, aJ x), (4, aJ y), (6, aJ w1)]) rfl rfl ?_
                        refine g_iinc (l1 := [(9, aI ((i : Int) + 1)), (8, aI 1), (24, aI 0), (23, aI 0), (22, aI 0), (20, aJ (((((gx S p i) * w1) - x) * (((gy S p (gAft S p i)) * w1) - y)) - ((((gy S p i) * w1) - y) * (((gx S p (gAft S p i)) * w1) - x)))), (18, aJ (((gy S p (gAft S p i)) * w1) - y)), (16, aJ (((gx S p (gAft S p i)) * w1) - x)), (14, aJ (((gy S p i) * w1) - y)), (12, aJ (((gx S p i) * w1) - x)), (11, aI (((12 * p + (gAft S p i) : Nat) : Int))), (10, aI ((12 * p + i : Int))), (0, aO (some o)), (1, aI ((p : Int))), (2, aJ x), (4, aJ y), (6, aJ w1)]) rfl rfl (by omega) (by omega) rfl ?_
                        refine g_goto rfl ?_
                        refine g_ls [0, 1, 12, 13, 14, 15, 16] rfl rfl ?_
                        exact ih6 (i + 1) _ (by omega) (by exact gWo_no hn hno rfl) (by exact xor_step hl (fun z => by have z := (mw_tog hw1.1 i hno).mpr z; exact ⟨fun q => by omega, fun q => by omega⟩) (fun z => by have z := fun y => z ((mw_tog hw1.1 i hno).mp y); omega)) (by omega)
                    · skip
                      refine g_iconst rfl ?_
                      refine g_goto rfl ?_
                      refine g_istore (l1 := [(24, aI 1), (23, aI 0), (22, aI 0), (20, aJ (((((gx S p i) * w1) - x) * (((gy S p (gAft S p i)) * w1) - y)) - ((((gy S p i) * w1) - y) * (((gx S p (gAft S p i)) * w1) - x)))), (18, aJ (((gy S p (gAft S p i)) * w1) - y)), (16, aJ (((gx S p (gAft S p i)) * w1) - x)), (14, aJ (((gy S p i) * w1) - y)), (12, aJ (((gx S p i) * w1) - x)), (11, aI (((12 * p + (gAft S p i) : Nat) : Int))), (10, aI ((12 * p + i : Int))), (9, aI ((i : Int))), (8, aI l), (0, aO (some o)), (1, aI ((p : Int))), (2, aJ x), (4, aJ y), (6, aJ w1)]) rfl rfl ?_
                      refine g_iload rfl rfl ?_
                      refine g_iload rfl rfl ?_
                      refine g_if_eq_t rfl (by omega) ?_
                      refine g_iload rfl rfl ?_
                      refine g_if_eq_f rfl (by omega) ?_
                      refine g_lload rfl rfl ?_
                      refine g_lconst0 rfl ?_
                      refine g_lc_ge rfl rfl (fun cq245 => ?_) (fun cq245 => ?_)
                      · skip
                        refine g_iconst rfl ?_
                        refine g_icmp_eq rfl (fun cq254 => ?_) (fun cq254 => ?_)
                        · skip
                          refine g_iconst rfl ?_
                          refine g_istore (l1 := [(8, aI 0), (24, aI 1), (23, aI 0), (22, aI 0), (20, aJ (((((gx S p i) * w1) - x) * (((gy S p (gAft S p i)) * w1) - y)) - ((((gy S p i) * w1) - y) * (((gx S p (gAft S p i)) * w1) - x)))), (18, aJ (((gy S p (gAft S p i)) * w1) - y)), (16, aJ (((gx S p (gAft S p i)) * w1) - x)), (14, aJ (((gy S p i) * w1) - y)), (12, aJ (((gx S p i) * w1) - x)), (11, aI (((12 * p + (gAft S p i) : Nat) : Int))), (10, aI ((12 * p + i : Int))), (9, aI ((i : Int))), (0, aO (some o)), (1, aI ((p : Int))), (2, aJ x), (4, aJ y), (6, aJ w1)]) rfl rfl ?_
                          refine g_iinc (l1 := [(9, aI ((i : Int) + 1)), (8, aI 0), (24, aI 1), (23, aI 0), (22, aI 0), (20, aJ (((((gx S p i) * w1) - x) * (((gy S p (gAft S p i)) * w1) - y)) - ((((gy S p i) * w1) - y) * (((gx S p (gAft S p i)) * w1) - x)))), (18, aJ (((gy S p (gAft S p i)) * w1) - y)), (16, aJ (((gx S p (gAft S p i)) * w1) - x)), (14, aJ (((gy S p i) * w1) - y)), (12, aJ (((gx S p i) * w1) - x)), (11, aI (((12 * p + (gAft S p i) : Nat) : Int))), (10, aI ((12 * p + i : Int))), (0, aO (some o)), (1, aI ((p : Int))), (2, aJ x), (4, aJ y), (6, aJ w1)]) rfl rfl (by omega) (by omega) rfl ?_
                          refine g_goto rfl ?_
                          refine g_ls [0, 1, 12, 13, 14, 15, 16] rfl rfl ?_
                          exact ih6 (i + 1) _ (by omega) (by exact gWo_no hn hno rfl) (by exact xor_step hl (fun z => by have z := (mw_tog hw1.1 i hno).mpr z; exact ⟨fun q => by omega, fun q => by omega⟩) (fun z => by have z := fun y => z ((mw_tog hw1.1 i hno).mp y); omega)) (by omega)
                        · skip
                          refine g_iconst rfl ?_
                          refine g_goto rfl ?_
                          refine g_istore (l1 := [(8, aI 1), (24, aI 1), (23, aI 0), (22, aI 0), (20, aJ (((((gx S p i) * w1) - x) * (((gy S p (gAft S p i)) * w1) - y)) - ((((gy S p i) * w1) - y) * (((gx S p (gAft S p i)) * w1) - x)))), (18, aJ (((gy S p (gAft S p i)) * w1) - y)), (16, aJ (((gx S p (gAft S p i)) * w1) - x)), (14, aJ (((gy S p i) * w1) - y)), (12, aJ (((gx S p i) * w1) - x)), (11, aI (((12 * p + (gAft S p i) : Nat) : Int))), (10, aI ((12 * p + i : Int))), (9, aI ((i : Int))), (0, aO (some o)), (1, aI ((p : Int))), (2, aJ x), (4, aJ y), (6, aJ w1)]) rfl rfl ?_
                          refine g_iinc (l1 := [(9, aI ((i : Int) + 1)), (8, aI 1), (24, aI 1), (23, aI 0), (22, aI 0), (20, aJ (((((gx S p i) * w1) - x) * (((gy S p (gAft S p i)) * w1) - y)) - ((((gy S p i) * w1) - y) * (((gx S p (gAft S p i)) * w1) - x)))), (18, aJ (((gy S p (gAft S p i)) * w1) - y)), (16, aJ (((gx S p (gAft S p i)) * w1) - x)), (14, aJ (((gy S p i) * w1) - y)), (12, aJ (((gx S p i) * w1) - x)), (11, aI (((12 * p + (gAft S p i) : Nat) : Int))), (10, aI ((12 * p + i : Int))), (0, aO (some o)), (1, aI ((p : Int))), (2, aJ x), (4, aJ y), (6, aJ w1)]) rfl rfl (by omega) (by omega) rfl ?_
                          refine g_goto rfl ?_
                          refine g_ls [0, 1, 12, 13, 14, 15, 16] rfl rfl ?_
                          exact ih6 (i + 1) _ (by omega) (by exact gWo_no hn hno rfl) (by exact xor_step hl (fun z => by have z := (mw_tog hw1.1 i hno).mpr z; exact ⟨fun q => by omega, fun q => by omega⟩) (fun z => by have z := fun y => z ((mw_tog hw1.1 i hno).mp y); omega)) (by omega)
                      · skip
                        refine g_iconst rfl ?_
                        refine g_goto rfl ?_
                        refine g_icmp_eq rfl (fun cq254 => ?_) (fun cq254 => ?_)
                        · skip
                          refine g_iconst rfl ?_
                          refine g_istore (l1 := [(8, aI 0), (24, aI 1), (23, aI 0), (22, aI 0), (20, aJ (((((gx S p i) * w1) - x) * (((gy S p (gAft S p i)) * w1) - y)) - ((((gy S p i) * w1) - y) * (((gx S p (gAft S p i)) * w1) - x)))), (18, aJ (((gy S p (gAft S p i)) * w1) - y)), (16, aJ (((gx S p (gAft S p i)) * w1) - x)), (14, aJ (((gy S p i) * w1) - y)), (12, aJ (((gx S p i) * w1) - x)), (11, aI (((12 * p + (gAft S p i) : Nat) : Int))), (10, aI ((12 * p + i : Int))), (9, aI ((i : Int))), (0, aO (some o)), (1, aI ((p : Int))), (2, aJ x), (4, aJ y), (6, aJ w1)]) rfl rfl ?_
                          refine g_iinc (l1 := [(9, aI ((i : Int) + 1)), (8, aI 0), (24, aI 1), (23, aI 0), (22, aI 0), (20, aJ (((((gx S p i) * w1) - x) * (((gy S p (gAft S p i)) * w1) - y)) - ((((gy S p i) * w1) - y) * (((gx S p (gAft S p i)) * w1) - x)))), (18, aJ (((gy S p (gAft S p i)) * w1) - y)), (16, aJ (((gx S p (gAft S p i)) * w1) - x)), (14, aJ (((gy S p i) * w1) - y)), (12, aJ (((gx S p i) * w1) - x)), (11, aI (((12 * p + (gAft S p i) : Nat) : Int))), (10, aI ((12 * p + i : Int))), (0, aO (some o)), (1, aI ((p : Int))), (2, aJ x), (4, aJ y), (6, aJ w1)]) rfl rfl (by omega) (by omega) rfl ?_
                          refine g_goto rfl ?_
                          refine g_ls [0, 1, 12, 13, 14, 15, 16] rfl rfl ?_
                          exact ih6 (i + 1) _ (by omega) (by exact gWo_no hn hno rfl) (by exact xor_step hl (fun z => by have z := (mw_tog hw1.1 i hno).mpr z; exact ⟨fun q => by omega, fun q => by omega⟩) (fun z => by have z := fun y => z ((mw_tog hw1.1 i hno).mp y); omega)) (by omega)
                        · skip
                          refine g_iconst rfl ?_
                          refine g_goto rfl ?_
                          refine g_istore (l1 := [(8, aI 1), (24, aI 1), (23, aI 0), (22, aI 0), (20, aJ (((((gx S p i) * w1) - x) * (((gy S p (gAft S p i)) * w1) - y)) - ((((gy S p i) * w1) - y) * (((gx S p (gAft S p i)) * w1) - x)))), (18, aJ (((gy S p (gAft S p i)) * w1) - y)), (16, aJ (((gx S p (gAft S p i)) * w1) - x)), (14, aJ (((gy S p i) * w1) - y)), (12, aJ (((gx S p i) * w1) - x)), (11, aI (((12 * p + (gAft S p i) : Nat) : Int))), (10, aI ((12 * p + i : Int))), (9, aI ((i : Int))), (0, aO (some o)), (1, aI ((p : Int))), (2, aJ x), (4, aJ y), (6, aJ w1)]) rfl rfl ?_
                          refine g_iinc (l1 := [(9, aI ((i : Int) + 1)), (8, aI 1), (24, aI 1), (23, aI 0), (22, aI 0), (20, aJ (((((gx S p i) * w1) - x) * (((gy S p (gAft S p i)) * w1) - y)) - ((((gy S p i) * w1) - y) * (((gx S p (gAft S p i)) * w1) - x)))), (18, aJ (((gy S p (gAft S p i)) * w1) - y)), (16, aJ (((gx S p (gAft S p i)) * w1) - x)), (14, aJ (((gy S p i) * w1) - y)), (12, aJ (((gx S p i) * w1) - x)), (11, aI (((12 * p + (gAft S p i) : Nat) : Int))), (10, aI ((12 * p + i : Int))), (0, aO (some o)), (1, aI ((p : Int))), (2, aJ x), (4, aJ y), (6, aJ w1)]) rfl rfl (by omega) (by omega) rfl ?_
                          refine g_goto rfl ?_
                          refine g_ls [0, 1, 12, 13, 14, 15, 16] rfl rfl ?_
                          exact ih6 (i + 1) _ (by omega) (by exact gWo_no hn hno rfl) (by exact xor_step hl (fun z => by have z := (mw_tog hw1.1 i hno).mpr z; exact ⟨fun q => by omega, fun q => by omega⟩) (fun z => by have z := fun y => z ((mw_tog hw1.1 i hno).mp y); omega)) (by omega)
                · skip
                  refine g_iconst rfl ?_
                  refine g_goto rfl ?_
                  refine g_istore (l1 := [(23, aI 1), (22, aI 0), (20, aJ (((((gx S p i) * w1) - x) * (((gy S p (gAft S p i)) * w1) - y)) - ((((gy S p i) * w1) - y) * (((gx S p (gAft S p i)) * w1) - x)))), (18, aJ (((gy S p (gAft S p i)) * w1) - y)), (16, aJ (((gx S p (gAft S p i)) * w1) - x)), (14, aJ (((gy S p i) * w1) - y)), (12, aJ (((gx S p i) * w1) - x)), (11, aI (((12 * p + (gAft S p i) : Nat) : Int))), (10, aI ((12 * p + i : Int))), (9, aI ((i : Int))), (8, aI l), (0, aO (some o)), (1, aI ((p : Int))), (2, aJ x), (4, aJ y), (6, aJ w1)]) rfl rfl ?_
                  refine g_lload rfl rfl ?_
                  refine g_lconst0 rfl ?_
                  refine g_lc_gt rfl rfl (fun cq205 => ?_) (fun cq205 => ?_)
                  · skip
                    refine g_iconst rfl ?_
                    refine g_istore (l1 := [(24, aI 0), (23, aI 1), (22, aI 0), (20, aJ (((((gx S p i) * w1) - x) * (((gy S p (gAft S p i)) * w1) - y)) - ((((gy S p i) * w1) - y) * (((gx S p (gAft S p i)) * w1) - x)))), (18, aJ (((gy S p (gAft S p i)) * w1) - y)), (16, aJ (((gx S p (gAft S p i)) * w1) - x)), (14, aJ (((gy S p i) * w1) - y)), (12, aJ (((gx S p i) * w1) - x)), (11, aI (((12 * p + (gAft S p i) : Nat) : Int))), (10, aI ((12 * p + i : Int))), (9, aI ((i : Int))), (8, aI l), (0, aO (some o)), (1, aI ((p : Int))), (2, aJ x), (4, aJ y), (6, aJ w1)]) rfl rfl ?_
                    refine g_iload rfl rfl ?_
                    refine g_iload rfl rfl ?_
                    refine g_if_eq_f rfl (by omega) ?_
                    refine g_lload rfl rfl ?_
                    refine g_lconst0 rfl ?_
                    refine g_lc_gt rfl rfl (fun cq233 => ?_) (fun cq233 => ?_)
                    · skip
                      refine g_iconst rfl ?_
                      refine g_goto rfl ?_
                      refine g_icmp_eq rfl (fun cq254 => ?_) (fun cq254 => ?_)
                      · skip
                        refine g_iconst rfl ?_
                        refine g_istore (l1 := [(8, aI 0), (24, aI 0), (23, aI 1), (22, aI 0), (20, aJ (((((gx S p i) * w1) - x) * (((gy S p (gAft S p i)) * w1) - y)) - ((((gy S p i) * w1) - y) * (((gx S p (gAft S p i)) * w1) - x)))), (18, aJ (((gy S p (gAft S p i)) * w1) - y)), (16, aJ (((gx S p (gAft S p i)) * w1) - x)), (14, aJ (((gy S p i) * w1) - y)), (12, aJ (((gx S p i) * w1) - x)), (11, aI (((12 * p + (gAft S p i) : Nat) : Int))), (10, aI ((12 * p + i : Int))), (9, aI ((i : Int))), (0, aO (some o)), (1, aI ((p : Int))), (2, aJ x), (4, aJ y), (6, aJ w1)]) rfl rfl ?_
                        refine g_iinc (l1 := [(9, aI ((i : Int) + 1)), (8, aI 0), (24, aI 0), (23, aI 1), (22, aI 0), (20, aJ (((((gx S p i) * w1) - x) * (((gy S p (gAft S p i)) * w1) - y)) - ((((gy S p i) * w1) - y) * (((gx S p (gAft S p i)) * w1) - x)))), (18, aJ (((gy S p (gAft S p i)) * w1) - y)), (16, aJ (((gx S p (gAft S p i)) * w1) - x)), (14, aJ (((gy S p i) * w1) - y)), (12, aJ (((gx S p i) * w1) - x)), (11, aI (((12 * p + (gAft S p i) : Nat) : Int))), (10, aI ((12 * p + i : Int))), (0, aO (some o)), (1, aI ((p : Int))), (2, aJ x), (4, aJ y), (6, aJ w1)]) rfl rfl (by omega) (by omega) rfl ?_
                        refine g_goto rfl ?_
                        refine g_ls [0, 1, 12, 13, 14, 15, 16] rfl rfl ?_
                        exact ih6 (i + 1) _ (by omega) (by exact gWo_no hn hno rfl) (by exact xor_step hl (fun z => by have z := (mw_tog hw1.1 i hno).mpr z; exact ⟨fun q => by omega, fun q => by omega⟩) (fun z => by have z := fun y => z ((mw_tog hw1.1 i hno).mp y); omega)) (by omega)
                      · skip
                        refine g_iconst rfl ?_
                        refine g_goto rfl ?_
                        refine g_istore (l1 := [(8, aI 1), (24, aI 0), (23, aI 1), (22, aI 0), (20, aJ (((((gx S p i) * w1) - x) * (((gy S p (gAft S p i)) * w1) - y)) - ((((gy S p i) * w1) - y) * (((gx S p (gAft S p i)) * w1) - x)))), (18, aJ (((gy S p (gAft S p i)) * w1) - y)), (16, aJ (((gx S p (gAft S p i)) * w1) - x)), (14, aJ (((gy S p i) * w1) - y)), (12, aJ (((gx S p i) * w1) - x)), (11, aI (((12 * p + (gAft S p i) : Nat) : Int))), (10, aI ((12 * p + i : Int))), (9, aI ((i : Int))), (0, aO (some o)), (1, aI ((p : Int))), (2, aJ x), (4, aJ y), (6, aJ w1)]) rfl rfl ?_
                        refine g_iinc (l1 := [(9, aI ((i : Int) + 1)), (8, aI 1), (24, aI 0), (23, aI 1), (22, aI 0), (20, aJ (((((gx S p i) * w1) - x) * (((gy S p (gAft S p i)) * w1) - y)) - ((((gy S p i) * w1) - y) * (((gx S p (gAft S p i)) * w1) - x)))), (18, aJ (((gy S p (gAft S p i)) * w1) - y)), (16, aJ (((gx S p (gAft S p i)) * w1) - x)), (14, aJ (((gy S p i) * w1) - y)), (12, aJ (((gx S p i) * w1) - x)), (11, aI (((12 * p + (gAft S p i) : Nat) : Int))), (10, aI ((12 * p + i : Int))), (0, aO (some o)), (1, aI ((p : Int))), (2, aJ x), (4, aJ y), (6, aJ w1)]) rfl rfl (by omega) (by omega) rfl ?_
                        refine g_goto rfl ?_
                        refine g_ls [0, 1, 12, 13, 14, 15, 16] rfl rfl ?_
                        exact ih6 (i + 1) _ (by omega) (by exact gWo_no hn hno rfl) (by exact xor_step hl (fun z => by have z := (mw_tog hw1.1 i hno).mpr z; exact ⟨fun q => by omega, fun q => by omega⟩) (fun z => by have z := fun y => z ((mw_tog hw1.1 i hno).mp y); omega)) (by omega)
                    · skip
                      refine g_iload rfl rfl ?_
                      refine g_if_eq_t rfl (by omega) ?_
                      refine g_iconst rfl ?_
                      refine g_icmp_eq rfl (fun cq254 => ?_) (fun cq254 => ?_)
                      · skip
                        refine g_iconst rfl ?_
                        refine g_istore (l1 := [(8, aI 0), (24, aI 0), (23, aI 1), (22, aI 0), (20, aJ (((((gx S p i) * w1) - x) * (((gy S p (gAft S p i)) * w1) - y)) - ((((gy S p i) * w1) - y) * (((gx S p (gAft S p i)) * w1) - x)))), (18, aJ (((gy S p (gAft S p i)) * w1) - y)), (16, aJ (((gx S p (gAft S p i)) * w1) - x)), (14, aJ (((gy S p i) * w1) - y)), (12, aJ (((gx S p i) * w1) - x)), (11, aI (((12 * p + (gAft S p i) : Nat) : Int))), (10, aI ((12 * p + i : Int))), (9, aI ((i : Int))), (0, aO (some o)), (1, aI ((p : Int))), (2, aJ x), (4, aJ y), (6, aJ w1)]) rfl rfl ?_
                        refine g_iinc (l1 := [(9, aI ((i : Int) + 1)), (8, aI 0), (24, aI 0), (23, aI 1), (22, aI 0), (20, aJ (((((gx S p i) * w1) - x) * (((gy S p (gAft S p i)) * w1) - y)) - ((((gy S p i) * w1) - y) * (((gx S p (gAft S p i)) * w1) - x)))), (18, aJ (((gy S p (gAft S p i)) * w1) - y)), (16, aJ (((gx S p (gAft S p i)) * w1) - x)), (14, aJ (((gy S p i) * w1) - y)), (12, aJ (((gx S p i) * w1) - x)), (11, aI (((12 * p + (gAft S p i) : Nat) : Int))), (10, aI ((12 * p + i : Int))), (0, aO (some o)), (1, aI ((p : Int))), (2, aJ x), (4, aJ y), (6, aJ w1)]) rfl rfl (by omega) (by omega) rfl ?_
                        refine g_goto rfl ?_
                        refine g_ls [0, 1, 12, 13, 14, 15, 16] rfl rfl ?_
                        exact ih6 (i + 1) _ (by omega) (by exact gWo_no hn hno rfl) (by exact xor_step hl (fun z => by have z := (mw_tog hw1.1 i hno).mpr z; exact ⟨fun q => by omega, fun q => by omega⟩) (fun z => by have z := fun y => z ((mw_tog hw1.1 i hno).mp y); omega)) (by omega)
                      · skip
                        refine g_iconst rfl ?_
                        refine g_goto rfl ?_
                        refine g_istore (l1 := [(8, aI 1), (24, aI 0), (23, aI 1), (22, aI 0), (20, aJ (((((gx S p i) * w1) - x) * (((gy S p (gAft S p i)) * w1) - y)) - ((((gy S p i) * w1) - y) * (((gx S p (gAft S p i)) * w1) - x)))), (18, aJ (((gy S p (gAft S p i)) * w1) - y)), (16, aJ (((gx S p (gAft S p i)) * w1) - x)), (14, aJ (((gy S p i) * w1) - y)), (12, aJ (((gx S p i) * w1) - x)), (11, aI (((12 * p + (gAft S p i) : Nat) : Int))), (10, aI ((12 * p + i : Int))), (9, aI ((i : Int))), (0, aO (some o)), (1, aI ((p : Int))), (2, aJ x), (4, aJ y), (6, aJ w1)]) rfl rfl ?_
                        refine g_iinc (l1 := [(9, aI ((i : Int) + 1)), (8, aI 1), (24, aI 0), (23, aI 1), (22, aI 0), (20, aJ (((((gx S p i) * w1) - x) * (((gy S p (gAft S p i)) * w1) - y)) - ((((gy S p i) * w1) - y) * (((gx S p (gAft S p i)) * w1) - x)))), (18, aJ (((gy S p (gAft S p i)) * w1) - y)), (16, aJ (((gx S p (gAft S p i)) * w1) - x)), (14, aJ (((gy S p i) * w1) - y)), (12, aJ (((gx S p i) * w1) - x)), (11, aI (((12 * p + (gAft S p i) : Nat) : Int))), (10, aI ((12 * p + i : Int))), (0, aO (some o)), (1, aI ((p : Int))), (2, aJ x), (4, aJ y), (6, aJ w1)]) rfl rfl (by omega) (by omega) rfl ?_
                        refine g_goto rfl ?_
                        refine g_ls [0, 1, 12, 13, 14, 15, 16] rfl rfl ?_
                        exact ih6 (i + 1) _ (by omega) (by exact gWo_no hn hno rfl) (by exact xor_step hl (fun z => by have z := (mw_tog hw1.1 i hno).mpr z; exact ⟨fun q => by omega, fun q => by omega⟩) (fun z => by have z := fun y => z ((mw_tog hw1.1 i hno).mp y); omega)) (by omega)
                  · skip
                    refine g_lload rfl rfl ?_
                    refine g_lconst0 rfl ?_
                    refine g_lc_le rfl rfl (fun cq212 => ?_) (fun cq212 => ?_)
                    · skip
                      refine g_iconst rfl ?_
                      refine g_istore (l1 := [(24, aI 0), (23, aI 1), (22, aI 0), (20, aJ (((((gx S p i) * w1) - x) * (((gy S p (gAft S p i)) * w1) - y)) - ((((gy S p i) * w1) - y) * (((gx S p (gAft S p i)) * w1) - x)))), (18, aJ (((gy S p (gAft S p i)) * w1) - y)), (16, aJ (((gx S p (gAft S p i)) * w1) - x)), (14, aJ (((gy S p i) * w1) - y)), (12, aJ (((gx S p i) * w1) - x)), (11, aI (((12 * p + (gAft S p i) : Nat) : Int))), (10, aI ((12 * p + i : Int))), (9, aI ((i : Int))), (8, aI l), (0, aO (some o)), (1, aI ((p : Int))), (2, aJ x), (4, aJ y), (6, aJ w1)]) rfl rfl ?_
                      refine g_iload rfl rfl ?_
                      refine g_iload rfl rfl ?_
                      refine g_if_eq_f rfl (by omega) ?_
                      refine g_lload rfl rfl ?_
                      refine g_lconst0 rfl ?_
                      refine g_lc_gt rfl rfl (fun cq233 => ?_) (fun cq233 => ?_)
                      · skip
                        refine g_iconst rfl ?_
                        refine g_goto rfl ?_
                        refine g_icmp_eq rfl (fun cq254 => ?_) (fun cq254 => ?_)
                        · skip
                          refine g_iconst rfl ?_
                          refine g_istore (l1 := [(8, aI 0), (24, aI 0), (23, aI 1), (22, aI 0), (20, aJ (((((gx S p i) * w1) - x) * (((gy S p (gAft S p i)) * w1) - y)) - ((((gy S p i) * w1) - y) * (((gx S p (gAft S p i)) * w1) - x)))), (18, aJ (((gy S p (gAft S p i)) * w1) - y)), (16, aJ (((gx S p (gAft S p i)) * w1) - x)), (14, aJ (((gy S p i) * w1) - y)), (12, aJ (((gx S p i) * w1) - x)), (11, aI (((12 * p + (gAft S p i) : Nat) : Int))), (10, aI ((12 * p + i : Int))), (9, aI ((i : Int))), (0, aO (some o)), (1, aI ((p : Int))), (2, aJ x), (4, aJ y), (6, aJ w1)]) rfl rfl ?_
                          refine g_iinc (l1 := [(9, aI ((i : Int) + 1)), (8, aI 0), (24, aI 0), (23, aI 1), (22, aI 0), (20, aJ (((((gx S p i) * w1) - x) * (((gy S p (gAft S p i)) * w1) - y)) - ((((gy S p i) * w1) - y) * (((gx S p (gAft S p i)) * w1) - x)))), (18, aJ (((gy S p (gAft S p i)) * w1) - y)), (16, aJ (((gx S p (gAft S p i)) * w1) - x)), (14, aJ (((gy S p i) * w1) - y)), (12, aJ (((gx S p i) * w1) - x)), (11, aI (((12 * p + (gAft S p i) : Nat) : Int))), (10, aI ((12 * p + i : Int))), (0, aO (some o)), (1, aI ((p : Int))), (2, aJ x), (4, aJ y), (6, aJ w1)]) rfl rfl (by omega) (by omega) rfl ?_
                          refine g_goto rfl ?_
                          refine g_ls [0, 1, 12, 13, 14, 15, 16] rfl rfl ?_
                          exact ih6 (i + 1) _ (by omega) (by exact gWo_no hn hno rfl) (by exact xor_step hl (fun z => by have z := (mw_tog hw1.1 i hno).mpr z; exact ⟨fun q => by omega, fun q => by omega⟩) (fun z => by have z := fun y => z ((mw_tog hw1.1 i hno).mp y); omega)) (by omega)
                        · skip
                          refine g_iconst rfl ?_
                          refine g_goto rfl ?_
                          refine g_istore (l1 := [(8, aI 1), (24, aI 0), (23, aI 1), (22, aI 0), (20, aJ (((((gx S p i) * w1) - x) * (((gy S p (gAft S p i)) * w1) - y)) - ((((gy S p i) * w1) - y) * (((gx S p (gAft S p i)) * w1) - x)))), (18, aJ (((gy S p (gAft S p i)) * w1) - y)), (16, aJ (((gx S p (gAft S p i)) * w1) - x)), (14, aJ (((gy S p i) * w1) - y)), (12, aJ (((gx S p i) * w1) - x)), (11, aI (((12 * p + (gAft S p i) : Nat) : Int))), (10, aI ((12 * p + i : Int))), (9, aI ((i : Int))), (0, aO (some o)), (1, aI ((p : Int))), (2, aJ x), (4, aJ y), (6, aJ w1)]) rfl rfl ?_
                          refine g_iinc (l1 := [(9, aI ((i : Int) + 1)), (8, aI 1), (24, aI 0), (23, aI 1), (22, aI 0), (20, aJ (((((gx S p i) * w1) - x) * (((gy S p (gAft S p i)) * w1) - y)) - ((((gy S p i) * w1) - y) * (((gx S p (gAft S p i)) * w1) - x)))), (18, aJ (((gy S p (gAft S p i)) * w1) - y)), (16, aJ (((gx S p (gAft S p i)) * w1) - x)), (14, aJ (((gy S p i) * w1) - y)), (12, aJ (((gx S p i) * w1) - x)), (11, aI (((12 * p + (gAft S p i) : Nat) : Int))), (10, aI ((12 * p + i : Int))), (0, aO (some o)), (1, aI ((p : Int))), (2, aJ x), (4, aJ y), (6, aJ w1)]) rfl rfl (by omega) (by omega) rfl ?_
                          refine g_goto rfl ?_
                          refine g_ls [0, 1, 12, 13, 14, 15, 16] rfl rfl ?_
                          exact ih6 (i + 1) _ (by omega) (by exact gWo_no hn hno rfl) (by exact xor_step hl (fun z => by have z := (mw_tog hw1.1 i hno).mpr z; exact ⟨fun q => by omega, fun q => by omega⟩) (fun z => by have z := fun y => z ((mw_tog hw1.1 i hno).mp y); omega)) (by omega)
                      · skip
                        refine g_iload rfl rfl ?_
                        refine g_if_eq_t rfl (by omega) ?_
                        refine g_iconst rfl ?_
                        refine g_icmp_eq rfl (fun cq254 => ?_) (fun cq254 => ?_)
                        · skip
                          refine g_iconst rfl ?_
                          refine g_istore (l1 := [(8, aI 0), (24, aI 0), (23, aI 1), (22, aI 0), (20, aJ (((((gx S p i) * w1) - x) * (((gy S p (gAft S p i)) * w1) - y)) - ((((gy S p i) * w1) - y) * (((gx S p (gAft S p i)) * w1) - x)))), (18, aJ (((gy S p (gAft S p i)) * w1) - y)), (16, aJ (((gx S p (gAft S p i)) * w1) - x)), (14, aJ (((gy S p i) * w1) - y)), (12, aJ (((gx S p i) * w1) - x)), (11, aI (((12 * p + (gAft S p i) : Nat) : Int))), (10, aI ((12 * p + i : Int))), (9, aI ((i : Int))), (0, aO (some o)), (1, aI ((p : Int))), (2, aJ x), (4, aJ y), (6, aJ w1)]) rfl rfl ?_
                          refine g_iinc (l1 := [(9, aI ((i : Int) + 1)), (8, aI 0), (24, aI 0), (23, aI 1), (22, aI 0), (20, aJ (((((gx S p i) * w1) - x) * (((gy S p (gAft S p i)) * w1) - y)) - ((((gy S p i) * w1) - y) * (((gx S p (gAft S p i)) * w1) - x)))), (18, aJ (((gy S p (gAft S p i)) * w1) - y)), (16, aJ (((gx S p (gAft S p i)) * w1) - x)), (14, aJ (((gy S p i) * w1) - y)), (12, aJ (((gx S p i) * w1) - x)), (11, aI (((12 * p + (gAft S p i) : Nat) : Int))), (10, aI ((12 * p + i : Int))), (0, aO (some o)), (1, aI ((p : Int))), (2, aJ x), (4, aJ y), (6, aJ w1)]) rfl rfl (by omega) (by omega) rfl ?_
                          refine g_goto rfl ?_
                          refine g_ls [0, 1, 12, 13, 14, 15, 16] rfl rfl ?_
                          exact ih6 (i + 1) _ (by omega) (by exact gWo_no hn hno rfl) (by exact xor_step hl (fun z => by have z := (mw_tog hw1.1 i hno).mpr z; exact ⟨fun q => by omega, fun q => by omega⟩) (fun z => by have z := fun y => z ((mw_tog hw1.1 i hno).mp y); omega)) (by omega)
                        · skip
                          refine g_iconst rfl ?_
                          refine g_goto rfl ?_
                          refine g_istore (l1 := [(8, aI 1), (24, aI 0), (23, aI 1), (22, aI 0), (20, aJ (((((gx S p i) * w1) - x) * (((gy S p (gAft S p i)) * w1) - y)) - ((((gy S p i) * w1) - y) * (((gx S p (gAft S p i)) * w1) - x)))), (18, aJ (((gy S p (gAft S p i)) * w1) - y)), (16, aJ (((gx S p (gAft S p i)) * w1) - x)), (14, aJ (((gy S p i) * w1) - y)), (12, aJ (((gx S p i) * w1) - x)), (11, aI (((12 * p + (gAft S p i) : Nat) : Int))), (10, aI ((12 * p + i : Int))), (9, aI ((i : Int))), (0, aO (some o)), (1, aI ((p : Int))), (2, aJ x), (4, aJ y), (6, aJ w1)]) rfl rfl ?_
                          refine g_iinc (l1 := [(9, aI ((i : Int) + 1)), (8, aI 1), (24, aI 0), (23, aI 1), (22, aI 0), (20, aJ (((((gx S p i) * w1) - x) * (((gy S p (gAft S p i)) * w1) - y)) - ((((gy S p i) * w1) - y) * (((gx S p (gAft S p i)) * w1) - x)))), (18, aJ (((gy S p (gAft S p i)) * w1) - y)), (16, aJ (((gx S p (gAft S p i)) * w1) - x)), (14, aJ (((gy S p i) * w1) - y)), (12, aJ (((gx S p i) * w1) - x)), (11, aI (((12 * p + (gAft S p i) : Nat) : Int))), (10, aI ((12 * p + i : Int))), (0, aO (some o)), (1, aI ((p : Int))), (2, aJ x), (4, aJ y), (6, aJ w1)]) rfl rfl (by omega) (by omega) rfl ?_
                          refine g_goto rfl ?_
                          refine g_ls [0, 1, 12, 13, 14, 15, 16] rfl rfl ?_
                          exact ih6 (i + 1) _ (by omega) (by exact gWo_no hn hno rfl) (by exact xor_step hl (fun z => by have z := (mw_tog hw1.1 i hno).mpr z; exact ⟨fun q => by omega, fun q => by omega⟩) (fun z => by have z := fun y => z ((mw_tog hw1.1 i hno).mp y); omega)) (by omega)
                    · skip
                      refine g_iconst rfl ?_
                      refine g_goto rfl ?_
                      refine g_istore (l1 := [(24, aI 1), (23, aI 1), (22, aI 0), (20, aJ (((((gx S p i) * w1) - x) * (((gy S p (gAft S p i)) * w1) - y)) - ((((gy S p i) * w1) - y) * (((gx S p (gAft S p i)) * w1) - x)))), (18, aJ (((gy S p (gAft S p i)) * w1) - y)), (16, aJ (((gx S p (gAft S p i)) * w1) - x)), (14, aJ (((gy S p i) * w1) - y)), (12, aJ (((gx S p i) * w1) - x)), (11, aI (((12 * p + (gAft S p i) : Nat) : Int))), (10, aI ((12 * p + i : Int))), (9, aI ((i : Int))), (8, aI l), (0, aO (some o)), (1, aI ((p : Int))), (2, aJ x), (4, aJ y), (6, aJ w1)]) rfl rfl ?_
                      refine g_iload rfl rfl ?_
                      refine g_iload rfl rfl ?_
                      refine g_if_eq_f rfl (by omega) ?_
                      refine g_lload rfl rfl ?_
                      refine g_lconst0 rfl ?_
                      refine g_lc_gt rfl rfl (fun cq233 => ?_) (fun cq233 => ?_)
                      · skip
                        refine g_iconst rfl ?_
                        refine g_goto rfl ?_
                        refine g_icmp_eq rfl (fun cq254 => ?_) (fun cq254 => ?_)
                        · skip
                          refine g_iconst rfl ?_
                          refine g_istore (l1 := [(8, aI 0), (24, aI 1), (23, aI 1), (22, aI 0), (20, aJ (((((gx S p i) * w1) - x) * (((gy S p (gAft S p i)) * w1) - y)) - ((((gy S p i) * w1) - y) * (((gx S p (gAft S p i)) * w1) - x)))), (18, aJ (((gy S p (gAft S p i)) * w1) - y)), (16, aJ (((gx S p (gAft S p i)) * w1) - x)), (14, aJ (((gy S p i) * w1) - y)), (12, aJ (((gx S p i) * w1) - x)), (11, aI (((12 * p + (gAft S p i) : Nat) : Int))), (10, aI ((12 * p + i : Int))), (9, aI ((i : Int))), (0, aO (some o)), (1, aI ((p : Int))), (2, aJ x), (4, aJ y), (6, aJ w1)]) rfl rfl ?_
                          refine g_iinc (l1 := [(9, aI ((i : Int) + 1)), (8, aI 0), (24, aI 1), (23, aI 1), (22, aI 0), (20, aJ (((((gx S p i) * w1) - x) * (((gy S p (gAft S p i)) * w1) - y)) - ((((gy S p i) * w1) - y) * (((gx S p (gAft S p i)) * w1) - x)))), (18, aJ (((gy S p (gAft S p i)) * w1) - y)), (16, aJ (((gx S p (gAft S p i)) * w1) - x)), (14, aJ (((gy S p i) * w1) - y)), (12, aJ (((gx S p i) * w1) - x)), (11, aI (((12 * p + (gAft S p i) : Nat) : Int))), (10, aI ((12 * p + i : Int))), (0, aO (some o)), (1, aI ((p : Int))), (2, aJ x), (4, aJ y), (6, aJ w1)]) rfl rfl (by omega) (by omega) rfl ?_
                          refine g_goto rfl ?_
                          refine g_ls [0, 1, 12, 13, 14, 15, 16] rfl rfl ?_
                          exact ih6 (i + 1) _ (by omega) (by exact gWo_no hn hno rfl) (by exact xor_step hl (fun z => by have z := (mw_tog hw1.1 i hno).mpr z; exact ⟨fun q => by omega, fun q => by omega⟩) (fun z => by have z := fun y => z ((mw_tog hw1.1 i hno).mp y); omega)) (by omega)
                        · skip
                          refine g_iconst rfl ?_
                          refine g_goto rfl ?_
                          refine g_istore (l1 := [(8, aI 1), (24, aI 1), (23, aI 1), (22, aI 0), (20, aJ (((((gx S p i) * w1) - x) * (((gy S p (gAft S p i)) * w1) - y)) - ((((gy S p i) * w1) - y) * (((gx S p (gAft S p i)) * w1) - x)))), (18, aJ (((gy S p (gAft S p i)) * w1) - y)), (16, aJ (((gx S p (gAft S p i)) * w1) - x)), (14, aJ (((gy S p i) * w1) - y)), (12, aJ (((gx S p i) * w1) - x)), (11, aI (((12 * p + (gAft S p i) : Nat) : Int))), (10, aI ((12 * p + i : Int))), (9, aI ((i : Int))), (0, aO (some o)), (1, aI ((p : Int))), (2, aJ x), (4, aJ y), (6, aJ w1)]) rfl rfl ?_
                          refine g_iinc (l1 := [(9, aI ((i : Int) + 1)), (8, aI 1), (24, aI 1), (23, aI 1), (22, aI 0), (20, aJ (((((gx S p i) * w1) - x) * (((gy S p (gAft S p i)) * w1) - y)) - ((((gy S p i) * w1) - y) * (((gx S p (gAft S p i)) * w1) - x)))), (18, aJ (((gy S p (gAft S p i)) * w1) - y)), (16, aJ (((gx S p (gAft S p i)) * w1) - x)), (14, aJ (((gy S p i) * w1) - y)), (12, aJ (((gx S p i) * w1) - x)), (11, aI (((12 * p + (gAft S p i) : Nat) : Int))), (10, aI ((12 * p + i : Int))), (0, aO (some o)), (1, aI ((p : Int))), (2, aJ x), (4, aJ y), (6, aJ w1)]) rfl rfl (by omega) (by omega) rfl ?_
                          refine g_goto rfl ?_
                          refine g_ls [0, 1, 12, 13, 14, 15, 16] rfl rfl ?_
                          exact ih6 (i + 1) _ (by omega) (by exact gWo_no hn hno rfl) (by exact xor_step hl (fun z => by have z := (mw_tog hw1.1 i hno).mpr z; exact ⟨fun q => by omega, fun q => by omega⟩) (fun z => by have z := fun y => z ((mw_tog hw1.1 i hno).mp y); omega)) (by omega)
                      · skip
                        refine g_iload rfl rfl ?_
                        refine g_if_eq_f rfl (by omega) ?_
                        refine g_lload rfl rfl ?_
                        refine g_lconst0 rfl ?_
                        refine g_lc_ge rfl rfl (fun cq245 => ?_) (fun cq245 => ?_)
                        · skip
                          refine g_iconst rfl ?_
                          refine g_icmp_eq rfl (fun cq254 => ?_) (fun cq254 => ?_)
                          · skip
                            refine g_iconst rfl ?_
                            refine g_istore (l1 := [(8, aI 0), (24, aI 1), (23, aI 1), (22, aI 0), (20, aJ (((((gx S p i) * w1) - x) * (((gy S p (gAft S p i)) * w1) - y)) - ((((gy S p i) * w1) - y) * (((gx S p (gAft S p i)) * w1) - x)))), (18, aJ (((gy S p (gAft S p i)) * w1) - y)), (16, aJ (((gx S p (gAft S p i)) * w1) - x)), (14, aJ (((gy S p i) * w1) - y)), (12, aJ (((gx S p i) * w1) - x)), (11, aI (((12 * p + (gAft S p i) : Nat) : Int))), (10, aI ((12 * p + i : Int))), (9, aI ((i : Int))), (0, aO (some o)), (1, aI ((p : Int))), (2, aJ x), (4, aJ y), (6, aJ w1)]) rfl rfl ?_
                            refine g_iinc (l1 := [(9, aI ((i : Int) + 1)), (8, aI 0), (24, aI 1), (23, aI 1), (22, aI 0), (20, aJ (((((gx S p i) * w1) - x) * (((gy S p (gAft S p i)) * w1) - y)) - ((((gy S p i) * w1) - y) * (((gx S p (gAft S p i)) * w1) - x)))), (18, aJ (((gy S p (gAft S p i)) * w1) - y)), (16, aJ (((gx S p (gAft S p i)) * w1) - x)), (14, aJ (((gy S p i) * w1) - y)), (12, aJ (((gx S p i) * w1) - x)), (11, aI (((12 * p + (gAft S p i) : Nat) : Int))), (10, aI ((12 * p + i : Int))), (0, aO (some o)), (1, aI ((p : Int))), (2, aJ x), (4, aJ y), (6, aJ w1)]) rfl rfl (by omega) (by omega) rfl ?_
                            refine g_goto rfl ?_
                            refine g_ls [0, 1, 12, 13, 14, 15, 16] rfl rfl ?_
                            exact ih6 (i + 1) _ (by omega) (by exact gWo_no hn hno rfl) (by exact xor_step hl (fun z => by have z := (mw_tog hw1.1 i hno).mpr z; exact ⟨fun q => by omega, fun q => by omega⟩) (fun z => by have z := fun y => z ((mw_tog hw1.1 i hno).mp y); omega)) (by omega)
                          · skip
                            refine g_iconst rfl ?_
                            refine g_goto rfl ?_
                            refine g_istore (l1 := [(8, aI 1), (24, aI 1), (23, aI 1), (22, aI 0), (20, aJ (((((gx S p i) * w1) - x) * (((gy S p (gAft S p i)) * w1) - y)) - ((((gy S p i) * w1) - y) * (((gx S p (gAft S p i)) * w1) - x)))), (18, aJ (((gy S p (gAft S p i)) * w1) - y)), (16, aJ (((gx S p (gAft S p i)) * w1) - x)), (14, aJ (((gy S p i) * w1) - y)), (12, aJ (((gx S p i) * w1) - x)), (11, aI (((12 * p + (gAft S p i) : Nat) : Int))), (10, aI ((12 * p + i : Int))), (9, aI ((i : Int))), (0, aO (some o)), (1, aI ((p : Int))), (2, aJ x), (4, aJ y), (6, aJ w1)]) rfl rfl ?_
                            refine g_iinc (l1 := [(9, aI ((i : Int) + 1)), (8, aI 1), (24, aI 1), (23, aI 1), (22, aI 0), (20, aJ (((((gx S p i) * w1) - x) * (((gy S p (gAft S p i)) * w1) - y)) - ((((gy S p i) * w1) - y) * (((gx S p (gAft S p i)) * w1) - x)))), (18, aJ (((gy S p (gAft S p i)) * w1) - y)), (16, aJ (((gx S p (gAft S p i)) * w1) - x)), (14, aJ (((gy S p i) * w1) - y)), (12, aJ (((gx S p i) * w1) - x)), (11, aI (((12 * p + (gAft S p i) : Nat) : Int))), (10, aI ((12 * p + i : Int))), (0, aO (some o)), (1, aI ((p : Int))), (2, aJ x), (4, aJ y), (6, aJ w1)]) rfl rfl (by omega) (by omega) rfl ?_
                            refine g_goto rfl ?_
                            refine g_ls [0, 1, 12, 13, 14, 15, 16] rfl rfl ?_
                            exact ih6 (i + 1) _ (by omega) (by exact gWo_no hn hno rfl) (by exact xor_step hl (fun z => by have z := (mw_tog hw1.1 i hno).mpr z; exact ⟨fun q => by omega, fun q => by omega⟩) (fun z => by have z := fun y => z ((mw_tog hw1.1 i hno).mp y); omega)) (by omega)
                        · skip
                          refine g_iconst rfl ?_
                          refine g_goto rfl ?_
                          refine g_icmp_eq rfl (fun cq254 => ?_) (fun cq254 => ?_)
                          · skip
                            refine g_iconst rfl ?_
                            refine g_istore (l1 := [(8, aI 0), (24, aI 1), (23, aI 1), (22, aI 0), (20, aJ (((((gx S p i) * w1) - x) * (((gy S p (gAft S p i)) * w1) - y)) - ((((gy S p i) * w1) - y) * (((gx S p (gAft S p i)) * w1) - x)))), (18, aJ (((gy S p (gAft S p i)) * w1) - y)), (16, aJ (((gx S p (gAft S p i)) * w1) - x)), (14, aJ (((gy S p i) * w1) - y)), (12, aJ (((gx S p i) * w1) - x)), (11, aI (((12 * p + (gAft S p i) : Nat) : Int))), (10, aI ((12 * p + i : Int))), (9, aI ((i : Int))), (0, aO (some o)), (1, aI ((p : Int))), (2, aJ x), (4, aJ y), (6, aJ w1)]) rfl rfl ?_
                            refine g_iinc (l1 := [(9, aI ((i : Int) + 1)), (8, aI 0), (24, aI 1), (23, aI 1), (22, aI 0), (20, aJ (((((gx S p i) * w1) - x) * (((gy S p (gAft S p i)) * w1) - y)) - ((((gy S p i) * w1) - y) * (((gx S p (gAft S p i)) * w1) - x)))), (18, aJ (((gy S p (gAft S p i)) * w1) - y)), (16, aJ (((gx S p (gAft S p i)) * w1) - x)), (14, aJ (((gy S p i) * w1) - y)), (12, aJ (((gx S p i) * w1) - x)), (11, aI (((12 * p + (gAft S p i) : Nat) : Int))), (10, aI ((12 * p + i : Int))), (0, aO (some o)), (1, aI ((p : Int))), (2, aJ x), (4, aJ y), (6, aJ w1)]) rfl rfl (by omega) (by omega) rfl ?_
                            refine g_goto rfl ?_
                            refine g_ls [0, 1, 12, 13, 14, 15, 16] rfl rfl ?_
                            exact ih6 (i + 1) _ (by omega) (by exact gWo_no hn hno rfl) (by exact xor_step hl (fun z => by have z := (mw_tog hw1.1 i hno).mpr z; exact ⟨fun q => by omega, fun q => by omega⟩) (fun z => by have z := fun y => z ((mw_tog hw1.1 i hno).mp y); omega)) (by omega)
                          · skip
                            refine g_iconst rfl ?_
                            refine g_goto rfl ?_
                            refine g_istore (l1 := [(8, aI 1), (24, aI 1), (23, aI 1), (22, aI 0), (20, aJ (((((gx S p i) * w1) - x) * (((gy S p (gAft S p i)) * w1) - y)) - ((((gy S p i) * w1) - y) * (((gx S p (gAft S p i)) * w1) - x)))), (18, aJ (((gy S p (gAft S p i)) * w1) - y)), (16, aJ (((gx S p (gAft S p i)) * w1) - x)), (14, aJ (((gy S p i) * w1) - y)), (12, aJ (((gx S p i) * w1) - x)), (11, aI (((12 * p + (gAft S p i) : Nat) : Int))), (10, aI ((12 * p + i : Int))), (9, aI ((i : Int))), (0, aO (some o)), (1, aI ((p : Int))), (2, aJ x), (4, aJ y), (6, aJ w1)]) rfl rfl ?_
                            refine g_iinc (l1 := [(9, aI ((i : Int) + 1)), (8, aI 1), (24, aI 1), (23, aI 1), (22, aI 0), (20, aJ (((((gx S p i) * w1) - x) * (((gy S p (gAft S p i)) * w1) - y)) - ((((gy S p i) * w1) - y) * (((gx S p (gAft S p i)) * w1) - x)))), (18, aJ (((gy S p (gAft S p i)) * w1) - y)), (16, aJ (((gx S p (gAft S p i)) * w1) - x)), (14, aJ (((gy S p i) * w1) - y)), (12, aJ (((gx S p i) * w1) - x)), (11, aI (((12 * p + (gAft S p i) : Nat) : Int))), (10, aI ((12 * p + i : Int))), (0, aO (some o)), (1, aI ((p : Int))), (2, aJ x), (4, aJ y), (6, aJ w1)]) rfl rfl (by omega) (by omega) rfl ?_
                            refine g_goto rfl ?_
                            refine g_ls [0, 1, 12, 13, 14, 15, 16] rfl rfl ?_
                            exact ih6 (i + 1) _ (by omega) (by exact gWo_no hn hno rfl) (by exact xor_step hl (fun z => by have z := (mw_tog hw1.1 i hno).mpr z; exact ⟨fun q => by omega, fun q => by omega⟩) (fun z => by have z := fun y => z ((mw_tog hw1.1 i hno).mp y); omega)) (by omega)
            · skip
              refine g_lload rfl rfl ?_
              refine g_lload rfl rfl ?_
              refine g_callSJ [aJ (((gy S p i) * w1) - y), aJ (((gy S p (gAft S p i)) * w1) - y)] [] rfl rfl rfl rfl (Nat.le_of_ble_eq_true rfl) (c_les (by omega) (((gy S p i) * w1) - y) (((gy S p (gAft S p i)) * w1) - y) _) ?_
              rintro r5 hx5 ⟨ehx5, rfl⟩
              rw [ehx5]
              clear ehx5 hx5
              refine g_lconst0 rfl ?_
              refine g_lc_gt rfl rfl (fun cq151 => ?_) (fun cq151 => ?_)
              · skip
                refine g_iconst rfl ?_
                refine g_istore (l1 := [(22, aI 0), (20, aJ (((((gx S p i) * w1) - x) * (((gy S p (gAft S p i)) * w1) - y)) - ((((gy S p i) * w1) - y) * (((gx S p (gAft S p i)) * w1) - x)))), (18, aJ (((gy S p (gAft S p i)) * w1) - y)), (16, aJ (((gx S p (gAft S p i)) * w1) - x)), (14, aJ (((gy S p i) * w1) - y)), (12, aJ (((gx S p i) * w1) - x)), (11, aI (((12 * p + (gAft S p i) : Nat) : Int))), (10, aI ((12 * p + i : Int))), (9, aI ((i : Int))), (8, aI l), (0, aO (some o)), (1, aI ((p : Int))), (2, aJ x), (4, aJ y), (6, aJ w1)]) rfl rfl ?_
                refine g_iload rfl rfl ?_
                refine g_if_eq_t rfl (by omega) ?_
                have hno : ¬ gWon S p x y w1 i := fun z => by
                  have z := (mw_on hw1.1 i).mpr z
                  unfold mWon oneS at z
                  have z1 := z.1
                  have z2 := z.2.1
                  have z3 := z.2.2
                  omega
                refine g_lload rfl rfl ?_
                refine g_lconst0 rfl ?_
                refine g_lc_gt rfl rfl (fun cq184 => ?_) (fun cq184 => ?_)
                · skip
                  refine g_iconst rfl ?_
                  refine g_istore (l1 := [(23, aI 0), (22, aI 0), (20, aJ (((((gx S p i) * w1) - x) * (((gy S p (gAft S p i)) * w1) - y)) - ((((gy S p i) * w1) - y) * (((gx S p (gAft S p i)) * w1) - x)))), (18, aJ (((gy S p (gAft S p i)) * w1) - y)), (16, aJ (((gx S p (gAft S p i)) * w1) - x)), (14, aJ (((gy S p i) * w1) - y)), (12, aJ (((gx S p i) * w1) - x)), (11, aI (((12 * p + (gAft S p i) : Nat) : Int))), (10, aI ((12 * p + i : Int))), (9, aI ((i : Int))), (8, aI l), (0, aO (some o)), (1, aI ((p : Int))), (2, aJ x), (4, aJ y), (6, aJ w1)]) rfl rfl ?_
                  refine g_lload rfl rfl ?_
                  refine g_lconst0 rfl ?_
                  refine g_lc_gt rfl rfl (fun cq205 => ?_) (fun cq205 => ?_)
                  · skip
                    refine g_iconst rfl ?_
                    refine g_istore (l1 := [(24, aI 0), (23, aI 0), (22, aI 0), (20, aJ (((((gx S p i) * w1) - x) * (((gy S p (gAft S p i)) * w1) - y)) - ((((gy S p i) * w1) - y) * (((gx S p (gAft S p i)) * w1) - x)))), (18, aJ (((gy S p (gAft S p i)) * w1) - y)), (16, aJ (((gx S p (gAft S p i)) * w1) - x)), (14, aJ (((gy S p i) * w1) - y)), (12, aJ (((gx S p i) * w1) - x)), (11, aI (((12 * p + (gAft S p i) : Nat) : Int))), (10, aI ((12 * p + i : Int))), (9, aI ((i : Int))), (8, aI l), (0, aO (some o)), (1, aI ((p : Int))), (2, aJ x), (4, aJ y), (6, aJ w1)]) rfl rfl ?_
                    refine g_iload rfl rfl ?_
                    refine g_iload rfl rfl ?_
                    refine g_if_eq_t rfl (by omega) ?_
                    refine g_iload rfl rfl ?_
                    refine g_if_eq_t rfl (by omega) ?_
                    refine g_iconst rfl ?_
                    refine g_icmp_eq rfl (fun cq254 => ?_) (fun cq254 => ?_)
                    · skip
                      refine g_iconst rfl ?_
                      refine g_istore (l1 := [(8, aI 0), (24, aI 0), (23, aI 0), (22, aI 0), (20, aJ (((((gx S p i) * w1) - x) * (((gy S p (gAft S p i)) * w1) - y)) - ((((gy S p i) * w1) - y) * (((gx S p (gAft S p i)) * w1) - x)))), (18, aJ (((gy S p (gAft S p i)) * w1) - y)), (16, aJ (((gx S p (gAft S p i)) * w1) - x)), (14, aJ (((gy S p i) * w1) - y)), (12, aJ (((gx S p i) * w1) - x)), (11, aI (((12 * p + (gAft S p i) : Nat) : Int))), (10, aI ((12 * p + i : Int))), (9, aI ((i : Int))), (0, aO (some o)), (1, aI ((p : Int))), (2, aJ x), (4, aJ y), (6, aJ w1)]) rfl rfl ?_
                      refine g_iinc (l1 := [(9, aI ((i : Int) + 1)), (8, aI 0), (24, aI 0), (23, aI 0), (22, aI 0), (20, aJ (((((gx S p i) * w1) - x) * (((gy S p (gAft S p i)) * w1) - y)) - ((((gy S p i) * w1) - y) * (((gx S p (gAft S p i)) * w1) - x)))), (18, aJ (((gy S p (gAft S p i)) * w1) - y)), (16, aJ (((gx S p (gAft S p i)) * w1) - x)), (14, aJ (((gy S p i) * w1) - y)), (12, aJ (((gx S p i) * w1) - x)), (11, aI (((12 * p + (gAft S p i) : Nat) : Int))), (10, aI ((12 * p + i : Int))), (0, aO (some o)), (1, aI ((p : Int))), (2, aJ x), (4, aJ y), (6, aJ w1)]) rfl rfl (by omega) (by omega) rfl ?_
                      refine g_goto rfl ?_
                      refine g_ls [0, 1, 12, 13, 14, 15, 16] rfl rfl ?_
                      exact ih6 (i + 1) _ (by omega) (by exact gWo_no hn hno rfl) (by exact xor_step hl (fun z => by have z := (mw_tog hw1.1 i hno).mpr z; exact ⟨fun q => by omega, fun q => by omega⟩) (fun z => by have z := fun y => z ((mw_tog hw1.1 i hno).mp y); omega)) (by omega)
                    · skip
                      refine g_iconst rfl ?_
                      refine g_goto rfl ?_
                      refine g_istore (l1 := [(8, aI 1), (24, aI 0), (23, aI 0), (22, aI 0), (20, aJ (((((gx S p i) * w1) - x) * (((gy S p (gAft S p i)) * w1) - y)) - ((((gy S p i) * w1) - y) * (((gx S p (gAft S p i)) * w1) - x)))), (18, aJ (((gy S p (gAft S p i)) * w1) - y)), (16, aJ (((gx S p (gAft S p i)) * w1) - x)), (14, aJ (((gy S p i) * w1) - y)), (12, aJ (((gx S p i) * w1) - x)), (11, aI (((12 * p + (gAft S p i) : Nat) : Int))), (10, aI ((12 * p + i : Int))), (9, aI ((i : Int))), (0, aO (some o)), (1, aI ((p : Int))), (2, aJ x), (4, aJ y), (6, aJ w1)]) rfl rfl ?_
                      refine g_iinc (l1 := [(9, aI ((i : Int) + 1)), (8, aI 1), (24, aI 0), (23, aI 0), (22, aI 0), (20, aJ (((((gx S p i) * w1) - x) * (((gy S p (gAft S p i)) * w1) - y)) - ((((gy S p i) * w1) - y) * (((gx S p (gAft S p i)) * w1) - x)))), (18, aJ (((gy S p (gAft S p i)) * w1) - y)), (16, aJ (((gx S p (gAft S p i)) * w1) - x)), (14, aJ (((gy S p i) * w1) - y)), (12, aJ (((gx S p i) * w1) - x)), (11, aI (((12 * p + (gAft S p i) : Nat) : Int))), (10, aI ((12 * p + i : Int))), (0, aO (some o)), (1, aI ((p : Int))), (2, aJ x), (4, aJ y), (6, aJ w1)]) rfl rfl (by omega) (by omega) rfl ?_
                      refine g_goto rfl ?_
                      refine g_ls [0, 1, 12, 13, 14, 15, 16] rfl rfl ?_
                      exact ih6 (i + 1) _ (by omega) (by exact gWo_no hn hno rfl) (by exact xor_step hl (fun z => by have z := (mw_tog hw1.1 i hno).mpr z; exact ⟨fun q => by omega, fun q => by omega⟩) (fun z => by have z := fun y => z ((mw_tog hw1.1 i hno).mp y); omega)) (by omega)
                  · skip
                    refine g_lload rfl rfl ?_
                    refine g_lconst0 rfl ?_
                    refine g_lc_le rfl rfl (fun cq212 => ?_) (fun cq212 => ?_)
                    · skip
                      refine g_iconst rfl ?_
                      refine g_istore (l1 := [(24, aI 0), (23, aI 0), (22, aI 0), (20, aJ (((((gx S p i) * w1) - x) * (((gy S p (gAft S p i)) * w1) - y)) - ((((gy S p i) * w1) - y) * (((gx S p (gAft S p i)) * w1) - x)))), (18, aJ (((gy S p (gAft S p i)) * w1) - y)), (16, aJ (((gx S p (gAft S p i)) * w1) - x)), (14, aJ (((gy S p i) * w1) - y)), (12, aJ (((gx S p i) * w1) - x)), (11, aI (((12 * p + (gAft S p i) : Nat) : Int))), (10, aI ((12 * p + i : Int))), (9, aI ((i : Int))), (8, aI l), (0, aO (some o)), (1, aI ((p : Int))), (2, aJ x), (4, aJ y), (6, aJ w1)]) rfl rfl ?_
                      refine g_iload rfl rfl ?_
                      refine g_iload rfl rfl ?_
                      refine g_if_eq_t rfl (by omega) ?_
                      refine g_iload rfl rfl ?_
                      refine g_if_eq_t rfl (by omega) ?_
                      refine g_iconst rfl ?_
                      refine g_icmp_eq rfl (fun cq254 => ?_) (fun cq254 => ?_)
                      · skip
                        refine g_iconst rfl ?_
                        refine g_istore (l1 := [(8, aI 0), (24, aI 0), (23, aI 0), (22, aI 0), (20, aJ (((((gx S p i) * w1) - x) * (((gy S p (gAft S p i)) * w1) - y)) - ((((gy S p i) * w1) - y) * (((gx S p (gAft S p i)) * w1) - x)))), (18, aJ (((gy S p (gAft S p i)) * w1) - y)), (16, aJ (((gx S p (gAft S p i)) * w1) - x)), (14, aJ (((gy S p i) * w1) - y)), (12, aJ (((gx S p i) * w1) - x)), (11, aI (((12 * p + (gAft S p i) : Nat) : Int))), (10, aI ((12 * p + i : Int))), (9, aI ((i : Int))), (0, aO (some o)), (1, aI ((p : Int))), (2, aJ x), (4, aJ y), (6, aJ w1)]) rfl rfl ?_
                        refine g_iinc (l1 := [(9, aI ((i : Int) + 1)), (8, aI 0), (24, aI 0), (23, aI 0), (22, aI 0), (20, aJ (((((gx S p i) * w1) - x) * (((gy S p (gAft S p i)) * w1) - y)) - ((((gy S p i) * w1) - y) * (((gx S p (gAft S p i)) * w1) - x)))), (18, aJ (((gy S p (gAft S p i)) * w1) - y)), (16, aJ (((gx S p (gAft S p i)) * w1) - x)), (14, aJ (((gy S p i) * w1) - y)), (12, aJ (((gx S p i) * w1) - x)), (11, aI (((12 * p + (gAft S p i) : Nat) : Int))), (10, aI ((12 * p + i : Int))), (0, aO (some o)), (1, aI ((p : Int))), (2, aJ x), (4, aJ y), (6, aJ w1)]) rfl rfl (by omega) (by omega) rfl ?_
                        refine g_goto rfl ?_
                        refine g_ls [0, 1, 12, 13, 14, 15, 16] rfl rfl ?_
                        exact ih6 (i + 1) _ (by omega) (by exact gWo_no hn hno rfl) (by exact xor_step hl (fun z => by have z := (mw_tog hw1.1 i hno).mpr z; exact ⟨fun q => by omega, fun q => by omega⟩) (fun z => by have z := fun y => z ((mw_tog hw1.1 i hno).mp y); omega)) (by omega)
                      · skip
                        refine g_iconst rfl ?_
                        refine g_goto rfl ?_
                        refine g_istore (l1 := [(8, aI 1), (24, aI 0), (23, aI 0), (22, aI 0), (20, aJ (((((gx S p i) * w1) - x) * (((gy S p (gAft S p i)) * w1) - y)) - ((((gy S p i) * w1) - y) * (((gx S p (gAft S p i)) * w1) - x)))), (18, aJ (((gy S p (gAft S p i)) * w1) - y)), (16, aJ (((gx S p (gAft S p i)) * w1) - x)), (14, aJ (((gy S p i) * w1) - y)), (12, aJ (((gx S p i) * w1) - x)), (11, aI (((12 * p + (gAft S p i) : Nat) : Int))), (10, aI ((12 * p + i : Int))), (9, aI ((i : Int))), (0, aO (some o)), (1, aI ((p : Int))), (2, aJ x), (4, aJ y), (6, aJ w1)]) rfl rfl ?_
                        refine g_iinc (l1 := [(9, aI ((i : Int) + 1)), (8, aI 1), (24, aI 0), (23, aI 0), (22, aI 0), (20, aJ (((((gx S p i) * w1) - x) * (((gy S p (gAft S p i)) * w1) - y)) - ((((gy S p i) * w1) - y) * (((gx S p (gAft S p i)) * w1) - x)))), (18, aJ (((gy S p (gAft S p i)) * w1) - y)), (16, aJ (((gx S p (gAft S p i)) * w1) - x)), (14, aJ (((gy S p i) * w1) - y)), (12, aJ (((gx S p i) * w1) - x)), (11, aI (((12 * p + (gAft S p i) : Nat) : Int))), (10, aI ((12 * p + i : Int))), (0, aO (some o)), (1, aI ((p : Int))), (2, aJ x), (4, aJ y), (6, aJ w1)]) rfl rfl (by omega) (by omega) rfl ?_
                        refine g_goto rfl ?_
                        refine g_ls [0, 1, 12, 13, 14, 15, 16] rfl rfl ?_
                        exact ih6 (i + 1) _ (by omega) (by exact gWo_no hn hno rfl) (by exact xor_step hl (fun z => by have z := (mw_tog hw1.1 i hno).mpr z; exact ⟨fun q => by omega, fun q => by omega⟩) (fun z => by have z := fun y => z ((mw_tog hw1.1 i hno).mp y); omega)) (by omega)
                    · skip
                      refine g_iconst rfl ?_
                      refine g_goto rfl ?_
                      refine g_istore (l1 := [(24, aI 1), (23, aI 0), (22, aI 0), (20, aJ (((((gx S p i) * w1) - x) * (((gy S p (gAft S p i)) * w1) - y)) - ((((gy S p i) * w1) - y) * (((gx S p (gAft S p i)) * w1) - x)))), (18, aJ (((gy S p (gAft S p i)) * w1) - y)), (16, aJ (((gx S p (gAft S p i)) * w1) - x)), (14, aJ (((gy S p i) * w1) - y)), (12, aJ (((gx S p i) * w1) - x)), (11, aI (((12 * p + (gAft S p i) : Nat) : Int))), (10, aI ((12 * p + i : Int))), (9, aI ((i : Int))), (8, aI l), (0, aO (some o)), (1, aI ((p : Int))), (2, aJ x), (4, aJ y), (6, aJ w1)]) rfl rfl ?_
                      refine g_iload rfl rfl ?_
                      refine g_iload rfl rfl ?_
                      refine g_if_eq_t rfl (by omega) ?_
                      refine g_iload rfl rfl ?_
                      refine g_if_eq_f rfl (by omega) ?_
                      refine g_lload rfl rfl ?_
                      refine g_lconst0 rfl ?_
                      refine g_lc_ge rfl rfl (fun cq245 => ?_) (fun cq245 => ?_)
                      · skip
                        refine g_iconst rfl ?_
                        refine g_icmp_eq rfl (fun cq254 => ?_) (fun cq254 => ?_)
                        · skip
                          refine g_iconst rfl ?_
                          refine g_istore (l1 := [(8, aI 0), (24, aI 1), (23, aI 0), (22, aI 0), (20, aJ (((((gx S p i) * w1) - x) * (((gy S p (gAft S p i)) * w1) - y)) - ((((gy S p i) * w1) - y) * (((gx S p (gAft S p i)) * w1) - x)))), (18, aJ (((gy S p (gAft S p i)) * w1) - y)), (16, aJ (((gx S p (gAft S p i)) * w1) - x)), (14, aJ (((gy S p i) * w1) - y)), (12, aJ (((gx S p i) * w1) - x)), (11, aI (((12 * p + (gAft S p i) : Nat) : Int))), (10, aI ((12 * p + i : Int))), (9, aI ((i : Int))), (0, aO (some o)), (1, aI ((p : Int))), (2, aJ x), (4, aJ y), (6, aJ w1)]) rfl rfl ?_
                          refine g_iinc (l1 := [(9, aI ((i : Int) + 1)), (8, aI 0), (24, aI 1), (23, aI 0), (22, aI 0), (20, aJ (((((gx S p i) * w1) - x) * (((gy S p (gAft S p i)) * w1) - y)) - ((((gy S p i) * w1) - y) * (((gx S p (gAft S p i)) * w1) - x)))), (18, aJ (((gy S p (gAft S p i)) * w1) - y)), (16, aJ (((gx S p (gAft S p i)) * w1) - x)), (14, aJ (((gy S p i) * w1) - y)), (12, aJ (((gx S p i) * w1) - x)), (11, aI (((12 * p + (gAft S p i) : Nat) : Int))), (10, aI ((12 * p + i : Int))), (0, aO (some o)), (1, aI ((p : Int))), (2, aJ x), (4, aJ y), (6, aJ w1)]) rfl rfl (by omega) (by omega) rfl ?_
                          refine g_goto rfl ?_
                          refine g_ls [0, 1, 12, 13, 14, 15, 16] rfl rfl ?_
                          exact ih6 (i + 1) _ (by omega) (by exact gWo_no hn hno rfl) (by exact xor_step hl (fun z => by have z := (mw_tog hw1.1 i hno).mpr z; exact ⟨fun q => by omega, fun q => by omega⟩) (fun z => by have z := fun y => z ((mw_tog hw1.1 i hno).mp y); omega)) (by omega)
                        · skip
                          refine g_iconst rfl ?_
                          refine g_goto rfl ?_
                          refine g_istore (l1 := [(8, aI 1), (24, aI 1), (23, aI 0), (22, aI 0), (20, aJ (((((gx S p i) * w1) - x) * (((gy S p (gAft S p i)) * w1) - y)) - ((((gy S p i) * w1) - y) * (((gx S p (gAft S p i)) * w1) - x)))), (18, aJ (((gy S p (gAft S p i)) * w1) - y)), (16, aJ (((gx S p (gAft S p i)) * w1) - x)), (14, aJ (((gy S p i) * w1) - y)), (12, aJ (((gx S p i) * w1) - x)), (11, aI (((12 * p + (gAft S p i) : Nat) : Int))), (10, aI ((12 * p + i : Int))), (9, aI ((i : Int))), (0, aO (some o)), (1, aI ((p : Int))), (2, aJ x), (4, aJ y), (6, aJ w1)]) rfl rfl ?_
                          refine g_iinc (l1 := [(9, aI ((i : Int) + 1)), (8, aI 1), (24, aI 1), (23, aI 0), (22, aI 0), (20, aJ (((((gx S p i) * w1) - x) * (((gy S p (gAft S p i)) * w1) - y)) - ((((gy S p i) * w1) - y) * (((gx S p (gAft S p i)) * w1) - x)))), (18, aJ (((gy S p (gAft S p i)) * w1) - y)), (16, aJ (((gx S p (gAft S p i)) * w1) - x)), (14, aJ (((gy S p i) * w1) - y)), (12, aJ (((gx S p i) * w1) - x)), (11, aI (((12 * p + (gAft S p i) : Nat) : Int))), (10, aI ((12 * p + i : Int))), (0, aO (some o)), (1, aI ((p : Int))), (2, aJ x), (4, aJ y), (6, aJ w1)]) rfl rfl (by omega) (by omega) rfl ?_
                          refine g_goto rfl ?_
                          refine g_ls [0, 1, 12, 13, 14, 15, 16] rfl rfl ?_
                          exact ih6 (i + 1) _ (by omega) (by exact gWo_no hn hno rfl) (by exact xor_step hl (fun z => by have z := (mw_tog hw1.1 i hno).mpr z; exact ⟨fun q => by omega, fun q => by omega⟩) (fun z => by have z := fun y => z ((mw_tog hw1.1 i hno).mp y); omega)) (by omega)
                      · skip
                        refine g_iconst rfl ?_
                        refine g_goto rfl ?_
                        refine g_icmp_eq rfl (fun cq254 => ?_) (fun cq254 => ?_)
                        · skip
                          refine g_iconst rfl ?_
                          refine g_istore (l1 := [(8, aI 0), (24, aI 1), (23, aI 0), (22, aI 0), (20, aJ (((((gx S p i) * w1) - x) * (((gy S p (gAft S p i)) * w1) - y)) - ((((gy S p i) * w1) - y) * (((gx S p (gAft S p i)) * w1) - x)))), (18, aJ (((gy S p (gAft S p i)) * w1) - y)), (16, aJ (((gx S p (gAft S p i)) * w1) - x)), (14, aJ (((gy S p i) * w1) - y)), (12, aJ (((gx S p i) * w1) - x)), (11, aI (((12 * p + (gAft S p i) : Nat) : Int))), (10, aI ((12 * p + i : Int))), (9, aI ((i : Int))), (0, aO (some o)), (1, aI ((p : Int))), (2, aJ x), (4, aJ y), (6, aJ w1)]) rfl rfl ?_
                          refine g_iinc (l1 := [(9, aI ((i : Int) + 1)), (8, aI 0), (24, aI 1), (23, aI 0), (22, aI 0), (20, aJ (((((gx S p i) * w1) - x) * (((gy S p (gAft S p i)) * w1) - y)) - ((((gy S p i) * w1) - y) * (((gx S p (gAft S p i)) * w1) - x)))), (18, aJ (((gy S p (gAft S p i)) * w1) - y)), (16, aJ (((gx S p (gAft S p i)) * w1) - x)), (14, aJ (((gy S p i) * w1) - y)), (12, aJ (((gx S p i) * w1) - x)), (11, aI (((12 * p + (gAft S p i) : Nat) : Int))), (10, aI ((12 * p + i : Int))), (0, aO (some o)), (1, aI ((p : Int))), (2, aJ x), (4, aJ y), (6, aJ w1)]) rfl rfl (by omega) (by omega) rfl ?_
                          refine g_goto rfl ?_
                          refine g_ls [0, 1, 12, 13, 14, 15, 16] rfl rfl ?_
                          exact ih6 (i + 1) _ (by omega) (by exact gWo_no hn hno rfl) (by exact xor_step hl (fun z => by have z := (mw_tog hw1.1 i hno).mpr z; exact ⟨fun q => by omega, fun q => by omega⟩) (fun z => by have z := fun y => z ((mw_tog hw1.1 i hno).mp y); omega)) (by omega)
                        · skip
                          refine g_iconst rfl ?_
                          refine g_goto rfl ?_
                          refine g_istore (l1 := [(8, aI 1), (24, aI 1), (23, aI 0), (22, aI 0), (20, aJ (((((gx S p i) * w1) - x) * (((gy S p (gAft S p i)) * w1) - y)) - ((((gy S p i) * w1) - y) * (((gx S p (gAft S p i)) * w1) - x)))), (18, aJ (((gy S p (gAft S p i)) * w1) - y)), (16, aJ (((gx S p (gAft S p i)) * w1) - x)), (14, aJ (((gy S p i) * w1) - y)), (12, aJ (((gx S p i) * w1) - x)), (11, aI (((12 * p + (gAft S p i) : Nat) : Int))), (10, aI ((12 * p + i : Int))), (9, aI ((i : Int))), (0, aO (some o)), (1, aI ((p : Int))), (2, aJ x), (4, aJ y), (6, aJ w1)]) rfl rfl ?_
                          refine g_iinc (l1 := [(9, aI ((i : Int) + 1)), (8, aI 1), (24, aI 1), (23, aI 0), (22, aI 0), (20, aJ (((((gx S p i) * w1) - x) * (((gy S p (gAft S p i)) * w1) - y)) - ((((gy S p i) * w1) - y) * (((gx S p (gAft S p i)) * w1) - x)))), (18, aJ (((gy S p (gAft S p i)) * w1) - y)), (16, aJ (((gx S p (gAft S p i)) * w1) - x)), (14, aJ (((gy S p i) * w1) - y)), (12, aJ (((gx S p i) * w1) - x)), (11, aI (((12 * p + (gAft S p i) : Nat) : Int))), (10, aI ((12 * p + i : Int))), (0, aO (some o)), (1, aI ((p : Int))), (2, aJ x), (4, aJ y), (6, aJ w1)]) rfl rfl (by omega) (by omega) rfl ?_
                          refine g_goto rfl ?_
                          refine g_ls [0, 1, 12, 13, 14, 15, 16] rfl rfl ?_
                          exact ih6 (i + 1) _ (by omega) (by exact gWo_no hn hno rfl) (by exact xor_step hl (fun z => by have z := (mw_tog hw1.1 i hno).mpr z; exact ⟨fun q => by omega, fun q => by omega⟩) (fun z => by have z := fun y => z ((mw_tog hw1.1 i hno).mp y); omega)) (by omega)
                · skip
                  refine g_lload rfl rfl ?_
                  refine g_lconst0 rfl ?_
                  refine g_lc_le rfl rfl (fun cq191 => ?_) (fun cq191 => ?_)
                  · skip
                    refine g_iconst rfl ?_
                    refine g_istore (l1 := [(23, aI 0), (22, aI 0), (20, aJ (((((gx S p i) * w1) - x) * (((gy S p (gAft S p i)) * w1) - y)) - ((((gy S p i) * w1) - y) * (((gx S p (gAft S p i)) * w1) - x)))), (18, aJ (((gy S p (gAft S p i)) * w1) - y)), (16, aJ (((gx S p (gAft S p i)) * w1) - x)), (14, aJ (((gy S p i) * w1) - y)), (12, aJ (((gx S p i) * w1) - x)), (11, aI (((12 * p + (gAft S p i) : Nat) : Int))), (10, aI ((12 * p + i : Int))), (9, aI ((i : Int))), (8, aI l), (0, aO (some o)), (1, aI ((p : Int))), (2, aJ x), (4, aJ y), (6, aJ w1)]) rfl rfl ?_
                    refine g_lload rfl rfl ?_
                    refine g_lconst0 rfl ?_
                    refine g_lc_gt rfl rfl (fun cq205 => ?_) (fun cq205 => ?_)
                    · skip
                      refine g_iconst rfl ?_
                      refine g_istore (l1 := [(24, aI 0), (23, aI 0), (22, aI 0), (20, aJ (((((gx S p i) * w1) - x) * (((gy S p (gAft S p i)) * w1) - y)) - ((((gy S p i) * w1) - y) * (((gx S p (gAft S p i)) * w1) - x)))), (18, aJ (((gy S p (gAft S p i)) * w1) - y)), (16, aJ (((gx S p (gAft S p i)) * w1) - x)), (14, aJ (((gy S p i) * w1) - y)), (12, aJ (((gx S p i) * w1) - x)), (11, aI (((12 * p + (gAft S p i) : Nat) : Int))), (10, aI ((12 * p + i : Int))), (9, aI ((i : Int))), (8, aI l), (0, aO (some o)), (1, aI ((p : Int))), (2, aJ x), (4, aJ y), (6, aJ w1)]) rfl rfl ?_
                      refine g_iload rfl rfl ?_
                      refine g_iload rfl rfl ?_
                      refine g_if_eq_t rfl (by omega) ?_
                      refine g_iload rfl rfl ?_
                      refine g_if_eq_t rfl (by omega) ?_
                      refine g_iconst rfl ?_
                      refine g_icmp_eq rfl (fun cq254 => ?_) (fun cq254 => ?_)
                      · skip
                        refine g_iconst rfl ?_
                        refine g_istore (l1 := [(8, aI 0), (24, aI 0), (23, aI 0), (22, aI 0), (20, aJ (((((gx S p i) * w1) - x) * (((gy S p (gAft S p i)) * w1) - y)) - ((((gy S p i) * w1) - y) * (((gx S p (gAft S p i)) * w1) - x)))), (18, aJ (((gy S p (gAft S p i)) * w1) - y)), (16, aJ (((gx S p (gAft S p i)) * w1) - x)), (14, aJ (((gy S p i) * w1) - y)), (12, aJ (((gx S p i) * w1) - x)), (11, aI (((12 * p + (gAft S p i) : Nat) : Int))), (10, aI ((12 * p + i : Int))), (9, aI ((i : Int))), (0, aO (some o)), (1, aI ((p : Int))), (2, aJ x), (4, aJ y), (6, aJ w1)]) rfl rfl ?_
                        refine g_iinc (l1 := [(9, aI ((i : Int) + 1)), (8, aI 0), (24, aI 0), (23, aI 0), (22, aI 0), (20, aJ (((((gx S p i) * w1) - x) * (((gy S p (gAft S p i)) * w1) - y)) - ((((gy S p i) * w1) - y) * (((gx S p (gAft S p i)) * w1) - x)))), (18, aJ (((gy S p (gAft S p i)) * w1) - y)), (16, aJ (((gx S p (gAft S p i)) * w1) - x)), (14, aJ (((gy S p i) * w1) - y)), (12, aJ (((gx S p i) * w1) - x)), (11, aI (((12 * p + (gAft S p i) : Nat) : Int))), (10, aI ((12 * p + i : Int))), (0, aO (some o)), (1, aI ((p : Int))), (2, aJ x), (4, aJ y), (6, aJ w1)]) rfl rfl (by omega) (by omega) rfl ?_
                        refine g_goto rfl ?_
                        refine g_ls [0, 1, 12, 13, 14, 15, 16] rfl rfl ?_
                        exact ih6 (i + 1) _ (by omega) (by exact gWo_no hn hno rfl) (by exact xor_step hl (fun z => by have z := (mw_tog hw1.1 i hno).mpr z; exact ⟨fun q => by omega, fun q => by omega⟩) (fun z => by have z := fun y => z ((mw_tog hw1.1 i hno).mp y); omega)) (by omega)
                      · skip
                        refine g_iconst rfl ?_
                        refine g_goto rfl ?_
                        refine g_istore (l1 := [(8, aI 1), (24, aI 0), (23, aI 0), (22, aI 0), (20, aJ (((((gx S p i) * w1) - x) * (((gy S p (gAft S p i)) * w1) - y)) - ((((gy S p i) * w1) - y) * (((gx S p (gAft S p i)) * w1) - x)))), (18, aJ (((gy S p (gAft S p i)) * w1) - y)), (16, aJ (((gx S p (gAft S p i)) * w1) - x)), (14, aJ (((gy S p i) * w1) - y)), (12, aJ (((gx S p i) * w1) - x)), (11, aI (((12 * p + (gAft S p i) : Nat) : Int))), (10, aI ((12 * p + i : Int))), (9, aI ((i : Int))), (0, aO (some o)), (1, aI ((p : Int))), (2, aJ x), (4, aJ y), (6, aJ w1)]) rfl rfl ?_
                        refine g_iinc (l1 := [(9, aI ((i : Int) + 1)), (8, aI 1), (24, aI 0), (23, aI 0), (22, aI 0), (20, aJ (((((gx S p i) * w1) - x) * (((gy S p (gAft S p i)) * w1) - y)) - ((((gy S p i) * w1) - y) * (((gx S p (gAft S p i)) * w1) - x)))), (18, aJ (((gy S p (gAft S p i)) * w1) - y)), (16, aJ (((gx S p (gAft S p i)) * w1) - x)), (14, aJ (((gy S p i) * w1) - y)), (12, aJ (((gx S p i) * w1) - x)), (11, aI (((12 * p + (gAft S p i) : Nat) : Int))), (10, aI ((12 * p + i : Int))), (0, aO (some o)), (1, aI ((p : Int))), (2, aJ x), (4, aJ y), (6, aJ w1)]) rfl rfl (by omega) (by omega) rfl ?_
                        refine g_goto rfl ?_
                        refine g_ls [0, 1, 12, 13, 14, 15, 16] rfl rfl ?_
                        exact ih6 (i + 1) _ (by omega) (by exact gWo_no hn hno rfl) (by exact xor_step hl (fun z => by have z := (mw_tog hw1.1 i hno).mpr z; exact ⟨fun q => by omega, fun q => by omega⟩) (fun z => by have z := fun y => z ((mw_tog hw1.1 i hno).mp y); omega)) (by omega)
                    · skip
                      refine g_lload rfl rfl ?_
                      refine g_lconst0 rfl ?_
                      refine g_lc_le rfl rfl (fun cq212 => ?_) (fun cq212 => ?_)
                      · skip
                        refine g_iconst rfl ?_
                        refine g_istore (l1 := [(24, aI 0), (23, aI 0), (22, aI 0), (20, aJ (((((gx S p i) * w1) - x) * (((gy S p (gAft S p i)) * w1) - y)) - ((((gy S p i) * w1) - y) * (((gx S p (gAft S p i)) * w1) - x)))), (18, aJ (((gy S p (gAft S p i)) * w1) - y)), (16, aJ (((gx S p (gAft S p i)) * w1) - x)), (14, aJ (((gy S p i) * w1) - y)), (12, aJ (((gx S p i) * w1) - x)), (11, aI (((12 * p + (gAft S p i) : Nat) : Int))), (10, aI ((12 * p + i : Int))), (9, aI ((i : Int))), (8, aI l), (0, aO (some o)), (1, aI ((p : Int))), (2, aJ x), (4, aJ y), (6, aJ w1)]) rfl rfl ?_
                        refine g_iload rfl rfl ?_
                        refine g_iload rfl rfl ?_
                        refine g_if_eq_t rfl (by omega) ?_
                        refine g_iload rfl rfl ?_
                        refine g_if_eq_t rfl (by omega) ?_
                        refine g_iconst rfl ?_
                        refine g_icmp_eq rfl (fun cq254 => ?_) (fun cq254 => ?_)
                        · skip
                          refine g_iconst rfl ?_
                          refine g_istore (l1 := [(8, aI 0), (24, aI 0), (23, aI 0), (22, aI 0), (20, aJ (((((gx S p i) * w1) - x) * (((gy S p (gAft S p i)) * w1) - y)) - ((((gy S p i) * w1) - y) * (((gx S p (gAft S p i)) * w1) - x)))), (18, aJ (((gy S p (gAft S p i)) * w1) - y)), (16, aJ (((gx S p (gAft S p i)) * w1) - x)), (14, aJ (((gy S p i) * w1) - y)), (12, aJ (((gx S p i) * w1) - x)), (11, aI (((12 * p + (gAft S p i) : Nat) : Int))), (10, aI ((12 * p + i : Int))), (9, aI ((i : Int))), (0, aO (some o)), (1, aI ((p : Int))), (2, aJ x), (4, aJ y), (6, aJ w1)]) rfl rfl ?_
                          refine g_iinc (l1 := [(9, aI ((i : Int) + 1)), (8, aI 0), (24, aI 0), (23, aI 0), (22, aI 0), (20, aJ (((((gx S p i) * w1) - x) * (((gy S p (gAft S p i)) * w1) - y)) - ((((gy S p i) * w1) - y) * (((gx S p (gAft S p i)) * w1) - x)))), (18, aJ (((gy S p (gAft S p i)) * w1) - y)), (16, aJ (((gx S p (gAft S p i)) * w1) - x)), (14, aJ (((gy S p i) * w1) - y)), (12, aJ (((gx S p i) * w1) - x)), (11, aI (((12 * p + (gAft S p i) : Nat) : Int))), (10, aI ((12 * p + i : Int))), (0, aO (some o)), (1, aI ((p : Int))), (2, aJ x), (4, aJ y), (6, aJ w1)]) rfl rfl (by omega) (by omega) rfl ?_
                          refine g_goto rfl ?_
                          refine g_ls [0, 1, 12, 13, 14, 15, 16] rfl rfl ?_
                          exact ih6 (i + 1) _ (by omega) (by exact gWo_no hn hno rfl) (by exact xor_step hl (fun z => by have z := (mw_tog hw1.1 i hno).mpr z; exact ⟨fun q => by omega, fun q => by omega⟩) (fun z => by have z := fun y => z ((mw_tog hw1.1 i hno).mp y); omega)) (by omega)
                        · skip
                          refine g_iconst rfl ?_
                          refine g_goto rfl ?_
                          refine g_istore (l1 := [(8, aI 1), (24, aI 0), (23, aI 0), (22, aI 0), (20, aJ (((((gx S p i) * w1) - x) * (((gy S p (gAft S p i)) * w1) - y)) - ((((gy S p i) * w1) - y) * (((gx S p (gAft S p i)) * w1) - x)))), (18, aJ (((gy S p (gAft S p i)) * w1) - y)), (16, aJ (((gx S p (gAft S p i)) * w1) - x)), (14, aJ (((gy S p i) * w1) - y)), (12, aJ (((gx S p i) * w1) - x)), (11, aI (((12 * p + (gAft S p i) : Nat) : Int))), (10, aI ((12 * p + i : Int))), (9, aI ((i : Int))), (0, aO (some o)), (1, aI ((p : Int))), (2, aJ x), (4, aJ y), (6, aJ w1)]) rfl rfl ?_
                          refine g_iinc (l1 := [(9, aI ((i : Int) + 1)), (8, aI 1), (24, aI 0), (23, aI 0), (22, aI 0), (20, aJ (((((gx S p i) * w1) - x) * (((gy S p (gAft S p i)) * w1) - y)) - ((((gy S p i) * w1) - y) * (((gx S p (gAft S p i)) * w1) - x)))), (18, aJ (((gy S p (gAft S p i)) * w1) - y)), (16, aJ (((gx S p (gAft S p i)) * w1) - x)), (14, aJ (((gy S p i) * w1) - y)), (12, aJ (((gx S p i) * w1) - x)), (11, aI (((12 * p + (gAft S p i) : Nat) : Int))), (10, aI ((12 * p + i : Int))), (0, aO (some o)), (1, aI ((p : Int))), (2, aJ x), (4, aJ y), (6, aJ w1)]) rfl rfl (by omega) (by omega) rfl ?_
                          refine g_goto rfl ?_
                          refine g_ls [0, 1, 12, 13, 14, 15, 16] rfl rfl ?_
                          exact ih6 (i + 1) _ (by omega) (by exact gWo_no hn hno rfl) (by exact xor_step hl (fun z => by have z := (mw_tog hw1.1 i hno).mpr z; exact ⟨fun q => by omega, fun q => by omega⟩) (fun z => by have z := fun y => z ((mw_tog hw1.1 i hno).mp y); omega)) (by omega)
                      · skip
                        refine g_iconst rfl ?_
                        refine g_goto rfl ?_
                        refine g_istore (l1 := [(24, aI 1), (23, aI 0), (22, aI 0), (20, aJ (((((gx S p i) * w1) - x) * (((gy S p (gAft S p i)) * w1) - y)) - ((((gy S p i) * w1) - y) * (((gx S p (gAft S p i)) * w1) - x)))), (18, aJ (((gy S p (gAft S p i)) * w1) - y)), (16, aJ (((gx S p (gAft S p i)) * w1) - x)), (14, aJ (((gy S p i) * w1) - y)), (12, aJ (((gx S p i) * w1) - x)), (11, aI (((12 * p + (gAft S p i) : Nat) : Int))), (10, aI ((12 * p + i : Int))), (9, aI ((i : Int))), (8, aI l), (0, aO (some o)), (1, aI ((p : Int))), (2, aJ x), (4, aJ y), (6, aJ w1)]) rfl rfl ?_
                        refine g_iload rfl rfl ?_
                        refine g_iload rfl rfl ?_
                        refine g_if_eq_t rfl (by omega) ?_
                        refine g_iload rfl rfl ?_
                        refine g_if_eq_f rfl (by omega) ?_
                        refine g_lload rfl rfl ?_
                        refine g_lconst0 rfl ?_
                        refine g_lc_ge rfl rfl (fun cq245 => ?_) (fun cq245 => ?_)
                        · skip
                          refine g_iconst rfl ?_
                          refine g_icmp_eq rfl (fun cq254 => ?_) (fun cq254 => ?_)
                          · skip
                            refine g_iconst rfl ?_
                            refine g_istore (l1 := [(8, aI 0), (24, aI 1), (23, aI 0), (22, aI 0), (20, aJ (((((gx S p i) * w1) - x) * (((gy S p (gAft S p i)) * w1) - y)) - ((((gy S p i) * w1) - y) * (((gx S p (gAft S p i)) * w1) - x)))), (18, aJ (((gy S p (gAft S p i)) * w1) - y)), (16, aJ (((gx S p (gAft S p i)) * w1) - x)), (14, aJ (((gy S p i) * w1) - y)), (12, aJ (((gx S p i) * w1) - x)), (11, aI (((12 * p + (gAft S p i) : Nat) : Int))), (10, aI ((12 * p + i : Int))), (9, aI ((i : Int))), (0, aO (some o)), (1, aI ((p : Int))), (2, aJ x), (4, aJ y), (6, aJ w1)]) rfl rfl ?_
                            refine g_iinc (l1 := [(9, aI ((i : Int) + 1)), (8, aI 0), (24, aI 1), (23, aI 0), (22, aI 0), (20, aJ (((((gx S p i) * w1) - x) * (((gy S p (gAft S p i)) * w1) - y)) - ((((gy S p i) * w1) - y) * (((gx S p (gAft S p i)) * w1) - x)))), (18, aJ (((gy S p (gAft S p i)) * w1) - y)), (16, aJ (((gx S p (gAft S p i)) * w1) - x)), (14, aJ (((gy S p i) * w1) - y)), (12, aJ (((gx S p i) * w1) - x)), (11, aI (((12 * p + (gAft S p i) : Nat) : Int))), (10, aI ((12 * p + i : Int))), (0, aO (some o)), (1, aI ((p : Int))), (2, aJ x), (4, aJ y), (6, aJ w1)]) rfl rfl (by omega) (by omega) rfl ?_
                            refine g_goto rfl ?_
                            refine g_ls [0, 1, 12, 13, 14, 15, 16] rfl rfl ?_
                            exact ih6 (i + 1) _ (by omega) (by exact gWo_no hn hno rfl) (by exact xor_step hl (fun z => by have z := (mw_tog hw1.1 i hno).mpr z; exact ⟨fun q => by omega, fun q => by omega⟩) (fun z => by have z := fun y => z ((mw_tog hw1.1 i hno).mp y); omega)) (by omega)
                          · skip
                            refine g_iconst rfl ?_
                            refine g_goto rfl ?_
                            refine g_istore (l1 := [(8, aI 1), (24, aI 1), (23, aI 0), (22, aI 0), (20, aJ (((((gx S p i) * w1) - x) * (((gy S p (gAft S p i)) * w1) - y)) - ((((gy S p i) * w1) - y) * (((gx S p (gAft S p i)) * w1) - x)))), (18, aJ (((gy S p (gAft S p i)) * w1) - y)), (16, aJ (((gx S p (gAft S p i)) * w1) - x)), (14, aJ (((gy S p i) * w1) - y)), (12, aJ (((gx S p i) * w1) - x)), (11, aI (((12 * p + (gAft S p i) : Nat) : Int))), (10, aI ((12 * p + i : Int))), (9, aI ((i : Int))), (0, aO (some o)), (1, aI ((p : Int))), (2, aJ x), (4, aJ y), (6, aJ w1)]) rfl rfl ?_
                            refine g_iinc (l1 := [(9, aI ((i : Int) + 1)), (8, aI 1), (24, aI 1), (23, aI 0), (22, aI 0), (20, aJ (((((gx S p i) * w1) - x) * (((gy S p (gAft S p i)) * w1) - y)) - ((((gy S p i) * w1) - y) * (((gx S p (gAft S p i)) * w1) - x)))), (18, aJ (((gy S p (gAft S p i)) * w1) - y)), (16, aJ (((gx S p (gAft S p i)) * w1) - x)), (14, aJ (((gy S p i) * w1) - y)), (12, aJ (((gx S p i) * w1) - x)), (11, aI (((12 * p + (gAft S p i) : Nat) : Int))), (10, aI ((12 * p + i : Int))), (0, aO (some o)), (1, aI ((p : Int))), (2, aJ x), (4, aJ y), (6, aJ w1)]) rfl rfl (by omega) (by omega) rfl ?_
                            refine g_goto rfl ?_
                            refine g_ls [0, 1, 12, 13, 14, 15, 16] rfl rfl ?_
                            exact ih6 (i + 1) _ (by omega) (by exact gWo_no hn hno rfl) (by exact xor_step hl (fun z => by have z := (mw_tog hw1.1 i hno).mpr z; exact ⟨fun q => by omega, fun q => by omega⟩) (fun z => by have z := fun y => z ((mw_tog hw1.1 i hno).mp y); omega)) (by omega)
                        · skip
                          refine g_iconst rfl ?_
                          refine g_goto rfl ?_
                          refine g_icmp_eq rfl (fun cq254 => ?_) (fun cq254 => ?_)
                          · skip
                            refine g_iconst rfl ?_
                            refine g_istore (l1 := [(8, aI 0), (24, aI 1), (23, aI 0), (22, aI 0), (20, aJ (((((gx S p i) * w1) - x) * (((gy S p (gAft S p i)) * w1) - y)) - ((((gy S p i) * w1) - y) * (((gx S p (gAft S p i)) * w1) - x)))), (18, aJ (((gy S p (gAft S p i)) * w1) - y)), (16, aJ (((gx S p (gAft S p i)) * w1) - x)), (14, aJ (((gy S p i) * w1) - y)), (12, aJ (((gx S p i) * w1) - x)), (11, aI (((12 * p + (gAft S p i) : Nat) : Int))), (10, aI ((12 * p + i : Int))), (9, aI ((i : Int))), (0, aO (some o)), (1, aI ((p : Int))), (2, aJ x), (4, aJ y), (6, aJ w1)]) rfl rfl ?_
                            refine g_iinc (l1 := [(9, aI ((i : Int) + 1)), (8, aI 0), (24, aI 1), (23, aI 0), (22, aI 0), (20, aJ (((((gx S p i) * w1) - x) * (((gy S p (gAft S p i)) * w1) - y)) - ((((gy S p i) * w1) - y) * (((gx S p (gAft S p i)) * w1) - x)))), (18, aJ (((gy S p (gAft S p i)) * w1) - y)), (16, aJ (((gx S p (gAft S p i)) * w1) - x)), (14, aJ (((gy S p i) * w1) - y)), (12, aJ (((gx S p i) * w1) - x)), (11, aI (((12 * p + (gAft S p i) : Nat) : Int))), (10, aI ((12 * p + i : Int))), (0, aO (some o)), (1, aI ((p : Int))), (2, aJ x), (4, aJ y), (6, aJ w1)]) rfl rfl (by omega) (by omega) rfl ?_
                            refine g_goto rfl ?_
                            refine g_ls [0, 1, 12, 13, 14, 15, 16] rfl rfl ?_
                            exact ih6 (i + 1) _ (by omega) (by exact gWo_no hn hno rfl) (by exact xor_step hl (fun z => by have z := (mw_tog hw1.1 i hno).mpr z; exact ⟨fun q => by omega, fun q => by omega⟩) (fun z => by have z := fun y => z ((mw_tog hw1.1 i hno).mp y); omega)) (by omega)
                          · skip
                            refine g_iconst rfl ?_
                            refine g_goto rfl ?_
                            refine g_istore (l1 := [(8, aI 1), (24, aI 1), (23, aI 0), (22, aI 0), (20, aJ (((((gx S p i) * w1) - x) * (((gy S p (gAft S p i)) * w1) - y)) - ((((gy S p i) * w1) - y) * (((gx S p (gAft S p i)) * w1) - x)))), (18, aJ (((gy S p (gAft S p i)) * w1) - y)), (16, aJ (((gx S p (gAft S p i)) * w1) - x)), (14, aJ (((gy S p i) * w1) - y)), (12, aJ (((gx S p i) * w1) - x)), (11, aI (((12 * p + (gAft S p i) : Nat) : Int))), (10, aI ((12 * p + i : Int))), (9, aI ((i : Int))), (0, aO (some o)), (1, aI ((p : Int))), (2, aJ x), (4, aJ y), (6, aJ w1)]) rfl rfl ?_
                            refine g_iinc (l1 := [(9, aI ((i : Int) + 1)), (8, aI 1), (24, aI 1), (23, aI 0), (22, aI 0), (20, aJ (((((gx S p i) * w1) - x) * (((gy S p (gAft S p i)) * w1) - y)) - ((((gy S p i) * w1) - y) * (((gx S p (gAft S p i)) * w1) - x)))), (18, aJ (((gy S p (gAft S p i)) * w1) - y)), (16, aJ (((gx S p (gAft S p i)) * w1) - x)), (14, aJ (((gy S p i) * w1) - y)), (12, aJ (((gx S p i) * w1) - x)), (11, aI (((12 * p + (gAft S p i) : Nat) : Int))), (10, aI ((12 * p + i : Int))), (0, aO (some o)), (1, aI ((p : Int))), (2, aJ x), (4, aJ y), (6, aJ w1)]) rfl rfl (by omega) (by omega) rfl ?_
                            refine g_goto rfl ?_
                            refine g_ls [0, 1, 12, 13, 14, 15, 16] rfl rfl ?_
                            exact ih6 (i + 1) _ (by omega) (by exact gWo_no hn hno rfl) (by exact xor_step hl (fun z => by have z := (mw_tog hw1.1 i hno).mpr z; exact ⟨fun q => by omega, fun q => by omega⟩) (fun z => by have z := fun y => z ((mw_tog hw1.1 i hno).mp y); omega)) (by omega)
                  · skip
                    refine g_iconst rfl ?_
                    refine g_goto rfl ?_
                    refine g_istore (l1 := [(23, aI 1), (22, aI 0), (20, aJ (((((gx S p i) * w1) - x) * (((gy S p (gAft S p i)) * w1) - y)) - ((((gy S p i) * w1) - y) * (((gx S p (gAft S p i)) * w1) - x)))), (18, aJ (((gy S p (gAft S p i)) * w1) - y)), (16, aJ (((gx S p (gAft S p i)) * w1) - x)), (14, aJ (((gy S p i) * w1) - y)), (12, aJ (((gx S p i) * w1) - x)), (11, aI (((12 * p + (gAft S p i) : Nat) : Int))), (10, aI ((12 * p + i : Int))), (9, aI ((i : Int))), (8, aI l), (0, aO (some o)), (1, aI ((p : Int))), (2, aJ x), (4, aJ y), (6, aJ w1)]) rfl rfl ?_
                    refine g_lload rfl rfl ?_
                    refine g_lconst0 rfl ?_
                    refine g_lc_gt rfl rfl (fun cq205 => ?_) (fun cq205 => ?_)
                    · skip
                      refine g_iconst rfl ?_
                      refine g_istore (l1 := [(24, aI 0), (23, aI 1), (22, aI 0), (20, aJ (((((gx S p i) * w1) - x) * (((gy S p (gAft S p i)) * w1) - y)) - ((((gy S p i) * w1) - y) * (((gx S p (gAft S p i)) * w1) - x)))), (18, aJ (((gy S p (gAft S p i)) * w1) - y)), (16, aJ (((gx S p (gAft S p i)) * w1) - x)), (14, aJ (((gy S p i) * w1) - y)), (12, aJ (((gx S p i) * w1) - x)), (11, aI (((12 * p + (gAft S p i) : Nat) : Int))), (10, aI ((12 * p + i : Int))), (9, aI ((i : Int))), (8, aI l), (0, aO (some o)), (1, aI ((p : Int))), (2, aJ x), (4, aJ y), (6, aJ w1)]) rfl rfl ?_
                      refine g_iload rfl rfl ?_
                      refine g_iload rfl rfl ?_
                      refine g_if_eq_f rfl (by omega) ?_
                      refine g_lload rfl rfl ?_
                      refine g_lconst0 rfl ?_
                      refine g_lc_gt rfl rfl (fun cq233 => ?_) (fun cq233 => ?_)
                      · skip
                        refine g_iconst rfl ?_
                        refine g_goto rfl ?_
                        refine g_icmp_eq rfl (fun cq254 => ?_) (fun cq254 => ?_)
                        · skip
                          refine g_iconst rfl ?_
                          refine g_istore (l1 := [(8, aI 0), (24, aI 0), (23, aI 1), (22, aI 0), (20, aJ (((((gx S p i) * w1) - x) * (((gy S p (gAft S p i)) * w1) - y)) - ((((gy S p i) * w1) - y) * (((gx S p (gAft S p i)) * w1) - x)))), (18, aJ (((gy S p (gAft S p i)) * w1) - y)), (16, aJ (((gx S p (gAft S p i)) * w1) - x)), (14, aJ (((gy S p i) * w1) - y)), (12, aJ (((gx S p i) * w1) - x)), (11, aI (((12 * p + (gAft S p i) : Nat) : Int))), (10, aI ((12 * p + i : Int))), (9, aI ((i : Int))), (0, aO (some o)), (1, aI ((p : Int))), (2, aJ x), (4, aJ y), (6, aJ w1)]) rfl rfl ?_
                          refine g_iinc (l1 := [(9, aI ((i : Int) + 1)), (8, aI 0), (24, aI 0), (23, aI 1), (22, aI 0), (20, aJ (((((gx S p i) * w1) - x) * (((gy S p (gAft S p i)) * w1) - y)) - ((((gy S p i) * w1) - y) * (((gx S p (gAft S p i)) * w1) - x)))), (18, aJ (((gy S p (gAft S p i)) * w1) - y)), (16, aJ (((gx S p (gAft S p i)) * w1) - x)), (14, aJ (((gy S p i) * w1) - y)), (12, aJ (((gx S p i) * w1) - x)), (11, aI (((12 * p + (gAft S p i) : Nat) : Int))), (10, aI ((12 * p + i : Int))), (0, aO (some o)), (1, aI ((p : Int))), (2, aJ x), (4, aJ y), (6, aJ w1)]) rfl rfl (by omega) (by omega) rfl ?_
                          refine g_goto rfl ?_
                          refine g_ls [0, 1, 12, 13, 14, 15, 16] rfl rfl ?_
                          exact ih6 (i + 1) _ (by omega) (by exact gWo_no hn hno rfl) (by exact xor_step hl (fun z => by have z := (mw_tog hw1.1 i hno).mpr z; exact ⟨fun q => by omega, fun q => by omega⟩) (fun z => by have z := fun y => z ((mw_tog hw1.1 i hno).mp y); omega)) (by omega)
                        · skip
                          refine g_iconst rfl ?_
                          refine g_goto rfl ?_
                          refine g_istore (l1 := [(8, aI 1), (24, aI 0), (23, aI 1), (22, aI 0), (20, aJ (((((gx S p i) * w1) - x) * (((gy S p (gAft S p i)) * w1) - y)) - ((((gy S p i) * w1) - y) * (((gx S p (gAft S p i)) * w1) - x)))), (18, aJ (((gy S p (gAft S p i)) * w1) - y)), (16, aJ (((gx S p (gAft S p i)) * w1) - x)), (14, aJ (((gy S p i) * w1) - y)), (12, aJ (((gx S p i) * w1) - x)), (11, aI (((12 * p + (gAft S p i) : Nat) : Int))), (10, aI ((12 * p + i : Int))), (9, aI ((i : Int))), (0, aO (some o)), (1, aI ((p : Int))), (2, aJ x), (4, aJ y), (6, aJ w1)]) rfl rfl ?_
                          refine g_iinc (l1 := [(9, aI ((i : Int) + 1)), (8, aI 1), (24, aI 0), (23, aI 1), (22, aI 0), (20, aJ (((((gx S p i) * w1) - x) * (((gy S p (gAft S p i)) * w1) - y)) - ((((gy S p i) * w1) - y) * (((gx S p (gAft S p i)) * w1) - x)))), (18, aJ (((gy S p (gAft S p i)) * w1) - y)), (16, aJ (((gx S p (gAft S p i)) * w1) - x)), (14, aJ (((gy S p i) * w1) - y)), (12, aJ (((gx S p i) * w1) - x)), (11, aI (((12 * p + (gAft S p i) : Nat) : Int))), (10, aI ((12 * p + i : Int))), (0, aO (some o)), (1, aI ((p : Int))), (2, aJ x), (4, aJ y), (6, aJ w1)]) rfl rfl (by omega) (by omega) rfl ?_
                          refine g_goto rfl ?_
                          refine g_ls [0, 1, 12, 13, 14, 15, 16] rfl rfl ?_
                          exact ih6 (i + 1) _ (by omega) (by exact gWo_no hn hno rfl) (by exact xor_step hl (fun z => by have z := (mw_tog hw1.1 i hno).mpr z; exact ⟨fun q => by omega, fun q => by omega⟩) (fun z => by have z := fun y => z ((mw_tog hw1.1 i hno).mp y); omega)) (by omega)
                      · skip
                        refine g_iload rfl rfl ?_
                        refine g_if_eq_t rfl (by omega) ?_
                        refine g_iconst rfl ?_
                        refine g_icmp_eq rfl (fun cq254 => ?_) (fun cq254 => ?_)
                        · skip
                          refine g_iconst rfl ?_
                          refine g_istore (l1 := [(8, aI 0), (24, aI 0), (23, aI 1), (22, aI 0), (20, aJ (((((gx S p i) * w1) - x) * (((gy S p (gAft S p i)) * w1) - y)) - ((((gy S p i) * w1) - y) * (((gx S p (gAft S p i)) * w1) - x)))), (18, aJ (((gy S p (gAft S p i)) * w1) - y)), (16, aJ (((gx S p (gAft S p i)) * w1) - x)), (14, aJ (((gy S p i) * w1) - y)), (12, aJ (((gx S p i) * w1) - x)), (11, aI (((12 * p + (gAft S p i) : Nat) : Int))), (10, aI ((12 * p + i : Int))), (9, aI ((i : Int))), (0, aO (some o)), (1, aI ((p : Int))), (2, aJ x), (4, aJ y), (6, aJ w1)]) rfl rfl ?_
                          refine g_iinc (l1 := [(9, aI ((i : Int) + 1)), (8, aI 0), (24, aI 0), (23, aI 1), (22, aI 0), (20, aJ (((((gx S p i) * w1) - x) * (((gy S p (gAft S p i)) * w1) - y)) - ((((gy S p i) * w1) - y) * (((gx S p (gAft S p i)) * w1) - x)))), (18, aJ (((gy S p (gAft S p i)) * w1) - y)), (16, aJ (((gx S p (gAft S p i)) * w1) - x)), (14, aJ (((gy S p i) * w1) - y)), (12, aJ (((gx S p i) * w1) - x)), (11, aI (((12 * p + (gAft S p i) : Nat) : Int))), (10, aI ((12 * p + i : Int))), (0, aO (some o)), (1, aI ((p : Int))), (2, aJ x), (4, aJ y), (6, aJ w1)]) rfl rfl (by omega) (by omega) rfl ?_
                          refine g_goto rfl ?_
                          refine g_ls [0, 1, 12, 13, 14, 15, 16] rfl rfl ?_
                          exact ih6 (i + 1) _ (by omega) (by exact gWo_no hn hno rfl) (by exact xor_step hl (fun z => by have z := (mw_tog hw1.1 i hno).mpr z; exact ⟨fun q => by omega, fun q => by omega⟩) (fun z => by have z := fun y => z ((mw_tog hw1.1 i hno).mp y); omega)) (by omega)
                        · skip
                          refine g_iconst rfl ?_
                          refine g_goto rfl ?_
                          refine g_istore (l1 := [(8, aI 1), (24, aI 0), (23, aI 1), (22, aI 0), (20, aJ (((((gx S p i) * w1) - x) * (((gy S p (gAft S p i)) * w1) - y)) - ((((gy S p i) * w1) - y) * (((gx S p (gAft S p i)) * w1) - x)))), (18, aJ (((gy S p (gAft S p i)) * w1) - y)), (16, aJ (((gx S p (gAft S p i)) * w1) - x)), (14, aJ (((gy S p i) * w1) - y)), (12, aJ (((gx S p i) * w1) - x)), (11, aI (((12 * p + (gAft S p i) : Nat) : Int))), (10, aI ((12 * p + i : Int))), (9, aI ((i : Int))), (0, aO (some o)), (1, aI ((p : Int))), (2, aJ x), (4, aJ y), (6, aJ w1)]) rfl rfl ?_
                          refine g_iinc (l1 := [(9, aI ((i : Int) + 1)), (8, aI 1), (24, aI 0), (23, aI 1), (22, aI 0), (20, aJ (((((gx S p i) * w1) - x) * (((gy S p (gAft S p i)) * w1) - y)) - ((((gy S p i) * w1) - y) * (((gx S p (gAft S p i)) * w1) - x)))), (18, aJ (((gy S p (gAft S p i)) * w1) - y)), (16, aJ (((gx S p (gAft S p i)) * w1) - x)), (14, aJ (((gy S p i) * w1) - y)), (12, aJ (((gx S p i) * w1) - x)), (11, aI (((12 * p + (gAft S p i) : Nat) : Int))), (10, aI ((12 * p + i : Int))), (0, aO (some o)), (1, aI ((p : Int))), (2, aJ x), (4, aJ y), (6, aJ w1)]) rfl rfl (by omega) (by omega) rfl ?_
                          refine g_goto rfl ?_
                          refine g_ls [0, 1, 12, 13, 14, 15, 16] rfl rfl ?_
                          exact ih6 (i + 1) _ (by omega) (by exact gWo_no hn hno rfl) (by exact xor_step hl (fun z => by have z := (mw_tog hw1.1 i hno).mpr z; exact ⟨fun q => by omega, fun q => by omega⟩) (fun z => by have z := fun y => z ((mw_tog hw1.1 i hno).mp y); omega)) (by omega)
                    · skip
                      refine g_lload rfl rfl ?_
                      refine g_lconst0 rfl ?_
                      refine g_lc_le rfl rfl (fun cq212 => ?_) (fun cq212 => ?_)
                      · skip
                        refine g_iconst rfl ?_
                        refine g_istore (l1 := [(24, aI 0), (23, aI 1), (22, aI 0), (20, aJ (((((gx S p i) * w1) - x) * (((gy S p (gAft S p i)) * w1) - y)) - ((((gy S p i) * w1) - y) * (((gx S p (gAft S p i)) * w1) - x)))), (18, aJ (((gy S p (gAft S p i)) * w1) - y)), (16, aJ (((gx S p (gAft S p i)) * w1) - x)), (14, aJ (((gy S p i) * w1) - y)), (12, aJ (((gx S p i) * w1) - x)), (11, aI (((12 * p + (gAft S p i) : Nat) : Int))), (10, aI ((12 * p + i : Int))), (9, aI ((i : Int))), (8, aI l), (0, aO (some o)), (1, aI ((p : Int))), (2, aJ x), (4, aJ y), (6, aJ w1)]) rfl rfl ?_
                        refine g_iload rfl rfl ?_
                        refine g_iload rfl rfl ?_
                        refine g_if_eq_f rfl (by omega) ?_
                        refine g_lload rfl rfl ?_
                        refine g_lconst0 rfl ?_
                        refine g_lc_gt rfl rfl (fun cq233 => ?_) (fun cq233 => ?_)
                        · skip
                          refine g_iconst rfl ?_
                          refine g_goto rfl ?_
                          refine g_icmp_eq rfl (fun cq254 => ?_) (fun cq254 => ?_)
                          · skip
                            refine g_iconst rfl ?_
                            refine g_istore (l1 := [(8, aI 0), (24, aI 0), (23, aI 1), (22, aI 0), (20, aJ (((((gx S p i) * w1) - x) * (((gy S p (gAft S p i)) * w1) - y)) - ((((gy S p i) * w1) - y) * (((gx S p (gAft S p i)) * w1) - x)))), (18, aJ (((gy S p (gAft S p i)) * w1) - y)), (16, aJ (((gx S p (gAft S p i)) * w1) - x)), (14, aJ (((gy S p i) * w1) - y)), (12, aJ (((gx S p i) * w1) - x)), (11, aI (((12 * p + (gAft S p i) : Nat) : Int))), (10, aI ((12 * p + i : Int))), (9, aI ((i : Int))), (0, aO (some o)), (1, aI ((p : Int))), (2, aJ x), (4, aJ y), (6, aJ w1)]) rfl rfl ?_
                            refine g_iinc (l1 := [(9, aI ((i : Int) + 1)), (8, aI 0), (24, aI 0), (23, aI 1), (22, aI 0), (20, aJ (((((gx S p i) * w1) - x) * (((gy S p (gAft S p i)) * w1) - y)) - ((((gy S p i) * w1) - y) * (((gx S p (gAft S p i)) * w1) - x)))), (18, aJ (((gy S p (gAft S p i)) * w1) - y)), (16, aJ (((gx S p (gAft S p i)) * w1) - x)), (14, aJ (((gy S p i) * w1) - y)), (12, aJ (((gx S p i) * w1) - x)), (11, aI (((12 * p + (gAft S p i) : Nat) : Int))), (10, aI ((12 * p + i : Int))), (0, aO (some o)), (1, aI ((p : Int))), (2, aJ x), (4, aJ y), (6, aJ w1)]) rfl rfl (by omega) (by omega) rfl ?_
                            refine g_goto rfl ?_
                            refine g_ls [0, 1, 12, 13, 14, 15, 16] rfl rfl ?_
                            exact ih6 (i + 1) _ (by omega) (by exact gWo_no hn hno rfl) (by exact xor_step hl (fun z => by have z := (mw_tog hw1.1 i hno).mpr z; exact ⟨fun q => by omega, fun q => by omega⟩) (fun z => by have z := fun y => z ((mw_tog hw1.1 i hno).mp y); omega)) (by omega)
                          · skip
                            refine g_iconst rfl ?_
                            refine g_goto rfl ?_
                            refine g_istore (l1 := [(8, aI 1), (24, aI 0), (23, aI 1), (22, aI 0), (20, aJ (((((gx S p i) * w1) - x) * (((gy S p (gAft S p i)) * w1) - y)) - ((((gy S p i) * w1) - y) * (((gx S p (gAft S p i)) * w1) - x)))), (18, aJ (((gy S p (gAft S p i)) * w1) - y)), (16, aJ (((gx S p (gAft S p i)) * w1) - x)), (14, aJ (((gy S p i) * w1) - y)), (12, aJ (((gx S p i) * w1) - x)), (11, aI (((12 * p + (gAft S p i) : Nat) : Int))), (10, aI ((12 * p + i : Int))), (9, aI ((i : Int))), (0, aO (some o)), (1, aI ((p : Int))), (2, aJ x), (4, aJ y), (6, aJ w1)]) rfl rfl ?_
                            refine g_iinc (l1 := [(9, aI ((i : Int) + 1)), (8, aI 1), (24, aI 0), (23, aI 1), (22, aI 0), (20, aJ (((((gx S p i) * w1) - x) * (((gy S p (gAft S p i)) * w1) - y)) - ((((gy S p i) * w1) - y) * (((gx S p (gAft S p i)) * w1) - x)))), (18, aJ (((gy S p (gAft S p i)) * w1) - y)), (16, aJ (((gx S p (gAft S p i)) * w1) - x)), (14, aJ (((gy S p i) * w1) - y)), (12, aJ (((gx S p i) * w1) - x)), (11, aI (((12 * p + (gAft S p i) : Nat) : Int))), (10, aI ((12 * p + i : Int))), (0, aO (some o)), (1, aI ((p : Int))), (2, aJ x), (4, aJ y), (6, aJ w1)]) rfl rfl (by omega) (by omega) rfl ?_
                            refine g_goto rfl ?_
                            refine g_ls [0, 1, 12, 13, 14, 15, 16] rfl rfl ?_
                            exact ih6 (i + 1) _ (by omega) (by exact gWo_no hn hno rfl) (by exact xor_step hl (fun z => by have z := (mw_tog hw1.1 i hno).mpr z; exact ⟨fun q => by omega, fun q => by omega⟩) (fun z => by have z := fun y => z ((mw_tog hw1.1 i hno).mp y); omega)) (by omega)
                        · skip
                          refine g_iload rfl rfl ?_
                          refine g_if_eq_t rfl (by omega) ?_
                          refine g_iconst rfl ?_
                          refine g_icmp_eq rfl (fun cq254 => ?_) (fun cq254 => ?_)
                          · skip
                            refine g_iconst rfl ?_
                            refine g_istore (l1 := [(8, aI 0), (24, aI 0), (23, aI 1), (22, aI 0), (20, aJ (((((gx S p i) * w1) - x) * (((gy S p (gAft S p i)) * w1) - y)) - ((((gy S p i) * w1) - y) * (((gx S p (gAft S p i)) * w1) - x)))), (18, aJ (((gy S p (gAft S p i)) * w1) - y)), (16, aJ (((gx S p (gAft S p i)) * w1) - x)), (14, aJ (((gy S p i) * w1) - y)), (12, aJ (((gx S p i) * w1) - x)), (11, aI (((12 * p + (gAft S p i) : Nat) : Int))), (10, aI ((12 * p + i : Int))), (9, aI ((i : Int))), (0, aO (some o)), (1, aI ((p : Int))), (2, aJ x), (4, aJ y), (6, aJ w1)]) rfl rfl ?_
                            refine g_iinc (l1 := [(9, aI ((i : Int) + 1)), (8, aI 0), (24, aI 0), (23, aI 1), (22, aI 0), (20, aJ (((((gx S p i) * w1) - x) * (((gy S p (gAft S p i)) * w1) - y)) - ((((gy S p i) * w1) - y) * (((gx S p (gAft S p i)) * w1) - x)))), (18, aJ (((gy S p (gAft S p i)) * w1) - y)), (16, aJ (((gx S p (gAft S p i)) * w1) - x)), (14, aJ (((gy S p i) * w1) - y)), (12, aJ (((gx S p i) * w1) - x)), (11, aI (((12 * p + (gAft S p i) : Nat) : Int))), (10, aI ((12 * p + i : Int))), (0, aO (some o)), (1, aI ((p : Int))), (2, aJ x), (4, aJ y), (6, aJ w1)]) rfl rfl (by omega) (by omega) rfl ?_
                            refine g_goto rfl ?_
                            refine g_ls [0, 1, 12, 13, 14, 15, 16] rfl rfl ?_
                            exact ih6 (i + 1) _ (by omega) (by exact gWo_no hn hno rfl) (by exact xor_step hl (fun z => by have z := (mw_tog hw1.1 i hno).mpr z; exact ⟨fun q => by omega, fun q => by omega⟩) (fun z => by have z := fun y => z ((mw_tog hw1.1 i hno).mp y); omega)) (by omega)
                          · skip
                            refine g_iconst rfl ?_
                            refine g_goto rfl ?_
                            refine g_istore (l1 := [(8, aI 1), (24, aI 0), (23, aI 1), (22, aI 0), (20, aJ (((((gx S p i) * w1) - x) * (((gy S p (gAft S p i)) * w1) - y)) - ((((gy S p i) * w1) - y) * (((gx S p (gAft S p i)) * w1) - x)))), (18, aJ (((gy S p (gAft S p i)) * w1) - y)), (16, aJ (((gx S p (gAft S p i)) * w1) - x)), (14, aJ (((gy S p i) * w1) - y)), (12, aJ (((gx S p i) * w1) - x)), (11, aI (((12 * p + (gAft S p i) : Nat) : Int))), (10, aI ((12 * p + i : Int))), (9, aI ((i : Int))), (0, aO (some o)), (1, aI ((p : Int))), (2, aJ x), (4, aJ y), (6, aJ w1)]) rfl rfl ?_
                            refine g_iinc (l1 := [(9, aI ((i : Int) + 1)), (8, aI 1), (24, aI 0), (23, aI 1), (22, aI 0), (20, aJ (((((gx S p i) * w1) - x) * (((gy S p (gAft S p i)) * w1) - y)) - ((((gy S p i) * w1) - y) * (((gx S p (gAft S p i)) * w1) - x)))), (18, aJ (((gy S p (gAft S p i)) * w1) - y)), (16, aJ (((gx S p (gAft S p i)) * w1) - x)), (14, aJ (((gy S p i) * w1) - y)), (12, aJ (((gx S p i) * w1) - x)), (11, aI (((12 * p + (gAft S p i) : Nat) : Int))), (10, aI ((12 * p + i : Int))), (0, aO (some o)), (1, aI ((p : Int))), (2, aJ x), (4, aJ y), (6, aJ w1)]) rfl rfl (by omega) (by omega) rfl ?_
                            refine g_goto rfl ?_
                            refine g_ls [0, 1, 12, 13, 14, 15, 16] rfl rfl ?_
                            exact ih6 (i + 1) _ (by omega) (by exact gWo_no hn hno rfl) (by exact xor_step hl (fun z => by have z := (mw_tog hw1.1 i hno).mpr z; exact ⟨fun q => by omega, fun q => by omega⟩) (fun z => by have z := fun y => z ((mw_tog hw1.1 i hno).mp y); omega)) (by omega)
                      · skip
                        refine g_iconst rfl ?_
                        refine g_goto rfl ?_
                        refine g_istore (l1 := [(24, aI 1), (23, aI 1), (22, aI 0), (20, aJ (((((gx S p i) * w1) - x) * (((gy S p (gAft S p i)) * w1) - y)) - ((((gy S p i) * w1) - y) * (((gx S p (gAft S p i)) * w1) - x)))), (18, aJ (((gy S p (gAft S p i)) * w1) - y)), (16, aJ (((gx S p (gAft S p i)) * w1) - x)), (14, aJ (((gy S p i) * w1) - y)), (12, aJ (((gx S p i) * w1) - x)), (11, aI (((12 * p + (gAft S p i) : Nat) : Int))), (10, aI ((12 * p + i : Int))), (9, aI ((i : Int))), (8, aI l), (0, aO (some o)), (1, aI ((p : Int))), (2, aJ x), (4, aJ y), (6, aJ w1)]) rfl rfl ?_
                        refine g_iload rfl rfl ?_
                        refine g_iload rfl rfl ?_
                        refine g_if_eq_f rfl (by omega) ?_
                        refine g_lload rfl rfl ?_
                        refine g_lconst0 rfl ?_
                        refine g_lc_gt rfl rfl (fun cq233 => ?_) (fun cq233 => ?_)
                        · skip
                          refine g_iconst rfl ?_
                          refine g_goto rfl ?_
                          refine g_icmp_eq rfl (fun cq254 => ?_) (fun cq254 => ?_)
                          · skip
                            refine g_iconst rfl ?_
                            refine g_istore (l1 := [(8, aI 0), (24, aI 1), (23, aI 1), (22, aI 0), (20, aJ (((((gx S p i) * w1) - x) * (((gy S p (gAft S p i)) * w1) - y)) - ((((gy S p i) * w1) - y) * (((gx S p (gAft S p i)) * w1) - x)))), (18, aJ (((gy S p (gAft S p i)) * w1) - y)), (16, aJ (((gx S p (gAft S p i)) * w1) - x)), (14, aJ (((gy S p i) * w1) - y)), (12, aJ (((gx S p i) * w1) - x)), (11, aI (((12 * p + (gAft S p i) : Nat) : Int))), (10, aI ((12 * p + i : Int))), (9, aI ((i : Int))), (0, aO (some o)), (1, aI ((p : Int))), (2, aJ x), (4, aJ y), (6, aJ w1)]) rfl rfl ?_
                            refine g_iinc (l1 := [(9, aI ((i : Int) + 1)), (8, aI 0), (24, aI 1), (23, aI 1), (22, aI 0), (20, aJ (((((gx S p i) * w1) - x) * (((gy S p (gAft S p i)) * w1) - y)) - ((((gy S p i) * w1) - y) * (((gx S p (gAft S p i)) * w1) - x)))), (18, aJ (((gy S p (gAft S p i)) * w1) - y)), (16, aJ (((gx S p (gAft S p i)) * w1) - x)), (14, aJ (((gy S p i) * w1) - y)), (12, aJ (((gx S p i) * w1) - x)), (11, aI (((12 * p + (gAft S p i) : Nat) : Int))), (10, aI ((12 * p + i : Int))), (0, aO (some o)), (1, aI ((p : Int))), (2, aJ x), (4, aJ y), (6, aJ w1)]) rfl rfl (by omega) (by omega) rfl ?_
                            refine g_goto rfl ?_
                            refine g_ls [0, 1, 12, 13, 14, 15, 16] rfl rfl ?_
                            exact ih6 (i + 1) _ (by omega) (by exact gWo_no hn hno rfl) (by exact xor_step hl (fun z => by have z := (mw_tog hw1.1 i hno).mpr z; exact ⟨fun q => by omega, fun q => by omega⟩) (fun z => by have z := fun y => z ((mw_tog hw1.1 i hno).mp y); omega)) (by omega)
                          · skip
                            refine g_iconst rfl ?_
                            refine g_goto rfl ?_
                            refine g_istore (l1 := [(8, aI 1), (24, aI 1), (23, aI 1), (22, aI 0), (20, aJ (((((gx S p i) * w1) - x) * (((gy S p (gAft S p i)) * w1) - y)) - ((((gy S p i) * w1) - y) * (((gx S p (gAft S p i)) * w1) - x)))), (18, aJ (((gy S p (gAft S p i)) * w1) - y)), (16, aJ (((gx S p (gAft S p i)) * w1) - x)), (14, aJ (((gy S p i) * w1) - y)), (12, aJ (((gx S p i) * w1) - x)), (11, aI (((12 * p + (gAft S p i) : Nat) : Int))), (10, aI ((12 * p + i : Int))), (9, aI ((i : Int))), (0, aO (some o)), (1, aI ((p : Int))), (2, aJ x), (4, aJ y), (6, aJ w1)]) rfl rfl ?_
                            refine g_iinc (l1 := [(9, aI ((i : Int) + 1)), (8, aI 1), (24, aI 1), (23, aI 1), (22, aI 0), (20, aJ (((((gx S p i) * w1) - x) * (((gy S p (gAft S p i)) * w1) - y)) - ((((gy S p i) * w1) - y) * (((gx S p (gAft S p i)) * w1) - x)))), (18, aJ (((gy S p (gAft S p i)) * w1) - y)), (16, aJ (((gx S p (gAft S p i)) * w1) - x)), (14, aJ (((gy S p i) * w1) - y)), (12, aJ (((gx S p i) * w1) - x)), (11, aI (((12 * p + (gAft S p i) : Nat) : Int))), (10, aI ((12 * p + i : Int))), (0, aO (some o)), (1, aI ((p : Int))), (2, aJ x), (4, aJ y), (6, aJ w1)]) rfl rfl (by omega) (by omega) rfl ?_
                            refine g_goto rfl ?_
                            refine g_ls [0, 1, 12, 13, 14, 15, 16] rfl rfl ?_
                            exact ih6 (i + 1) _ (by omega) (by exact gWo_no hn hno rfl) (by exact xor_step hl (fun z => by have z := (mw_tog hw1.1 i hno).mpr z; exact ⟨fun q => by omega, fun q => by omega⟩) (fun z => by have z := fun y => z ((mw_tog hw1.1 i hno).mp y); omega)) (by omega)
                        · skip
                          refine g_iload rfl rfl ?_
                          refine g_if_eq_f rfl (by omega) ?_
                          refine g_lload rfl rfl ?_
                          refine g_lconst0 rfl ?_
                          refine g_lc_ge rfl rfl (fun cq245 => ?_) (fun cq245 => ?_)
                          · skip
                            refine g_iconst rfl ?_
                            refine g_icmp_eq rfl (fun cq254 => ?_) (fun cq254 => ?_)
                            · skip
                              refine g_iconst rfl ?_
                              refine g_istore (l1 := [(8, aI 0), (24, aI 1), (23, aI 1), (22, aI 0), (20, aJ (((((gx S p i) * w1) - x) * (((gy S p (gAft S p i)) * w1) - y)) - ((((gy S p i) * w1) - y) * (((gx S p (gAft S p i)) * w1) - x)))), (18, aJ (((gy S p (gAft S p i)) * w1) - y)), (16, aJ (((gx S p (gAft S p i)) * w1) - x)), (14, aJ (((gy S p i) * w1) - y)), (12, aJ (((gx S p i) * w1) - x)), (11, aI (((12 * p + (gAft S p i) : Nat) : Int))), (10, aI ((12 * p + i : Int))), (9, aI ((i : Int))), (0, aO (some o)), (1, aI ((p : Int))), (2, aJ x), (4, aJ y), (6, aJ w1)]) rfl rfl ?_
                              refine g_iinc (l1 := [(9, aI ((i : Int) + 1)), (8, aI 0), (24, aI 1), (23, aI 1), (22, aI 0), (20, aJ (((((gx S p i) * w1) - x) * (((gy S p (gAft S p i)) * w1) - y)) - ((((gy S p i) * w1) - y) * (((gx S p (gAft S p i)) * w1) - x)))), (18, aJ (((gy S p (gAft S p i)) * w1) - y)), (16, aJ (((gx S p (gAft S p i)) * w1) - x)), (14, aJ (((gy S p i) * w1) - y)), (12, aJ (((gx S p i) * w1) - x)), (11, aI (((12 * p + (gAft S p i) : Nat) : Int))), (10, aI ((12 * p + i : Int))), (0, aO (some o)), (1, aI ((p : Int))), (2, aJ x), (4, aJ y), (6, aJ w1)]) rfl rfl (by omega) (by omega) rfl ?_
                              refine g_goto rfl ?_
                              refine g_ls [0, 1, 12, 13, 14, 15, 16] rfl rfl ?_
                              exact ih6 (i + 1) _ (by omega) (by exact gWo_no hn hno rfl) (by exact xor_step hl (fun z => by have z := (mw_tog hw1.1 i hno).mpr z; exact ⟨fun q => by omega, fun q => by omega⟩) (fun z => by have z := fun y => z ((mw_tog hw1.1 i hno).mp y); omega)) (by omega)
                            · skip
                              refine g_iconst rfl ?_
                              refine g_goto rfl ?_
                              refine g_istore (l1 := [(8, aI 1), (24, aI 1), (23, aI 1), (22, aI 0), (20, aJ (((((gx S p i) * w1) - x) * (((gy S p (gAft S p i)) * w1) - y)) - ((((gy S p i) * w1) - y) * (((gx S p (gAft S p i)) * w1) - x)))), (18, aJ (((gy S p (gAft S p i)) * w1) - y)), (16, aJ (((gx S p (gAft S p i)) * w1) - x)), (14, aJ (((gy S p i) * w1) - y)), (12, aJ (((gx S p i) * w1) - x)), (11, aI (((12 * p + (gAft S p i) : Nat) : Int))), (10, aI ((12 * p + i : Int))), (9, aI ((i : Int))), (0, aO (some o)), (1, aI ((p : Int))), (2, aJ x), (4, aJ y), (6, aJ w1)]) rfl rfl ?_
                              refine g_iinc (l1 := [(9, aI ((i : Int) + 1)), (8, aI 1), (24, aI 1), (23, aI 1), (22, aI 0), (20, aJ (((((gx S p i) * w1) - x) * (((gy S p (gAft S p i)) * w1) - y)) - ((((gy S p i) * w1) - y) * (((gx S p (gAft S p i)) * w1) - x)))), (18, aJ (((gy S p (gAft S p i)) * w1) - y)), (16, aJ (((gx S p (gAft S p i)) * w1) - x)), (14, aJ (((gy S p i) * w1) - y)), (12, aJ (((gx S p i) * w1) - x)), (11, aI (((12 * p + (gAft S p i) : Nat) : Int))), (10, aI ((12 * p + i : Int))), (0, aO (some o)), (1, aI ((p : Int))), (2, aJ x), (4, aJ y), (6, aJ w1)]) rfl rfl (by omega) (by omega) rfl ?_
                              refine g_goto rfl ?_
                              refine g_ls [0, 1, 12, 13, 14, 15, 16] rfl rfl ?_
                              exact ih6 (i + 1) _ (by omega) (by exact gWo_no hn hno rfl) (by exact xor_step hl (fun z => by have z := (mw_tog hw1.1 i hno).mpr z; exact ⟨fun q => by omega, fun q => by omega⟩) (fun z => by have z := fun y => z ((mw_tog hw1.1 i hno).mp y); omega)) (by omega)
                          · skip
                            refine g_iconst rfl ?_
                            refine g_goto rfl ?_
                            refine g_icmp_eq rfl (fun cq254 => ?_) (fun cq254 => ?_)
                            · skip
                              refine g_iconst rfl ?_
                              refine g_istore (l1 := [(8, aI 0), (24, aI 1), (23, aI 1), (22, aI 0), (20, aJ (((((gx S p i) * w1) - x) * (((gy S p (gAft S p i)) * w1) - y)) - ((((gy S p i) * w1) - y) * (((gx S p (gAft S p i)) * w1) - x)))), (18, aJ (((gy S p (gAft S p i)) * w1) - y)), (16, aJ (((gx S p (gAft S p i)) * w1) - x)), (14, aJ (((gy S p i) * w1) - y)), (12, aJ (((gx S p i) * w1) - x)), (11, aI (((12 * p + (gAft S p i) : Nat) : Int))), (10, aI ((12 * p + i : Int))), (9, aI ((i : Int))), (0, aO (some o)), (1, aI ((p : Int))), (2, aJ x), (4, aJ y), (6, aJ w1)]) rfl rfl ?_
                              refine g_iinc (l1 := [(9, aI ((i : Int) + 1)), (8, aI 0), (24, aI 1), (23, aI 1), (22, aI 0), (20, aJ (((((gx S p i) * w1) - x) * (((gy S p (gAft S p i)) * w1) - y)) - ((((gy S p i) * w1) - y) * (((gx S p (gAft S p i)) * w1) - x)))), (18, aJ (((gy S p (gAft S p i)) * w1) - y)), (16, aJ (((gx S p (gAft S p i)) * w1) - x)), (14, aJ (((gy S p i) * w1) - y)), (12, aJ (((gx S p i) * w1) - x)), (11, aI (((12 * p + (gAft S p i) : Nat) : Int))), (10, aI ((12 * p + i : Int))), (0, aO (some o)), (1, aI ((p : Int))), (2, aJ x), (4, aJ y), (6, aJ w1)]) rfl rfl (by omega) (by omega) rfl ?_
                              refine g_goto rfl ?_
                              refine g_ls [0, 1, 12, 13, 14, 15, 16] rfl rfl ?_
                              exact ih6 (i + 1) _ (by omega) (by exact gWo_no hn hno rfl) (by exact xor_step hl (fun z => by have z := (mw_tog hw1.1 i hno).mpr z; exact ⟨fun q => by omega, fun q => by omega⟩) (fun z => by have z := fun y => z ((mw_tog hw1.1 i hno).mp y); omega)) (by omega)
                            · skip
                              refine g_iconst rfl ?_
                              refine g_goto rfl ?_
                              refine g_istore (l1 := [(8, aI 1), (24, aI 1), (23, aI 1), (22, aI 0), (20, aJ (((((gx S p i) * w1) - x) * (((gy S p (gAft S p i)) * w1) - y)) - ((((gy S p i) * w1) - y) * (((gx S p (gAft S p i)) * w1) - x)))), (18, aJ (((gy S p (gAft S p i)) * w1) - y)), (16, aJ (((gx S p (gAft S p i)) * w1) - x)), (14, aJ (((gy S p i) * w1) - y)), (12, aJ (((gx S p i) * w1) - x)), (11, aI (((12 * p + (gAft S p i) : Nat) : Int))), (10, aI ((12 * p + i : Int))), (9, aI ((i : Int))), (0, aO (some o)), (1, aI ((p : Int))), (2, aJ x), (4, aJ y), (6, aJ w1)]) rfl rfl ?_
                              refine g_iinc (l1 := [(9, aI ((i : Int) + 1)), (8, aI 1), (24, aI 1), (23, aI 1), (22, aI 0), (20, aJ (((((gx S p i) * w1) - x) * (((gy S p (gAft S p i)) * w1) - y)) - ((((gy S p i) * w1) - y) * (((gx S p (gAft S p i)) * w1) - x)))), (18, aJ (((gy S p (gAft S p i)) * w1) - y)), (16, aJ (((gx S p (gAft S p i)) * w1) - x)), (14, aJ (((gy S p i) * w1) - y)), (12, aJ (((gx S p i) * w1) - x)), (11, aI (((12 * p + (gAft S p i) : Nat) : Int))), (10, aI ((12 * p + i : Int))), (0, aO (some o)), (1, aI ((p : Int))), (2, aJ x), (4, aJ y), (6, aJ w1)]) rfl rfl (by omega) (by omega) rfl ?_
                              refine g_goto rfl ?_
                              refine g_ls [0, 1, 12, 13, 14, 15, 16] rfl rfl ?_
                              exact ih6 (i + 1) _ (by omega) (by exact gWo_no hn hno rfl) (by exact xor_step hl (fun z => by have z := (mw_tog hw1.1 i hno).mpr z; exact ⟨fun q => by omega, fun q => by omega⟩) (fun z => by have z := fun y => z ((mw_tog hw1.1 i hno).mp y); omega)) (by omega)
              · skip
                refine g_lload rfl rfl ?_
                refine g_lload rfl rfl ?_
                refine g_callSJ [aJ (((gy S p i) * w1) - y), aJ (((gy S p (gAft S p i)) * w1) - y)] [] rfl rfl rfl rfl (Nat.le_of_ble_eq_true rfl) (c_grt (by omega) (((gy S p i) * w1) - y) (((gy S p (gAft S p i)) * w1) - y) _) ?_
                rintro r6 hx6 ⟨ehx6, rfl⟩
                rw [ehx6]
                clear ehx6 hx6
                refine g_lconst0 rfl ?_
                refine g_lc_lt rfl rfl (fun cq163 => ?_) (fun cq163 => ?_)
                · skip
                  refine g_iconst rfl ?_
                  refine g_istore (l1 := [(22, aI 0), (20, aJ (((((gx S p i) * w1) - x) * (((gy S p (gAft S p i)) * w1) - y)) - ((((gy S p i) * w1) - y) * (((gx S p (gAft S p i)) * w1) - x)))), (18, aJ (((gy S p (gAft S p i)) * w1) - y)), (16, aJ (((gx S p (gAft S p i)) * w1) - x)), (14, aJ (((gy S p i) * w1) - y)), (12, aJ (((gx S p i) * w1) - x)), (11, aI (((12 * p + (gAft S p i) : Nat) : Int))), (10, aI ((12 * p + i : Int))), (9, aI ((i : Int))), (8, aI l), (0, aO (some o)), (1, aI ((p : Int))), (2, aJ x), (4, aJ y), (6, aJ w1)]) rfl rfl ?_
                  refine g_iload rfl rfl ?_
                  refine g_if_eq_t rfl (by omega) ?_
                  have hno : ¬ gWon S p x y w1 i := fun z => by
                    have z := (mw_on hw1.1 i).mpr z
                    unfold mWon oneS at z
                    have z1 := z.1
                    have z2 := z.2.1
                    have z3 := z.2.2
                    omega
                  refine g_lload rfl rfl ?_
                  refine g_lconst0 rfl ?_
                  refine g_lc_gt rfl rfl (fun cq184 => ?_) (fun cq184 => ?_)
                  · skip
                    refine g_iconst rfl ?_
                    refine g_istore (l1 := [(23, aI 0), (22, aI 0), (20, aJ (((((gx S p i) * w1) - x) * (((gy S p (gAft S p i)) * w1) - y)) - ((((gy S p i) * w1) - y) * (((gx S p (gAft S p i)) * w1) - x)))), (18, aJ (((gy S p (gAft S p i)) * w1) - y)), (16, aJ (((gx S p (gAft S p i)) * w1) - x)), (14, aJ (((gy S p i) * w1) - y)), (12, aJ (((gx S p i) * w1) - x)), (11, aI (((12 * p + (gAft S p i) : Nat) : Int))), (10, aI ((12 * p + i : Int))), (9, aI ((i : Int))), (8, aI l), (0, aO (some o)), (1, aI ((p : Int))), (2, aJ x), (4, aJ y), (6, aJ w1)]) rfl rfl ?_
                    refine g_lload rfl rfl ?_
                    refine g_lconst0 rfl ?_
                    refine g_lc_gt rfl rfl (fun cq205 => ?_) (fun cq205 => ?_)
                    · skip
                      refine g_iconst rfl ?_
                      refine g_istore (l1 := [(24, aI 0), (23, aI 0), (22, aI 0), (20, aJ (((((gx S p i) * w1) - x) * (((gy S p (gAft S p i)) * w1) - y)) - ((((gy S p i) * w1) - y) * (((gx S p (gAft S p i)) * w1) - x)))), (18, aJ (((gy S p (gAft S p i)) * w1) - y)), (16, aJ (((gx S p (gAft S p i)) * w1) - x)), (14, aJ (((gy S p i) * w1) - y)), (12, aJ (((gx S p i) * w1) - x)), (11, aI (((12 * p + (gAft S p i) : Nat) : Int))), (10, aI ((12 * p + i : Int))), (9, aI ((i : Int))), (8, aI l), (0, aO (some o)), (1, aI ((p : Int))), (2, aJ x), (4, aJ y), (6, aJ w1)]) rfl rfl ?_
                      refine g_iload rfl rfl ?_
                      refine g_iload rfl rfl ?_
                      refine g_if_eq_t rfl (by omega) ?_
                      refine g_iload rfl rfl ?_
                      refine g_if_eq_t rfl (by omega) ?_
                      refine g_iconst rfl ?_
                      refine g_icmp_eq rfl (fun cq254 => ?_) (fun cq254 => ?_)
                      · skip
                        refine g_iconst rfl ?_
                        refine g_istore (l1 := [(8, aI 0), (24, aI 0), (23, aI 0), (22, aI 0), (20, aJ (((((gx S p i) * w1) - x) * (((gy S p (gAft S p i)) * w1) - y)) - ((((gy S p i) * w1) - y) * (((gx S p (gAft S p i)) * w1) - x)))), (18, aJ (((gy S p (gAft S p i)) * w1) - y)), (16, aJ (((gx S p (gAft S p i)) * w1) - x)), (14, aJ (((gy S p i) * w1) - y)), (12, aJ (((gx S p i) * w1) - x)), (11, aI (((12 * p + (gAft S p i) : Nat) : Int))), (10, aI ((12 * p + i : Int))), (9, aI ((i : Int))), (0, aO (some o)), (1, aI ((p : Int))), (2, aJ x), (4, aJ y), (6, aJ w1)]) rfl rfl ?_
                        refine g_iinc (l1 := [(9, aI ((i : Int) + 1)), (8, aI 0), (24, aI 0), (23, aI 0), (22, aI 0), (20, aJ (((((gx S p i) * w1) - x) * (((gy S p (gAft S p i)) * w1) - y)) - ((((gy S p i) * w1) - y) * (((gx S p (gAft S p i)) * w1) - x)))), (18, aJ (((gy S p (gAft S p i)) * w1) - y)), (16, aJ (((gx S p (gAft S p i)) * w1) - x)), (14, aJ (((gy S p i) * w1) - y)), (12, aJ (((gx S p i) * w1) - x)), (11, aI (((12 * p + (gAft S p i) : Nat) : Int))), (10, aI ((12 * p + i : Int))), (0, aO (some o)), (1, aI ((p : Int))), (2, aJ x), (4, aJ y), (6, aJ w1)]) rfl rfl (by omega) (by omega) rfl ?_
                        refine g_goto rfl ?_
                        refine g_ls [0, 1, 12, 13, 14, 15, 16] rfl rfl ?_
                        exact ih6 (i + 1) _ (by omega) (by exact gWo_no hn hno rfl) (by exact xor_step hl (fun z => by have z := (mw_tog hw1.1 i hno).mpr z; exact ⟨fun q => by omega, fun q => by omega⟩) (fun z => by have z := fun y => z ((mw_tog hw1.1 i hno).mp y); omega)) (by omega)
                      · skip
                        refine g_iconst rfl ?_
                        refine g_goto rfl ?_
                        refine g_istore (l1 := [(8, aI 1), (24, aI 0), (23, aI 0), (22, aI 0), (20, aJ (((((gx S p i) * w1) - x) * (((gy S p (gAft S p i)) * w1) - y)) - ((((gy S p i) * w1) - y) * (((gx S p (gAft S p i)) * w1) - x)))), (18, aJ (((gy S p (gAft S p i)) * w1) - y)), (16, aJ (((gx S p (gAft S p i)) * w1) - x)), (14, aJ (((gy S p i) * w1) - y)), (12, aJ (((gx S p i) * w1) - x)), (11, aI (((12 * p + (gAft S p i) : Nat) : Int))), (10, aI ((12 * p + i : Int))), (9, aI ((i : Int))), (0, aO (some o)), (1, aI ((p : Int))), (2, aJ x), (4, aJ y), (6, aJ w1)]) rfl rfl ?_
                        refine g_iinc (l1 := [(9, aI ((i : Int) + 1)), (8, aI 1), (24, aI 0), (23, aI 0), (22, aI 0), (20, aJ (((((gx S p i) * w1) - x) * (((gy S p (gAft S p i)) * w1) - y)) - ((((gy S p i) * w1) - y) * (((gx S p (gAft S p i)) * w1) - x)))), (18, aJ (((gy S p (gAft S p i)) * w1) - y)), (16, aJ (((gx S p (gAft S p i)) * w1) - x)), (14, aJ (((gy S p i) * w1) - y)), (12, aJ (((gx S p i) * w1) - x)), (11, aI (((12 * p + (gAft S p i) : Nat) : Int))), (10, aI ((12 * p + i : Int))), (0, aO (some o)), (1, aI ((p : Int))), (2, aJ x), (4, aJ y), (6, aJ w1)]) rfl rfl (by omega) (by omega) rfl ?_
                        refine g_goto rfl ?_
                        refine g_ls [0, 1, 12, 13, 14, 15, 16] rfl rfl ?_
                        exact ih6 (i + 1) _ (by omega) (by exact gWo_no hn hno rfl) (by exact xor_step hl (fun z => by have z := (mw_tog hw1.1 i hno).mpr z; exact ⟨fun q => by omega, fun q => by omega⟩) (fun z => by have z := fun y => z ((mw_tog hw1.1 i hno).mp y); omega)) (by omega)
                    · skip
                      refine g_lload rfl rfl ?_
                      refine g_lconst0 rfl ?_
                      refine g_lc_le rfl rfl (fun cq212 => ?_) (fun cq212 => ?_)
                      · skip
                        refine g_iconst rfl ?_
                        refine g_istore (l1 := [(24, aI 0), (23, aI 0), (22, aI 0), (20, aJ (((((gx S p i) * w1) - x) * (((gy S p (gAft S p i)) * w1) - y)) - ((((gy S p i) * w1) - y) * (((gx S p (gAft S p i)) * w1) - x)))), (18, aJ (((gy S p (gAft S p i)) * w1) - y)), (16, aJ (((gx S p (gAft S p i)) * w1) - x)), (14, aJ (((gy S p i) * w1) - y)), (12, aJ (((gx S p i) * w1) - x)), (11, aI (((12 * p + (gAft S p i) : Nat) : Int))), (10, aI ((12 * p + i : Int))), (9, aI ((i : Int))), (8, aI l), (0, aO (some o)), (1, aI ((p : Int))), (2, aJ x), (4, aJ y), (6, aJ w1)]) rfl rfl ?_
                        refine g_iload rfl rfl ?_
                        refine g_iload rfl rfl ?_
                        refine g_if_eq_t rfl (by omega) ?_
                        refine g_iload rfl rfl ?_
                        refine g_if_eq_t rfl (by omega) ?_
                        refine g_iconst rfl ?_
                        refine g_icmp_eq rfl (fun cq254 => ?_) (fun cq254 => ?_)
                        · skip
                          refine g_iconst rfl ?_
                          refine g_istore (l1 := [(8, aI 0), (24, aI 0), (23, aI 0), (22, aI 0), (20, aJ (((((gx S p i) * w1) - x) * (((gy S p (gAft S p i)) * w1) - y)) - ((((gy S p i) * w1) - y) * (((gx S p (gAft S p i)) * w1) - x)))), (18, aJ (((gy S p (gAft S p i)) * w1) - y)), (16, aJ (((gx S p (gAft S p i)) * w1) - x)), (14, aJ (((gy S p i) * w1) - y)), (12, aJ (((gx S p i) * w1) - x)), (11, aI (((12 * p + (gAft S p i) : Nat) : Int))), (10, aI ((12 * p + i : Int))), (9, aI ((i : Int))), (0, aO (some o)), (1, aI ((p : Int))), (2, aJ x), (4, aJ y), (6, aJ w1)]) rfl rfl ?_
                          refine g_iinc (l1 := [(9, aI ((i : Int) + 1)), (8, aI 0), (24, aI 0), (23, aI 0), (22, aI 0), (20, aJ (((((gx S p i) * w1) - x) * (((gy S p (gAft S p i)) * w1) - y)) - ((((gy S p i) * w1) - y) * (((gx S p (gAft S p i)) * w1) - x)))), (18, aJ (((gy S p (gAft S p i)) * w1) - y)), (16, aJ (((gx S p (gAft S p i)) * w1) - x)), (14, aJ (((gy S p i) * w1) - y)), (12, aJ (((gx S p i) * w1) - x)), (11, aI (((12 * p + (gAft S p i) : Nat) : Int))), (10, aI ((12 * p + i : Int))), (0, aO (some o)), (1, aI ((p : Int))), (2, aJ x), (4, aJ y), (6, aJ w1)]) rfl rfl (by omega) (by omega) rfl ?_
                          refine g_goto rfl ?_
                          refine g_ls [0, 1, 12, 13, 14, 15, 16] rfl rfl ?_
                          exact ih6 (i + 1) _ (by omega) (by exact gWo_no hn hno rfl) (by exact xor_step hl (fun z => by have z := (mw_tog hw1.1 i hno).mpr z; exact ⟨fun q => by omega, fun q => by omega⟩) (fun z => by have z := fun y => z ((mw_tog hw1.1 i hno).mp y); omega)) (by omega)
                        · skip
                          refine g_iconst rfl ?_
                          refine g_goto rfl ?_
                          refine g_istore (l1 := [(8, aI 1), (24, aI 0), (23, aI 0), (22, aI 0), (20, aJ (((((gx S p i) * w1) - x) * (((gy S p (gAft S p i)) * w1) - y)) - ((((gy S p i) * w1) - y) * (((gx S p (gAft S p i)) * w1) - x)))), (18, aJ (((gy S p (gAft S p i)) * w1) - y)), (16, aJ (((gx S p (gAft S p i)) * w1) - x)), (14, aJ (((gy S p i) * w1) - y)), (12, aJ (((gx S p i) * w1) - x)), (11, aI (((12 * p + (gAft S p i) : Nat) : Int))), (10, aI ((12 * p + i : Int))), (9, aI ((i : Int))), (0, aO (some o)), (1, aI ((p : Int))), (2, aJ x), (4, aJ y), (6, aJ w1)]) rfl rfl ?_
                          refine g_iinc (l1 := [(9, aI ((i : Int) + 1)), (8, aI 1), (24, aI 0), (23, aI 0), (22, aI 0), (20, aJ (((((gx S p i) * w1) - x) * (((gy S p (gAft S p i)) * w1) - y)) - ((((gy S p i) * w1) - y) * (((gx S p (gAft S p i)) * w1) - x)))), (18, aJ (((gy S p (gAft S p i)) * w1) - y)), (16, aJ (((gx S p (gAft S p i)) * w1) - x)), (14, aJ (((gy S p i) * w1) - y)), (12, aJ (((gx S p i) * w1) - x)), (11, aI (((12 * p + (gAft S p i) : Nat) : Int))), (10, aI ((12 * p + i : Int))), (0, aO (some o)), (1, aI ((p : Int))), (2, aJ x), (4, aJ y), (6, aJ w1)]) rfl rfl (by omega) (by omega) rfl ?_
                          refine g_goto rfl ?_
                          refine g_ls [0, 1, 12, 13, 14, 15, 16] rfl rfl ?_
                          exact ih6 (i + 1) _ (by omega) (by exact gWo_no hn hno rfl) (by exact xor_step hl (fun z => by have z := (mw_tog hw1.1 i hno).mpr z; exact ⟨fun q => by omega, fun q => by omega⟩) (fun z => by have z := fun y => z ((mw_tog hw1.1 i hno).mp y); omega)) (by omega)
                      · skip
                        refine g_iconst rfl ?_
                        refine g_goto rfl ?_
                        refine g_istore (l1 := [(24, aI 1), (23, aI 0), (22, aI 0), (20, aJ (((((gx S p i) * w1) - x) * (((gy S p (gAft S p i)) * w1) - y)) - ((((gy S p i) * w1) - y) * (((gx S p (gAft S p i)) * w1) - x)))), (18, aJ (((gy S p (gAft S p i)) * w1) - y)), (16, aJ (((gx S p (gAft S p i)) * w1) - x)), (14, aJ (((gy S p i) * w1) - y)), (12, aJ (((gx S p i) * w1) - x)), (11, aI (((12 * p + (gAft S p i) : Nat) : Int))), (10, aI ((12 * p + i : Int))), (9, aI ((i : Int))), (8, aI l), (0, aO (some o)), (1, aI ((p : Int))), (2, aJ x), (4, aJ y), (6, aJ w1)]) rfl rfl ?_
                        refine g_iload rfl rfl ?_
                        refine g_iload rfl rfl ?_
                        refine g_if_eq_t rfl (by omega) ?_
                        refine g_iload rfl rfl ?_
                        refine g_if_eq_f rfl (by omega) ?_
                        refine g_lload rfl rfl ?_
                        refine g_lconst0 rfl ?_
                        refine g_lc_ge rfl rfl (fun cq245 => ?_) (fun cq245 => ?_)
                        · skip
                          refine g_iconst rfl ?_
                          refine g_icmp_eq rfl (fun cq254 => ?_) (fun cq254 => ?_)
                          · skip
                            refine g_iconst rfl ?_
                            refine g_istore (l1 := [(8, aI 0), (24, aI 1), (23, aI 0), (22, aI 0), (20, aJ (((((gx S p i) * w1) - x) * (((gy S p (gAft S p i)) * w1) - y)) - ((((gy S p i) * w1) - y) * (((gx S p (gAft S p i)) * w1) - x)))), (18, aJ (((gy S p (gAft S p i)) * w1) - y)), (16, aJ (((gx S p (gAft S p i)) * w1) - x)), (14, aJ (((gy S p i) * w1) - y)), (12, aJ (((gx S p i) * w1) - x)), (11, aI (((12 * p + (gAft S p i) : Nat) : Int))), (10, aI ((12 * p + i : Int))), (9, aI ((i : Int))), (0, aO (some o)), (1, aI ((p : Int))), (2, aJ x), (4, aJ y), (6, aJ w1)]) rfl rfl ?_
                            refine g_iinc (l1 := [(9, aI ((i : Int) + 1)), (8, aI 0), (24, aI 1), (23, aI 0), (22, aI 0), (20, aJ (((((gx S p i) * w1) - x) * (((gy S p (gAft S p i)) * w1) - y)) - ((((gy S p i) * w1) - y) * (((gx S p (gAft S p i)) * w1) - x)))), (18, aJ (((gy S p (gAft S p i)) * w1) - y)), (16, aJ (((gx S p (gAft S p i)) * w1) - x)), (14, aJ (((gy S p i) * w1) - y)), (12, aJ (((gx S p i) * w1) - x)), (11, aI (((12 * p + (gAft S p i) : Nat) : Int))), (10, aI ((12 * p + i : Int))), (0, aO (some o)), (1, aI ((p : Int))), (2, aJ x), (4, aJ y), (6, aJ w1)]) rfl rfl (by omega) (by omega) rfl ?_
                            refine g_goto rfl ?_
                            refine g_ls [0, 1, 12, 13, 14, 15, 16] rfl rfl ?_
                            exact ih6 (i + 1) _ (by omega) (by exact gWo_no hn hno rfl) (by exact xor_step hl (fun z => by have z := (mw_tog hw1.1 i hno).mpr z; exact ⟨fun q => by omega, fun q => by omega⟩) (fun z => by have z := fun y => z ((mw_tog hw1.1 i hno).mp y); omega)) (by omega)
                          · skip
                            refine g_iconst rfl ?_
                            refine g_goto rfl ?_
                            refine g_istore (l1 := [(8, aI 1), (24, aI 1), (23, aI 0), (22, aI 0), (20, aJ (((((gx S p i) * w1) - x) * (((gy S p (gAft S p i)) * w1) - y)) - ((((gy S p i) * w1) - y) * (((gx S p (gAft S p i)) * w1) - x)))), (18, aJ (((gy S p (gAft S p i)) * w1) - y)), (16, aJ (((gx S p (gAft S p i)) * w1) - x)), (14, aJ (((gy S p i) * w1) - y)), (12, aJ (((gx S p i) * w1) - x)), (11, aI (((12 * p + (gAft S p i) : Nat) : Int))), (10, aI ((12 * p + i : Int))), (9, aI ((i : Int))), (0, aO (some o)), (1, aI ((p : Int))), (2, aJ x), (4, aJ y), (6, aJ w1)]) rfl rfl ?_
                            refine g_iinc (l1 := [(9, aI ((i : Int) + 1)), (8, aI 1), (24, aI 1), (23, aI 0), (22, aI 0), (20, aJ (((((gx S p i) * w1) - x) * (((gy S p (gAft S p i)) * w1) - y)) - ((((gy S p i) * w1) - y) * (((gx S p (gAft S p i)) * w1) - x)))), (18, aJ (((gy S p (gAft S p i)) * w1) - y)), (16, aJ (((gx S p (gAft S p i)) * w1) - x)), (14, aJ (((gy S p i) * w1) - y)), (12, aJ (((gx S p i) * w1) - x)), (11, aI (((12 * p + (gAft S p i) : Nat) : Int))), (10, aI ((12 * p + i : Int))), (0, aO (some o)), (1, aI ((p : Int))), (2, aJ x), (4, aJ y), (6, aJ w1)]) rfl rfl (by omega) (by omega) rfl ?_
                            refine g_goto rfl ?_
                            refine g_ls [0, 1, 12, 13, 14, 15, 16] rfl rfl ?_
                            exact ih6 (i + 1) _ (by omega) (by exact gWo_no hn hno rfl) (by exact xor_step hl (fun z => by have z := (mw_tog hw1.1 i hno).mpr z; exact ⟨fun q => by omega, fun q => by omega⟩) (fun z => by have z := fun y => z ((mw_tog hw1.1 i hno).mp y); omega)) (by omega)
                        · skip
                          refine g_iconst rfl ?_
                          refine g_goto rfl ?_
                          refine g_icmp_eq rfl (fun cq254 => ?_) (fun cq254 => ?_)
                          · skip
                            refine g_iconst rfl ?_
                            refine g_istore (l1 := [(8, aI 0), (24, aI 1), (23, aI 0), (22, aI 0), (20, aJ (((((gx S p i) * w1) - x) * (((gy S p (gAft S p i)) * w1) - y)) - ((((gy S p i) * w1) - y) * (((gx S p (gAft S p i)) * w1) - x)))), (18, aJ (((gy S p (gAft S p i)) * w1) - y)), (16, aJ (((gx S p (gAft S p i)) * w1) - x)), (14, aJ (((gy S p i) * w1) - y)), (12, aJ (((gx S p i) * w1) - x)), (11, aI (((12 * p + (gAft S p i) : Nat) : Int))), (10, aI ((12 * p + i : Int))), (9, aI ((i : Int))), (0, aO (some o)), (1, aI ((p : Int))), (2, aJ x), (4, aJ y), (6, aJ w1)]) rfl rfl ?_
                            refine g_iinc (l1 := [(9, aI ((i : Int) + 1)), (8, aI 0), (24, aI 1), (23, aI 0), (22, aI 0), (20, aJ (((((gx S p i) * w1) - x) * (((gy S p (gAft S p i)) * w1) - y)) - ((((gy S p i) * w1) - y) * (((gx S p (gAft S p i)) * w1) - x)))), (18, aJ (((gy S p (gAft S p i)) * w1) - y)), (16, aJ (((gx S p (gAft S p i)) * w1) - x)), (14, aJ (((gy S p i) * w1) - y)), (12, aJ (((gx S p i) * w1) - x)), (11, aI (((12 * p + (gAft S p i) : Nat) : Int))), (10, aI ((12 * p + i : Int))), (0, aO (some o)), (1, aI ((p : Int))), (2, aJ x), (4, aJ y), (6, aJ w1)]) rfl rfl (by omega) (by omega) rfl ?_
                            refine g_goto rfl ?_
                            refine g_ls [0, 1, 12, 13, 14, 15, 16] rfl rfl ?_
                            exact ih6 (i + 1) _ (by omega) (by exact gWo_no hn hno rfl) (by exact xor_step hl (fun z => by have z := (mw_tog hw1.1 i hno).mpr z; exact ⟨fun q => by omega, fun q => by omega⟩) (fun z => by have z := fun y => z ((mw_tog hw1.1 i hno).mp y); omega)) (by omega)
                          · skip
                            refine g_iconst rfl ?_
                            refine g_goto rfl ?_
                            refine g_istore (l1 := [(8, aI 1), (24, aI 1), (23, aI 0), (22, aI 0), (20, aJ (((((gx S p i) * w1) - x) * (((gy S p (gAft S p i)) * w1) - y)) - ((((gy S p i) * w1) - y) * (((gx S p (gAft S p i)) * w1) - x)))), (18, aJ (((gy S p (gAft S p i)) * w1) - y)), (16, aJ (((gx S p (gAft S p i)) * w1) - x)), (14, aJ (((gy S p i) * w1) - y)), (12, aJ (((gx S p i) * w1) - x)), (11, aI (((12 * p + (gAft S p i) : Nat) : Int))), (10, aI ((12 * p + i : Int))), (9, aI ((i : Int))), (0, aO (some o)), (1, aI ((p : Int))), (2, aJ x), (4, aJ y), (6, aJ w1)]) rfl rfl ?_
                            refine g_iinc (l1 := [(9, aI ((i : Int) + 1)), (8, aI 1), (24, aI 1), (23, aI 0), (22, aI 0), (20, aJ (((((gx S p i) * w1) - x) * (((gy S p (gAft S p i)) * w1) - y)) - ((((gy S p i) * w1) - y) * (((gx S p (gAft S p i)) * w1) - x)))), (18, aJ (((gy S p (gAft S p i)) * w1) - y)), (16, aJ (((gx S p (gAft S p i)) * w1) - x)), (14, aJ (((gy S p i) * w1) - y)), (12, aJ (((gx S p i) * w1) - x)), (11, aI (((12 * p + (gAft S p i) : Nat) : Int))), (10, aI ((12 * p + i : Int))), (0, aO (some o)), (1, aI ((p : Int))), (2, aJ x), (4, aJ y), (6, aJ w1)]) rfl rfl (by omega) (by omega) rfl ?_
                            refine g_goto rfl ?_
                            refine g_ls [0, 1, 12, 13, 14, 15, 16] rfl rfl ?_
                            exact ih6 (i + 1) _ (by omega) (by exact gWo_no hn hno rfl) (by exact xor_step hl (fun z => by have z := (mw_tog hw1.1 i hno).mpr z; exact ⟨fun q => by omega, fun q => by omega⟩) (fun z => by have z := fun y => z ((mw_tog hw1.1 i hno).mp y); omega)) (by omega)
                  · skip
                    refine g_lload rfl rfl ?_
                    refine g_lconst0 rfl ?_
                    refine g_lc_le rfl rfl (fun cq191 => ?_) (fun cq191 => ?_)
                    · skip
                      refine g_iconst rfl ?_
                      refine g_istore (l1 := [(23, aI 0), (22, aI 0), (20, aJ (((((gx S p i) * w1) - x) * (((gy S p (gAft S p i)) * w1) - y)) - ((((gy S p i) * w1) - y) * (((gx S p (gAft S p i)) * w1) - x)))), (18, aJ (((gy S p (gAft S p i)) * w1) - y)), (16, aJ (((gx S p (gAft S p i)) * w1) - x)), (14, aJ (((gy S p i) * w1) - y)), (12, aJ (((gx S p i) * w1) - x)), (11, aI (((12 * p + (gAft S p i) : Nat) : Int))), (10, aI ((12 * p + i : Int))), (9, aI ((i : Int))), (8, aI l), (0, aO (some o)), (1, aI ((p : Int))), (2, aJ x), (4, aJ y), (6, aJ w1)]) rfl rfl ?_
                      refine g_lload rfl rfl ?_
                      refine g_lconst0 rfl ?_
                      refine g_lc_gt rfl rfl (fun cq205 => ?_) (fun cq205 => ?_)
                      · skip
                        refine g_iconst rfl ?_
                        refine g_istore (l1 := [(24, aI 0), (23, aI 0), (22, aI 0), (20, aJ (((((gx S p i) * w1) - x) * (((gy S p (gAft S p i)) * w1) - y)) - ((((gy S p i) * w1) - y) * (((gx S p (gAft S p i)) * w1) - x)))), (18, aJ (((gy S p (gAft S p i)) * w1) - y)), (16, aJ (((gx S p (gAft S p i)) * w1) - x)), (14, aJ (((gy S p i) * w1) - y)), (12, aJ (((gx S p i) * w1) - x)), (11, aI (((12 * p + (gAft S p i) : Nat) : Int))), (10, aI ((12 * p + i : Int))), (9, aI ((i : Int))), (8, aI l), (0, aO (some o)), (1, aI ((p : Int))), (2, aJ x), (4, aJ y), (6, aJ w1)]) rfl rfl ?_
                        refine g_iload rfl rfl ?_
                        refine g_iload rfl rfl ?_
                        refine g_if_eq_t rfl (by omega) ?_
                        refine g_iload rfl rfl ?_
                        refine g_if_eq_t rfl (by omega) ?_
                        refine g_iconst rfl ?_
                        refine g_icmp_eq rfl (fun cq254 => ?_) (fun cq254 => ?_)
                        · skip
                          refine g_iconst rfl ?_
                          refine g_istore (l1 := [(8, aI 0), (24, aI 0), (23, aI 0), (22, aI 0), (20, aJ (((((gx S p i) * w1) - x) * (((gy S p (gAft S p i)) * w1) - y)) - ((((gy S p i) * w1) - y) * (((gx S p (gAft S p i)) * w1) - x)))), (18, aJ (((gy S p (gAft S p i)) * w1) - y)), (16, aJ (((gx S p (gAft S p i)) * w1) - x)), (14, aJ (((gy S p i) * w1) - y)), (12, aJ (((gx S p i) * w1) - x)), (11, aI (((12 * p + (gAft S p i) : Nat) : Int))), (10, aI ((12 * p + i : Int))), (9, aI ((i : Int))), (0, aO (some o)), (1, aI ((p : Int))), (2, aJ x), (4, aJ y), (6, aJ w1)]) rfl rfl ?_
                          refine g_iinc (l1 := [(9, aI ((i : Int) + 1)), (8, aI 0), (24, aI 0), (23, aI 0), (22, aI 0), (20, aJ (((((gx S p i) * w1) - x) * (((gy S p (gAft S p i)) * w1) - y)) - ((((gy S p i) * w1) - y) * (((gx S p (gAft S p i)) * w1) - x)))), (18, aJ (((gy S p (gAft S p i)) * w1) - y)), (16, aJ (((gx S p (gAft S p i)) * w1) - x)), (14, aJ (((gy S p i) * w1) - y)), (12, aJ (((gx S p i) * w1) - x)), (11, aI (((12 * p + (gAft S p i) : Nat) : Int))), (10, aI ((12 * p + i : Int))), (0, aO (some o)), (1, aI ((p : Int))), (2, aJ x), (4, aJ y), (6, aJ w1)]) rfl rfl (by omega) (by omega) rfl ?_
                          refine g_goto rfl ?_
                          refine g_ls [0, 1, 12, 13, 14, 15, 16] rfl rfl ?_
                          exact ih6 (i + 1) _ (by omega) (by exact gWo_no hn hno rfl) (by exact xor_step hl (fun z => by have z := (mw_tog hw1.1 i hno).mpr z; exact ⟨fun q => by omega, fun q => by omega⟩) (fun z => by have z := fun y => z ((mw_tog hw1.1 i hno).mp y); omega)) (by omega)
                        · skip
                          refine g_iconst rfl ?_
                          refine g_goto rfl ?_
                          refine g_istore (l1 := [(8, aI 1), (24, aI 0), (23, aI 0), (22, aI 0), (20, aJ (((((gx S p i) * w1) - x) * (((gy S p (gAft S p i)) * w1) - y)) - ((((gy S p i) * w1) - y) * (((gx S p (gAft S p i)) * w1) - x)))), (18, aJ (((gy S p (gAft S p i)) * w1) - y)), (16, aJ (((gx S p (gAft S p i)) * w1) - x)), (14, aJ (((gy S p i) * w1) - y)), (12, aJ (((gx S p i) * w1) - x)), (11, aI (((12 * p + (gAft S p i) : Nat) : Int))), (10, aI ((12 * p + i : Int))), (9, aI ((i : Int))), (0, aO (some o)), (1, aI ((p : Int))), (2, aJ x), (4, aJ y), (6, aJ w1)]) rfl rfl ?_
                          refine g_iinc (l1 := [(9, aI ((i : Int) + 1)), (8, aI 1), (24, aI 0), (23, aI 0), (22, aI 0), (20, aJ (((((gx S p i) * w1) - x) * (((gy S p (gAft S p i)) * w1) - y)) - ((((gy S p i) * w1) - y) * (((gx S p (gAft S p i)) * w1) - x)))), (18, aJ (((gy S p (gAft S p i)) * w1) - y)), (16, aJ (((gx S p (gAft S p i)) * w1) - x)), (14, aJ (((gy S p i) * w1) - y)), (12, aJ (((gx S p i) * w1) - x)), (11, aI (((12 * p + (gAft S p i) : Nat) : Int))), (10, aI ((12 * p + i : Int))), (0, aO (some o)), (1, aI ((p : Int))), (2, aJ x), (4, aJ y), (6, aJ w1)]) rfl rfl (by omega) (by omega) rfl ?_
                          refine g_goto rfl ?_
                          refine g_ls [0, 1, 12, 13, 14, 15, 16] rfl rfl ?_
                          exact ih6 (i + 1) _ (by omega) (by exact gWo_no hn hno rfl) (by exact xor_step hl (fun z => by have z := (mw_tog hw1.1 i hno).mpr z; exact ⟨fun q => by omega, fun q => by omega⟩) (fun z => by have z := fun y => z ((mw_tog hw1.1 i hno).mp y); omega)) (by omega)
                      · skip
                        refine g_lload rfl rfl ?_
                        refine g_lconst0 rfl ?_
                        refine g_lc_le rfl rfl (fun cq212 => ?_) (fun cq212 => ?_)
                        · skip
                          refine g_iconst rfl ?_
                          refine g_istore (l1 := [(24, aI 0), (23, aI 0), (22, aI 0), (20, aJ (((((gx S p i) * w1) - x) * (((gy S p (gAft S p i)) * w1) - y)) - ((((gy S p i) * w1) - y) * (((gx S p (gAft S p i)) * w1) - x)))), (18, aJ (((gy S p (gAft S p i)) * w1) - y)), (16, aJ (((gx S p (gAft S p i)) * w1) - x)), (14, aJ (((gy S p i) * w1) - y)), (12, aJ (((gx S p i) * w1) - x)), (11, aI (((12 * p + (gAft S p i) : Nat) : Int))), (10, aI ((12 * p + i : Int))), (9, aI ((i : Int))), (8, aI l), (0, aO (some o)), (1, aI ((p : Int))), (2, aJ x), (4, aJ y), (6, aJ w1)]) rfl rfl ?_
                          refine g_iload rfl rfl ?_
                          refine g_iload rfl rfl ?_
                          refine g_if_eq_t rfl (by omega) ?_
                          refine g_iload rfl rfl ?_
                          refine g_if_eq_t rfl (by omega) ?_
                          refine g_iconst rfl ?_
                          refine g_icmp_eq rfl (fun cq254 => ?_) (fun cq254 => ?_)
                          · skip
                            refine g_iconst rfl ?_
                            refine g_istore (l1 := [(8, aI 0), (24, aI 0), (23, aI 0), (22, aI 0), (20, aJ (((((gx S p i) * w1) - x) * (((gy S p (gAft S p i)) * w1) - y)) - ((((gy S p i) * w1) - y) * (((gx S p (gAft S p i)) * w1) - x)))), (18, aJ (((gy S p (gAft S p i)) * w1) - y)), (16, aJ (((gx S p (gAft S p i)) * w1) - x)), (14, aJ (((gy S p i) * w1) - y)), (12, aJ (((gx S p i) * w1) - x)), (11, aI (((12 * p + (gAft S p i) : Nat) : Int))), (10, aI ((12 * p + i : Int))), (9, aI ((i : Int))), (0, aO (some o)), (1, aI ((p : Int))), (2, aJ x), (4, aJ y), (6, aJ w1)]) rfl rfl ?_
                            refine g_iinc (l1 := [(9, aI ((i : Int) + 1)), (8, aI 0), (24, aI 0), (23, aI 0), (22, aI 0), (20, aJ (((((gx S p i) * w1) - x) * (((gy S p (gAft S p i)) * w1) - y)) - ((((gy S p i) * w1) - y) * (((gx S p (gAft S p i)) * w1) - x)))), (18, aJ (((gy S p (gAft S p i)) * w1) - y)), (16, aJ (((gx S p (gAft S p i)) * w1) - x)), (14, aJ (((gy S p i) * w1) - y)), (12, aJ (((gx S p i) * w1) - x)), (11, aI (((12 * p + (gAft S p i) : Nat) : Int))), (10, aI ((12 * p + i : Int))), (0, aO (some o)), (1, aI ((p : Int))), (2, aJ x), (4, aJ y), (6, aJ w1)]) rfl rfl (by omega) (by omega) rfl ?_
                            refine g_goto rfl ?_
                            refine g_ls [0, 1, 12, 13, 14, 15, 16] rfl rfl ?_
                            exact ih6 (i + 1) _ (by omega) (by exact gWo_no hn hno rfl) (by exact xor_step hl (fun z => by have z := (mw_tog hw1.1 i hno).mpr z; exact ⟨fun q => by omega, fun q => by omega⟩) (fun z => by have z := fun y => z ((mw_tog hw1.1 i hno).mp y); omega)) (by omega)
                          · skip
                            refine g_iconst rfl ?_
                            refine g_goto rfl ?_
                            refine g_istore (l1 := [(8, aI 1), (24, aI 0), (23, aI 0), (22, aI 0), (20, aJ (((((gx S p i) * w1) - x) * (((gy S p (gAft S p i)) * w1) - y)) - ((((gy S p i) * w1) - y) * (((gx S p (gAft S p i)) * w1) - x)))), (18, aJ (((gy S p (gAft S p i)) * w1) - y)), (16, aJ (((gx S p (gAft S p i)) * w1) - x)), (14, aJ (((gy S p i) * w1) - y)), (12, aJ (((gx S p i) * w1) - x)), (11, aI (((12 * p + (gAft S p i) : Nat) : Int))), (10, aI ((12 * p + i : Int))), (9, aI ((i : Int))), (0, aO (some o)), (1, aI ((p : Int))), (2, aJ x), (4, aJ y), (6, aJ w1)]) rfl rfl ?_
                            refine g_iinc (l1 := [(9, aI ((i : Int) + 1)), (8, aI 1), (24, aI 0), (23, aI 0), (22, aI 0), (20, aJ (((((gx S p i) * w1) - x) * (((gy S p (gAft S p i)) * w1) - y)) - ((((gy S p i) * w1) - y) * (((gx S p (gAft S p i)) * w1) - x)))), (18, aJ (((gy S p (gAft S p i)) * w1) - y)), (16, aJ (((gx S p (gAft S p i)) * w1) - x)), (14, aJ (((gy S p i) * w1) - y)), (12, aJ (((gx S p i) * w1) - x)), (11, aI (((12 * p + (gAft S p i) : Nat) : Int))), (10, aI ((12 * p + i : Int))), (0, aO (some o)), (1, aI ((p : Int))), (2, aJ x), (4, aJ y), (6, aJ w1)]) rfl rfl (by omega) (by omega) rfl ?_
                            refine g_goto rfl ?_
                            refine g_ls [0, 1, 12, 13, 14, 15, 16] rfl rfl ?_
                            exact ih6 (i + 1) _ (by omega) (by exact gWo_no hn hno rfl) (by exact xor_step hl (fun z => by have z := (mw_tog hw1.1 i hno).mpr z; exact ⟨fun q => by omega, fun q => by omega⟩) (fun z => by have z := fun y => z ((mw_tog hw1.1 i hno).mp y); omega)) (by omega)
                        · skip
                          refine g_iconst rfl ?_
                          refine g_goto rfl ?_
                          refine g_istore (l1 := [(24, aI 1), (23, aI 0), (22, aI 0), (20, aJ (((((gx S p i) * w1) - x) * (((gy S p (gAft S p i)) * w1) - y)) - ((((gy S p i) * w1) - y) * (((gx S p (gAft S p i)) * w1) - x)))), (18, aJ (((gy S p (gAft S p i)) * w1) - y)), (16, aJ (((gx S p (gAft S p i)) * w1) - x)), (14, aJ (((gy S p i) * w1) - y)), (12, aJ (((gx S p i) * w1) - x)), (11, aI (((12 * p + (gAft S p i) : Nat) : Int))), (10, aI ((12 * p + i : Int))), (9, aI ((i : Int))), (8, aI l), (0, aO (some o)), (1, aI ((p : Int))), (2, aJ x), (4, aJ y), (6, aJ w1)]) rfl rfl ?_
                          refine g_iload rfl rfl ?_
                          refine g_iload rfl rfl ?_
                          refine g_if_eq_t rfl (by omega) ?_
                          refine g_iload rfl rfl ?_
                          refine g_if_eq_f rfl (by omega) ?_
                          refine g_lload rfl rfl ?_
                          refine g_lconst0 rfl ?_
                          refine g_lc_ge rfl rfl (fun cq245 => ?_) (fun cq245 => ?_)
                          · skip
                            refine g_iconst rfl ?_
                            refine g_icmp_eq rfl (fun cq254 => ?_) (fun cq254 => ?_)
                            · skip
                              refine g_iconst rfl ?_
                              refine g_istore (l1 := [(8, aI 0), (24, aI 1), (23, aI 0), (22, aI 0), (20, aJ (((((gx S p i) * w1) - x) * (((gy S p (gAft S p i)) * w1) - y)) - ((((gy S p i) * w1) - y) * (((gx S p (gAft S p i)) * w1) - x)))), (18, aJ (((gy S p (gAft S p i)) * w1) - y)), (16, aJ (((gx S p (gAft S p i)) * w1) - x)), (14, aJ (((gy S p i) * w1) - y)), (12, aJ (((gx S p i) * w1) - x)), (11, aI (((12 * p + (gAft S p i) : Nat) : Int))), (10, aI ((12 * p + i : Int))), (9, aI ((i : Int))), (0, aO (some o)), (1, aI ((p : Int))), (2, aJ x), (4, aJ y), (6, aJ w1)]) rfl rfl ?_
                              refine g_iinc (l1 := [(9, aI ((i : Int) + 1)), (8, aI 0), (24, aI 1), (23, aI 0), (22, aI 0), (20, aJ (((((gx S p i) * w1) - x) * (((gy S p (gAft S p i)) * w1) - y)) - ((((gy S p i) * w1) - y) * (((gx S p (gAft S p i)) * w1) - x)))), (18, aJ (((gy S p (gAft S p i)) * w1) - y)), (16, aJ (((gx S p (gAft S p i)) * w1) - x)), (14, aJ (((gy S p i) * w1) - y)), (12, aJ (((gx S p i) * w1) - x)), (11, aI (((12 * p + (gAft S p i) : Nat) : Int))), (10, aI ((12 * p + i : Int))), (0, aO (some o)), (1, aI ((p : Int))), (2, aJ x), (4, aJ y), (6, aJ w1)]) rfl rfl (by omega) (by omega) rfl ?_
                              refine g_goto rfl ?_
                              refine g_ls [0, 1, 12, 13, 14, 15, 16] rfl rfl ?_
                              exact ih6 (i + 1) _ (by omega) (by exact gWo_no hn hno rfl) (by exact xor_step hl (fun z => by have z := (mw_tog hw1.1 i hno).mpr z; exact ⟨fun q => by omega, fun q => by omega⟩) (fun z => by have z := fun y => z ((mw_tog hw1.1 i hno).mp y); omega)) (by omega)
                            · skip
                              refine g_iconst rfl ?_
                              refine g_goto rfl ?_
                              refine g_istore (l1 := [(8, aI 1), (24, aI 1), (23, aI 0), (22, aI 0), (20, aJ (((((gx S p i) * w1) - x) * (((gy S p (gAft S p i)) * w1) - y)) - ((((gy S p i) * w1) - y) * (((gx S p (gAft S p i)) * w1) - x)))), (18, aJ (((gy S p (gAft S p i)) * w1) - y)), (16, aJ (((gx S p (gAft S p i)) * w1) - x)), (14, aJ (((gy S p i) * w1) - y)), (12, aJ (((gx S p i) * w1) - x)), (11, aI (((12 * p + (gAft S p i) : Nat) : Int))), (10, aI ((12 * p + i : Int))), (9, aI ((i : Int))), (0, aO (some o)), (1, aI ((p : Int))), (2, aJ x), (4, aJ y), (6, aJ w1)]) rfl rfl ?_
                              refine g_iinc (l1 := [(9, aI ((i : Int) + 1)), (8, aI 1), (24, aI 1), (23, aI 0), (22, aI 0), (20, aJ (((((gx S p i) * w1) - x) * (((gy S p (gAft S p i)) * w1) - y)) - ((((gy S p i) * w1) - y) * (((gx S p (gAft S p i)) * w1) - x)))), (18, aJ (((gy S p (gAft S p i)) * w1) - y)), (16, aJ (((gx S p (gAft S p i)) * w1) - x)), (14, aJ (((gy S p i) * w1) - y)), (12, aJ (((gx S p i) * w1) - x)), (11, aI (((12 * p + (gAft S p i) : Nat) : Int))), (10, aI ((12 * p + i : Int))), (0, aO (some o)), (1, aI ((p : Int))), (2, aJ x), (4, aJ y), (6, aJ w1)]) rfl rfl (by omega) (by omega) rfl ?_
                              refine g_goto rfl ?_
                              refine g_ls [0, 1, 12, 13, 14, 15, 16] rfl rfl ?_
                              exact ih6 (i + 1) _ (by omega) (by exact gWo_no hn hno rfl) (by exact xor_step hl (fun z => by have z := (mw_tog hw1.1 i hno).mpr z; exact ⟨fun q => by omega, fun q => by omega⟩) (fun z => by have z := fun y => z ((mw_tog hw1.1 i hno).mp y); omega)) (by omega)
                          · skip
                            refine g_iconst rfl ?_
                            refine g_goto rfl ?_
                            refine g_icmp_eq rfl (fun cq254 => ?_) (fun cq254 => ?_)
                            · skip
                              refine g_iconst rfl ?_
                              refine g_istore (l1 := [(8, aI 0), (24, aI 1), (23, aI 0), (22, aI 0), (20, aJ (((((gx S p i) * w1) - x) * (((gy S p (gAft S p i)) * w1) - y)) - ((((gy S p i) * w1) - y) * (((gx S p (gAft S p i)) * w1) - x)))), (18, aJ (((gy S p (gAft S p i)) * w1) - y)), (16, aJ (((gx S p (gAft S p i)) * w1) - x)), (14, aJ (((gy S p i) * w1) - y)), (12, aJ (((gx S p i) * w1) - x)), (11, aI (((12 * p + (gAft S p i) : Nat) : Int))), (10, aI ((12 * p + i : Int))), (9, aI ((i : Int))), (0, aO (some o)), (1, aI ((p : Int))), (2, aJ x), (4, aJ y), (6, aJ w1)]) rfl rfl ?_
                              refine g_iinc (l1 := [(9, aI ((i : Int) + 1)), (8, aI 0), (24, aI 1), (23, aI 0), (22, aI 0), (20, aJ (((((gx S p i) * w1) - x) * (((gy S p (gAft S p i)) * w1) - y)) - ((((gy S p i) * w1) - y) * (((gx S p (gAft S p i)) * w1) - x)))), (18, aJ (((gy S p (gAft S p i)) * w1) - y)), (16, aJ (((gx S p (gAft S p i)) * w1) - x)), (14, aJ (((gy S p i) * w1) - y)), (12, aJ (((gx S p i) * w1) - x)), (11, aI (((12 * p + (gAft S p i) : Nat) : Int))), (10, aI ((12 * p + i : Int))), (0, aO (some o)), (1, aI ((p : Int))), (2, aJ x), (4, aJ y), (6, aJ w1)]) rfl rfl (by omega) (by omega) rfl ?_
                              refine g_goto rfl ?_
                              refine g_ls [0, 1, 12, 13, 14, 15, 16] rfl rfl ?_
                              exact ih6 (i + 1) _ (by omega) (by exact gWo_no hn hno rfl) (by exact xor_step hl (fun z => by have z := (mw_tog hw1.1 i hno).mpr z; exact ⟨fun q => by omega, fun q => by omega⟩) (fun z => by have z := fun y => z ((mw_tog hw1.1 i hno).mp y); omega)) (by omega)
                            · skip
                              refine g_iconst rfl ?_
                              refine g_goto rfl ?_
                              refine g_istore (l1 := [(8, aI 1), (24, aI 1), (23, aI 0), (22, aI 0), (20, aJ (((((gx S p i) * w1) - x) * (((gy S p (gAft S p i)) * w1) - y)) - ((((gy S p i) * w1) - y) * (((gx S p (gAft S p i)) * w1) - x)))), (18, aJ (((gy S p (gAft S p i)) * w1) - y)), (16, aJ (((gx S p (gAft S p i)) * w1) - x)), (14, aJ (((gy S p i) * w1) - y)), (12, aJ (((gx S p i) * w1) - x)), (11, aI (((12 * p + (gAft S p i) : Nat) : Int))), (10, aI ((12 * p + i : Int))), (9, aI ((i : Int))), (0, aO (some o)), (1, aI ((p : Int))), (2, aJ x), (4, aJ y), (6, aJ w1)]) rfl rfl ?_
                              refine g_iinc (l1 := [(9, aI ((i : Int) + 1)), (8, aI 1), (24, aI 1), (23, aI 0), (22, aI 0), (20, aJ (((((gx S p i) * w1) - x) * (((gy S p (gAft S p i)) * w1) - y)) - ((((gy S p i) * w1) - y) * (((gx S p (gAft S p i)) * w1) - x)))), (18, aJ (((gy S p (gAft S p i)) * w1) - y)), (16, aJ (((gx S p (gAft S p i)) * w1) - x)), (14, aJ (((gy S p i) * w1) - y)), (12, aJ (((gx S p i) * w1) - x)), (11, aI (((12 * p + (gAft S p i) : Nat) : Int))), (10, aI ((12 * p + i : Int))), (0, aO (some o)), (1, aI ((p : Int))), (2, aJ x), (4, aJ y), (6, aJ w1)]) rfl rfl (by omega) (by omega) rfl ?_
                              refine g_goto rfl ?_
                              refine g_ls [0, 1, 12, 13, 14, 15, 16] rfl rfl ?_
                              exact ih6 (i + 1) _ (by omega) (by exact gWo_no hn hno rfl) (by exact xor_step hl (fun z => by have z := (mw_tog hw1.1 i hno).mpr z; exact ⟨fun q => by omega, fun q => by omega⟩) (fun z => by have z := fun y => z ((mw_tog hw1.1 i hno).mp y); omega)) (by omega)
                    · skip
                      refine g_iconst rfl ?_
                      refine g_goto rfl ?_
                      refine g_istore (l1 := [(23, aI 1), (22, aI 0), (20, aJ (((((gx S p i) * w1) - x) * (((gy S p (gAft S p i)) * w1) - y)) - ((((gy S p i) * w1) - y) * (((gx S p (gAft S p i)) * w1) - x)))), (18, aJ (((gy S p (gAft S p i)) * w1) - y)), (16, aJ (((gx S p (gAft S p i)) * w1) - x)), (14, aJ (((gy S p i) * w1) - y)), (12, aJ (((gx S p i) * w1) - x)), (11, aI (((12 * p + (gAft S p i) : Nat) : Int))), (10, aI ((12 * p + i : Int))), (9, aI ((i : Int))), (8, aI l), (0, aO (some o)), (1, aI ((p : Int))), (2, aJ x), (4, aJ y), (6, aJ w1)]) rfl rfl ?_
                      refine g_lload rfl rfl ?_
                      refine g_lconst0 rfl ?_
                      refine g_lc_gt rfl rfl (fun cq205 => ?_) (fun cq205 => ?_)
                      · skip
                        refine g_iconst rfl ?_
                        refine g_istore (l1 := [(24, aI 0), (23, aI 1), (22, aI 0), (20, aJ (((((gx S p i) * w1) - x) * (((gy S p (gAft S p i)) * w1) - y)) - ((((gy S p i) * w1) - y) * (((gx S p (gAft S p i)) * w1) - x)))), (18, aJ (((gy S p (gAft S p i)) * w1) - y)), (16, aJ (((gx S p (gAft S p i)) * w1) - x)), (14, aJ (((gy S p i) * w1) - y)), (12, aJ (((gx S p i) * w1) - x)), (11, aI (((12 * p + (gAft S p i) : Nat) : Int))), (10, aI ((12 * p + i : Int))), (9, aI ((i : Int))), (8, aI l), (0, aO (some o)), (1, aI ((p : Int))), (2, aJ x), (4, aJ y), (6, aJ w1)]) rfl rfl ?_
                        refine g_iload rfl rfl ?_
                        refine g_iload rfl rfl ?_
                        refine g_if_eq_f rfl (by omega) ?_
                        refine g_lload rfl rfl ?_
                        refine g_lconst0 rfl ?_
                        refine g_lc_gt rfl rfl (fun cq233 => ?_) (fun cq233 => ?_)
                        · skip
                          refine g_iconst rfl ?_
                          refine g_goto rfl ?_
                          refine g_icmp_eq rfl (fun cq254 => ?_) (fun cq254 => ?_)
                          · skip
                            refine g_iconst rfl ?_
                            refine g_istore (l1 := [(8, aI 0), (24, aI 0), (23, aI 1), (22, aI 0), (20, aJ (((((gx S p i) * w1) - x) * (((gy S p (gAft S p i)) * w1) - y)) - ((((gy S p i) * w1) - y) * (((gx S p (gAft S p i)) * w1) - x)))), (18, aJ (((gy S p (gAft S p i)) * w1) - y)), (16, aJ (((gx S p (gAft S p i)) * w1) - x)), (14, aJ (((gy S p i) * w1) - y)), (12, aJ (((gx S p i) * w1) - x)), (11, aI (((12 * p + (gAft S p i) : Nat) : Int))), (10, aI ((12 * p + i : Int))), (9, aI ((i : Int))), (0, aO (some o)), (1, aI ((p : Int))), (2, aJ x), (4, aJ y), (6, aJ w1)]) rfl rfl ?_
                            refine g_iinc (l1 := [(9, aI ((i : Int) + 1)), (8, aI 0), (24, aI 0), (23, aI 1), (22, aI 0), (20, aJ (((((gx S p i) * w1) - x) * (((gy S p (gAft S p i)) * w1) - y)) - ((((gy S p i) * w1) - y) * (((gx S p (gAft S p i)) * w1) - x)))), (18, aJ (((gy S p (gAft S p i)) * w1) - y)), (16, aJ (((gx S p (gAft S p i)) * w1) - x)), (14, aJ (((gy S p i) * w1) - y)), (12, aJ (((gx S p i) * w1) - x)), (11, aI (((12 * p + (gAft S p i) : Nat) : Int))), (10, aI ((12 * p + i : Int))), (0, aO (some o)), (1, aI ((p : Int))), (2, aJ x), (4, aJ y), (6, aJ w1)]) rfl rfl (by omega) (by omega) rfl ?_
                            refine g_goto rfl ?_
                            refine g_ls [0, 1, 12, 13, 14, 15, 16] rfl rfl ?_
                            exact ih6 (i + 1) _ (by omega) (by exact gWo_no hn hno rfl) (by exact xor_step hl (fun z => by have z := (mw_tog hw1.1 i hno).mpr z; exact ⟨fun q => by omega, fun q => by omega⟩) (fun z => by have z := fun y => z ((mw_tog hw1.1 i hno).mp y); omega)) (by omega)
                          · skip
                            refine g_iconst rfl ?_
                            refine g_goto rfl ?_
                            refine g_istore (l1 := [(8, aI 1), (24, aI 0), (23, aI 1), (22, aI 0), (20, aJ (((((gx S p i) * w1) - x) * (((gy S p (gAft S p i)) * w1) - y)) - ((((gy S p i) * w1) - y) * (((gx S p (gAft S p i)) * w1) - x)))), (18, aJ (((gy S p (gAft S p i)) * w1) - y)), (16, aJ (((gx S p (gAft S p i)) * w1) - x)), (14, aJ (((gy S p i) * w1) - y)), (12, aJ (((gx S p i) * w1) - x)), (11, aI (((12 * p + (gAft S p i) : Nat) : Int))), (10, aI ((12 * p + i : Int))), (9, aI ((i : Int))), (0, aO (some o)), (1, aI ((p : Int))), (2, aJ x), (4, aJ y), (6, aJ w1)]) rfl rfl ?_
                            refine g_iinc (l1 := [(9, aI ((i : Int) + 1)), (8, aI 1), (24, aI 0), (23, aI 1), (22, aI 0), (20, aJ (((((gx S p i) * w1) - x) * (((gy S p (gAft S p i)) * w1) - y)) - ((((gy S p i) * w1) - y) * (((gx S p (gAft S p i)) * w1) - x)))), (18, aJ (((gy S p (gAft S p i)) * w1) - y)), (16, aJ (((gx S p (gAft S p i)) * w1) - x)), (14, aJ (((gy S p i) * w1) - y)), (12, aJ (((gx S p i) * w1) - x)), (11, aI (((12 * p + (gAft S p i) : Nat) : Int))), (10, aI ((12 * p + i : Int))), (0, aO (some o)), (1, aI ((p : Int))), (2, aJ x), (4, aJ y), (6, aJ w1)]) rfl rfl (by omega) (by omega) rfl ?_
                            refine g_goto rfl ?_
                            refine g_ls [0, 1, 12, 13, 14, 15, 16] rfl rfl ?_
                            exact ih6 (i + 1) _ (by omega) (by exact gWo_no hn hno rfl) (by exact xor_step hl (fun z => by have z := (mw_tog hw1.1 i hno).mpr z; exact ⟨fun q => by omega, fun q => by omega⟩) (fun z => by have z := fun y => z ((mw_tog hw1.1 i hno).mp y); omega)) (by omega)
                        · skip
                          refine g_iload rfl rfl ?_
                          refine g_if_eq_t rfl (by omega) ?_
                          refine g_iconst rfl ?_
                          refine g_icmp_eq rfl (fun cq254 => ?_) (fun cq254 => ?_)
                          · skip
                            refine g_iconst rfl ?_
                            refine g_istore (l1 := [(8, aI 0), (24, aI 0), (23, aI 1), (22, aI 0), (20, aJ (((((gx S p i) * w1) - x) * (((gy S p (gAft S p i)) * w1) - y)) - ((((gy S p i) * w1) - y) * (((gx S p (gAft S p i)) * w1) - x)))), (18, aJ (((gy S p (gAft S p i)) * w1) - y)), (16, aJ (((gx S p (gAft S p i)) * w1) - x)), (14, aJ (((gy S p i) * w1) - y)), (12, aJ (((gx S p i) * w1) - x)), (11, aI (((12 * p + (gAft S p i) : Nat) : Int))), (10, aI ((12 * p + i : Int))), (9, aI ((i : Int))), (0, aO (some o)), (1, aI ((p : Int))), (2, aJ x), (4, aJ y), (6, aJ w1)]) rfl rfl ?_
                            refine g_iinc (l1 := [(9, aI ((i : Int) + 1)), (8, aI 0), (24, aI 0), (23, aI 1), (22, aI 0), (20, aJ (((((gx S p i) * w1) - x) * (((gy S p (gAft S p i)) * w1) - y)) - ((((gy S p i) * w1) - y) * (((gx S p (gAft S p i)) * w1) - x)))), (18, aJ (((gy S p (gAft S p i)) * w1) - y)), (16, aJ (((gx S p (gAft S p i)) * w1) - x)), (14, aJ (((gy S p i) * w1) - y)), (12, aJ (((gx S p i) * w1) - x)), (11, aI (((12 * p + (gAft S p i) : Nat) : Int))), (10, aI ((12 * p + i : Int))), (0, aO (some o)), (1, aI ((p : Int))), (2, aJ x), (4, aJ y), (6, aJ w1)]) rfl rfl (by omega) (by omega) rfl ?_
                            refine g_goto rfl ?_
                            refine g_ls [0, 1, 12, 13, 14, 15, 16] rfl rfl ?_
                            exact ih6 (i + 1) _ (by omega) (by exact gWo_no hn hno rfl) (by exact xor_step hl (fun z => by have z := (mw_tog hw1.1 i hno).mpr z; exact ⟨fun q => by omega, fun q => by omega⟩) (fun z => by have z := fun y => z ((mw_tog hw1.1 i hno).mp y); omega)) (by omega)
                          · skip
                            refine g_iconst rfl ?_
                            refine g_goto rfl ?_
                            refine g_istore (l1 := [(8, aI 1), (24, aI 0), (23, aI 1), (22, aI 0), (20, aJ (((((gx S p i) * w1) - x) * (((gy S p (gAft S p i)) * w1) - y)) - ((((gy S p i) * w1) - y) * (((gx S p (gAft S p i)) * w1) - x)))), (18, aJ (((gy S p (gAft S p i)) * w1) - y)), (16, aJ (((gx S p (gAft S p i)) * w1) - x)), (14, aJ (((gy S p i) * w1) - y)), (12, aJ (((gx S p i) * w1) - x)), (11, aI (((12 * p + (gAft S p i) : Nat) : Int))), (10, aI ((12 * p + i : Int))), (9, aI ((i : Int))), (0, aO (some o)), (1, aI ((p : Int))), (2, aJ x), (4, aJ y), (6, aJ w1)]) rfl rfl ?_
                            refine g_iinc (l1 := [(9, aI ((i : Int) + 1)), (8, aI 1), (24, aI 0), (23, aI 1), (22, aI 0), (20, aJ (((((gx S p i) * w1) - x) * (((gy S p (gAft S p i)) * w1) - y)) - ((((gy S p i) * w1) - y) * (((gx S p (gAft S p i)) * w1) - x)))), (18, aJ (((gy S p (gAft S p i)) * w1) - y)), (16, aJ (((gx S p (gAft S p i)) * w1) - x)), (14, aJ (((gy S p i) * w1) - y)), (12, aJ (((gx S p i) * w1) - x)), (11, aI (((12 * p + (gAft S p i) : Nat) : Int))), (10, aI ((12 * p + i : Int))), (0, aO (some o)), (1, aI ((p : Int))), (2, aJ x), (4, aJ y), (6, aJ w1)]) rfl rfl (by omega) (by omega) rfl ?_
                            refine g_goto rfl ?_
                            refine g_ls [0, 1, 12, 13, 14, 15, 16] rfl rfl ?_
                            exact ih6 (i + 1) _ (by omega) (by exact gWo_no hn hno rfl) (by exact xor_step hl (fun z => by have z := (mw_tog hw1.1 i hno).mpr z; exact ⟨fun q => by omega, fun q => by omega⟩) (fun z => by have z := fun y => z ((mw_tog hw1.1 i hno).mp y); omega)) (by omega)
                      · skip
                        refine g_lload rfl rfl ?_
                        refine g_lconst0 rfl ?_
                        refine g_lc_le rfl rfl (fun cq212 => ?_) (fun cq212 => ?_)
                        · skip
                          refine g_iconst rfl ?_
                          refine g_istore (l1 := [(24, aI 0), (23, aI 1), (22, aI 0), (20, aJ (((((gx S p i) * w1) - x) * (((gy S p (gAft S p i)) * w1) - y)) - ((((gy S p i) * w1) - y) * (((gx S p (gAft S p i)) * w1) - x)))), (18, aJ (((gy S p (gAft S p i)) * w1) - y)), (16, aJ (((gx S p (gAft S p i)) * w1) - x)), (14, aJ (((gy S p i) * w1) - y)), (12, aJ (((gx S p i) * w1) - x)), (11, aI (((12 * p + (gAft S p i) : Nat) : Int))), (10, aI ((12 * p + i : Int))), (9, aI ((i : Int))), (8, aI l), (0, aO (some o)), (1, aI ((p : Int))), (2, aJ x), (4, aJ y), (6, aJ w1)]) rfl rfl ?_
                          refine g_iload rfl rfl ?_
                          refine g_iload rfl rfl ?_
                          refine g_if_eq_f rfl (by omega) ?_
                          refine g_lload rfl rfl ?_
                          refine g_lconst0 rfl ?_
                          refine g_lc_gt rfl rfl (fun cq233 => ?_) (fun cq233 => ?_)
                          · skip
                            refine g_iconst rfl ?_
                            refine g_goto rfl ?_
                            refine g_icmp_eq rfl (fun cq254 => ?_) (fun cq254 => ?_)
                            · skip
                              refine g_iconst rfl ?_
                              refine g_istore (l1 := [(8, aI 0), (24, aI 0), (23, aI 1), (22, aI 0), (20, aJ (((((gx S p i) * w1) - x) * (((gy S p (gAft S p i)) * w1) - y)) - ((((gy S p i) * w1) - y) * (((gx S p (gAft S p i)) * w1) - x)))), (18, aJ (((gy S p (gAft S p i)) * w1) - y)), (16, aJ (((gx S p (gAft S p i)) * w1) - x)), (14, aJ (((gy S p i) * w1) - y)), (12, aJ (((gx S p i) * w1) - x)), (11, aI (((12 * p + (gAft S p i) : Nat) : Int))), (10, aI ((12 * p + i : Int))), (9, aI ((i : Int))), (0, aO (some o)), (1, aI ((p : Int))), (2, aJ x), (4, aJ y), (6, aJ w1)]) rfl rfl ?_
                              refine g_iinc (l1 := [(9, aI ((i : Int) + 1)), (8, aI 0), (24, aI 0), (23, aI 1), (22, aI 0), (20, aJ (((((gx S p i) * w1) - x) * (((gy S p (gAft S p i)) * w1) - y)) - ((((gy S p i) * w1) - y) * (((gx S p (gAft S p i)) * w1) - x)))), (18, aJ (((gy S p (gAft S p i)) * w1) - y)), (16, aJ (((gx S p (gAft S p i)) * w1) - x)), (14, aJ (((gy S p i) * w1) - y)), (12, aJ (((gx S p i) * w1) - x)), (11, aI (((12 * p + (gAft S p i) : Nat) : Int))), (10, aI ((12 * p + i : Int))), (0, aO (some o)), (1, aI ((p : Int))), (2, aJ x), (4, aJ y), (6, aJ w1)]) rfl rfl (by omega) (by omega) rfl ?_
                              refine g_goto rfl ?_
                              refine g_ls [0, 1, 12, 13, 14, 15, 16] rfl rfl ?_
                              exact ih6 (i + 1) _ (by omega) (by exact gWo_no hn hno rfl) (by exact xor_step hl (fun z => by have z := (mw_tog hw1.1 i hno).mpr z; exact ⟨fun q => by omega, fun q => by omega⟩) (fun z => by have z := fun y => z ((mw_tog hw1.1 i hno).mp y); omega)) (by omega)
                            · skip
                              refine g_iconst rfl ?_
                              refine g_goto rfl ?_
                              refine g_istore (l1 := [(8, aI 1), (24, aI 0), (23, aI 1), (22, aI 0), (20, aJ (((((gx S p i) * w1) - x) * (((gy S p (gAft S p i)) * w1) - y)) - ((((gy S p i) * w1) - y) * (((gx S p (gAft S p i)) * w1) - x)))), (18, aJ (((gy S p (gAft S p i)) * w1) - y)), (16, aJ (((gx S p (gAft S p i)) * w1) - x)), (14, aJ (((gy S p i) * w1) - y)), (12, aJ (((gx S p i) * w1) - x)), (11, aI (((12 * p + (gAft S p i) : Nat) : Int))), (10, aI ((12 * p + i : Int))), (9, aI ((i : Int))), (0, aO (some o)), (1, aI ((p : Int))), (2, aJ x), (4, aJ y), (6, aJ w1)]) rfl rfl ?_
                              refine g_iinc (l1 := [(9, aI ((i : Int) + 1)), (8, aI 1), (24, aI 0), (23, aI 1), (22, aI 0), (20, aJ (((((gx S p i) * w1) - x) * (((gy S p (gAft S p i)) * w1) - y)) - ((((gy S p i) * w1) - y) * (((gx S p (gAft S p i)) * w1) - x)))), (18, aJ (((gy S p (gAft S p i)) * w1) - y)), (16, aJ (((gx S p (gAft S p i)) * w1) - x)), (14, aJ (((gy S p i) * w1) - y)), (12, aJ (((gx S p i) * w1) - x)), (11, aI (((12 * p + (gAft S p i) : Nat) : Int))), (10, aI ((12 * p + i : Int))), (0, aO (some o)), (1, aI ((p : Int))), (2, aJ x), (4, aJ y), (6, aJ w1)]) rfl rfl (by omega) (by omega) rfl ?_
                              refine g_goto rfl ?_
                              refine g_ls [0, 1, 12, 13, 14, 15, 16] rfl rfl ?_
                              exact ih6 (i + 1) _ (by omega) (by exact gWo_no hn hno rfl) (by exact xor_step hl (fun z => by have z := (mw_tog hw1.1 i hno).mpr z; exact ⟨fun q => by omega, fun q => by omega⟩) (fun z => by have z := fun y => z ((mw_tog hw1.1 i hno).mp y); omega)) (by omega)
                          · skip
                            refine g_iload rfl rfl ?_
                            refine g_if_eq_t rfl (by omega) ?_
                            refine g_iconst rfl ?_
                            refine g_icmp_eq rfl (fun cq254 => ?_) (fun cq254 => ?_)
                            · skip
                              refine g_iconst rfl ?_
                              refine g_istore (l1 := [(8, aI 0), (24, aI 0), (23, aI 1), (22, aI 0), (20, aJ (((((gx S p i) * w1) - x) * (((gy S p (gAft S p i)) * w1) - y)) - ((((gy S p i) * w1) - y) * (((gx S p (gAft S p i)) * w1) - x)))), (18, aJ (((gy S p (gAft S p i)) * w1) - y)), (16, aJ (((gx S p (gAft S p i)) * w1) - x)), (14, aJ (((gy S p i) * w1) - y)), (12, aJ (((gx S p i) * w1) - x)), (11, aI (((12 * p + (gAft S p i) : Nat) : Int))), (10, aI ((12 * p + i : Int))), (9, aI ((i : Int))), (0, aO (some o)), (1, aI ((p : Int))), (2, aJ x), (4, aJ y), (6, aJ w1)]) rfl rfl ?_
                              refine g_iinc (l1 := [(9, aI ((i : Int) + 1)), (8, aI 0), (24, aI 0), (23, aI 1), (22, aI 0), (20, aJ (((((gx S p i) * w1) - x) * (((gy S p (gAft S p i)) * w1) - y)) - ((((gy S p i) * w1) - y) * (((gx S p (gAft S p i)) * w1) - x)))), (18, aJ (((gy S p (gAft S p i)) * w1) - y)), (16, aJ (((gx S p (gAft S p i)) * w1) - x)), (14, aJ (((gy S p i) * w1) - y)), (12, aJ (((gx S p i) * w1) - x)), (11, aI (((12 * p + (gAft S p i) : Nat) : Int))), (10, aI ((12 * p + i : Int))), (0, aO (some o)), (1, aI ((p : Int))), (2, aJ x), (4, aJ y), (6, aJ w1)]) rfl rfl (by omega) (by omega) rfl ?_
                              refine g_goto rfl ?_
                              refine g_ls [0, 1, 12, 13, 14, 15, 16] rfl rfl ?_
                              exact ih6 (i + 1) _ (by omega) (by exact gWo_no hn hno rfl) (by exact xor_step hl (fun z => by have z := (mw_tog hw1.1 i hno).mpr z; exact ⟨fun q => by omega, fun q => by omega⟩) (fun z => by have z := fun y => z ((mw_tog hw1.1 i hno).mp y); omega)) (by omega)
                            · skip
                              refine g_iconst rfl ?_
                              refine g_goto rfl ?_
                              refine g_istore (l1 := [(8, aI 1), (24, aI 0), (23, aI 1), (22, aI 0), (20, aJ (((((gx S p i) * w1) - x) * (((gy S p (gAft S p i)) * w1) - y)) - ((((gy S p i) * w1) - y) * (((gx S p (gAft S p i)) * w1) - x)))), (18, aJ (((gy S p (gAft S p i)) * w1) - y)), (16, aJ (((gx S p (gAft S p i)) * w1) - x)), (14, aJ (((gy S p i) * w1) - y)), (12, aJ (((gx S p i) * w1) - x)), (11, aI (((12 * p + (gAft S p i) : Nat) : Int))), (10, aI ((12 * p + i : Int))), (9, aI ((i : Int))), (0, aO (some o)), (1, aI ((p : Int))), (2, aJ x), (4, aJ y), (6, aJ w1)]) rfl rfl ?_
                              refine g_iinc (l1 := [(9, aI ((i : Int) + 1)), (8, aI 1), (24, aI 0), (23, aI 1), (22, aI 0), (20, aJ (((((gx S p i) * w1) - x) * (((gy S p (gAft S p i)) * w1) - y)) - ((((gy S p i) * w1) - y) * (((gx S p (gAft S p i)) * w1) - x)))), (18, aJ (((gy S p (gAft S p i)) * w1) - y)), (16, aJ (((gx S p (gAft S p i)) * w1) - x)), (14, aJ (((gy S p i) * w1) - y)), (12, aJ (((gx S p i) * w1) - x)), (11, aI (((12 * p + (gAft S p i) : Nat) : Int))), (10, aI ((12 * p + i : Int))), (0, aO (some o)), (1, aI ((p : Int))), (2, aJ x), (4, aJ y), (6, aJ w1)]) rfl rfl (by omega) (by omega) rfl ?_
                              refine g_goto rfl ?_
                              refine g_ls [0, 1, 12, 13, 14, 15, 16] rfl rfl ?_
                              exact ih6 (i + 1) _ (by omega) (by exact gWo_no hn hno rfl) (by exact xor_step hl (fun z => by have z := (mw_tog hw1.1 i hno).mpr z; exact ⟨fun q => by omega, fun q => by omega⟩) (fun z => by have z := fun y => z ((mw_tog hw1.1 i hno).mp y); omega)) (by omega)
                        · skip
                          refine g_iconst rfl ?_
                          refine g_goto rfl ?_
                          refine g_istore (l1 := [(24, aI 1), (23, aI 1), (22, aI 0), (20, aJ (((((gx S p i) * w1) - x) * (((gy S p (gAft S p i)) * w1) - y)) - ((((gy S p i) * w1) - y) * (((gx S p (gAft S p i)) * w1) - x)))), (18, aJ (((gy S p (gAft S p i)) * w1) - y)), (16, aJ (((gx S p (gAft S p i)) * w1) - x)), (14, aJ (((gy S p i) * w1) - y)), (12, aJ (((gx S p i) * w1) - x)), (11, aI (((12 * p + (gAft S p i) : Nat) : Int))), (10, aI ((12 * p + i : Int))), (9, aI ((i : Int))), (8, aI l), (0, aO (some o)), (1, aI ((p : Int))), (2, aJ x), (4, aJ y), (6, aJ w1)]) rfl rfl ?_
                          refine g_iload rfl rfl ?_
                          refine g_iload rfl rfl ?_
                          refine g_if_eq_f rfl (by omega) ?_
                          refine g_lload rfl rfl ?_
                          refine g_lconst0 rfl ?_
                          refine g_lc_gt rfl rfl (fun cq233 => ?_) (fun cq233 => ?_)
                          · skip
                            refine g_iconst rfl ?_
                            refine g_goto rfl ?_
                            refine g_icmp_eq rfl (fun cq254 => ?_) (fun cq254 => ?_)
                            · skip
                              refine g_iconst rfl ?_
                              refine g_istore (l1 := [(8, aI 0), (24, aI 1), (23, aI 1), (22, aI 0), (20, aJ (((((gx S p i) * w1) - x) * (((gy S p (gAft S p i)) * w1) - y)) - ((((gy S p i) * w1) - y) * (((gx S p (gAft S p i)) * w1) - x)))), (18, aJ (((gy S p (gAft S p i)) * w1) - y)), (16, aJ (((gx S p (gAft S p i)) * w1) - x)), (14, aJ (((gy S p i) * w1) - y)), (12, aJ (((gx S p i) * w1) - x)), (11, aI (((12 * p + (gAft S p i) : Nat) : Int))), (10, aI ((12 * p + i : Int))), (9, aI ((i : Int))), (0, aO (some o)), (1, aI ((p : Int))), (2, aJ x), (4, aJ y), (6, aJ w1)]) rfl rfl ?_
                              refine g_iinc (l1 := [(9, aI ((i : Int) + 1)), (8, aI 0), (24, aI 1), (23, aI 1), (22, aI 0), (20, aJ (((((gx S p i) * w1) - x) * (((gy S p (gAft S p i)) * w1) - y)) - ((((gy S p i) * w1) - y) * (((gx S p (gAft S p i)) * w1) - x)))), (18, aJ (((gy S p (gAft S p i)) * w1) - y)), (16, aJ (((gx S p (gAft S p i)) * w1) - x)), (14, aJ (((gy S p i) * w1) - y)), (12, aJ (((gx S p i) * w1) - x)), (11, aI (((12 * p + (gAft S p i) : Nat) : Int))), (10, aI ((12 * p + i : Int))), (0, aO (some o)), (1, aI ((p : Int))), (2, aJ x), (4, aJ y), (6, aJ w1)]) rfl rfl (by omega) (by omega) rfl ?_
                              refine g_goto rfl ?_
                              refine g_ls [0, 1, 12, 13, 14, 15, 16] rfl rfl ?_
                              exact ih6 (i + 1) _ (by omega) (by exact gWo_no hn hno rfl) (by exact xor_step hl (fun z => by have z := (mw_tog hw1.1 i hno).mpr z; exact ⟨fun q => by omega, fun q => by omega⟩) (fun z => by have z := fun y => z ((mw_tog hw1.1 i hno).mp y); omega)) (by omega)
                            · skip
                              refine g_iconst rfl ?_
                              refine g_goto rfl ?_
                              refine g_istore (l1 := [(8, aI 1), (24, aI 1), (23, aI 1), (22, aI 0), (20, aJ (((((gx S p i) * w1) - x) * (((gy S p (gAft S p i)) * w1) - y)) - ((((gy S p i) * w1) - y) * (((gx S p (gAft S p i)) * w1) - x)))), (18, aJ (((gy S p (gAft S p i)) * w1) - y)), (16, aJ (((gx S p (gAft S p i)) * w1) - x)), (14, aJ (((gy S p i) * w1) - y)), (12, aJ (((gx S p i) * w1) - x)), (11, aI (((12 * p + (gAft S p i) : Nat) : Int))), (10, aI ((12 * p + i : Int))), (9, aI ((i : Int))), (0, aO (some o)), (1, aI ((p : Int))), (2, aJ x), (4, aJ y), (6, aJ w1)]) rfl rfl ?_
                              refine g_iinc (l1 := [(9, aI ((i : Int) + 1)), (8, aI 1), (24, aI 1), (23, aI 1), (22, aI 0), (20, aJ (((((gx S p i) * w1) - x) * (((gy S p (gAft S p i)) * w1) - y)) - ((((gy S p i) * w1) - y) * (((gx S p (gAft S p i)) * w1) - x)))), (18, aJ (((gy S p (gAft S p i)) * w1) - y)), (16, aJ (((gx S p (gAft S p i)) * w1) - x)), (14, aJ (((gy S p i) * w1) - y)), (12, aJ (((gx S p i) * w1) - x)), (11, aI (((12 * p + (gAft S p i) : Nat) : Int))), (10, aI ((12 * p + i : Int))), (0, aO (some o)), (1, aI ((p : Int))), (2, aJ x), (4, aJ y), (6, aJ w1)]) rfl rfl (by omega) (by omega) rfl ?_
                              refine g_goto rfl ?_
                              refine g_ls [0, 1, 12, 13, 14, 15, 16] rfl rfl ?_
                              exact ih6 (i + 1) _ (by omega) (by exact gWo_no hn hno rfl) (by exact xor_step hl (fun z => by have z := (mw_tog hw1.1 i hno).mpr z; exact ⟨fun q => by omega, fun q => by omega⟩) (fun z => by have z := fun y => z ((mw_tog hw1.1 i hno).mp y); omega)) (by omega)
                          · skip
                            refine g_iload rfl rfl ?_
                            refine g_if_eq_f rfl (by omega) ?_
                            refine g_lload rfl rfl ?_
                            refine g_lconst0 rfl ?_
                            refine g_lc_ge rfl rfl (fun cq245 => ?_) (fun cq245 => ?_)
                            · skip
                              refine g_iconst rfl ?_
                              refine g_icmp_eq rfl (fun cq254 => ?_) (fun cq254 => ?_)
                              · skip
                                refine g_iconst rfl ?_
                                refine g_istore (l1 := [(8, aI 0), (24, aI 1), (23, aI 1), (22, aI 0), (20, aJ (((((gx S p i) * w1) - x) * (((gy S p (gAft S p i)) * w1) - y)) - ((((gy S p i) * w1) - y) * (((gx S p (gAft S p i)) * w1) - x)))), (18, aJ (((gy S p (gAft S p i)) * w1) - y)), (16, aJ (((gx S p (gAft S p i)) * w1) - x)), (14, aJ (((gy S p i) * w1) - y)), (12, aJ (((gx S p i) * w1) - x)), (11, aI (((12 * p + (gAft S p i) : Nat) : Int))), (10, aI ((12 * p + i : Int))), (9, aI ((i : Int))), (0, aO (some o)), (1, aI ((p : Int))), (2, aJ x), (4, aJ y), (6, aJ w1)]) rfl rfl ?_
                                refine g_iinc (l1 := [(9, aI ((i : Int) + 1)), (8, aI 0), (24, aI 1), (23, aI 1), (22, aI 0), (20, aJ (((((gx S p i) * w1) - x) * (((gy S p (gAft S p i)) * w1) - y)) - ((((gy S p i) * w1) - y) * (((gx S p (gAft S p i)) * w1) - x)))), (18, aJ (((gy S p (gAft S p i)) * w1) - y)), (16, aJ (((gx S p (gAft S p i)) * w1) - x)), (14, aJ (((gy S p i) * w1) - y)), (12, aJ (((gx S p i) * w1) - x)), (11, aI (((12 * p + (gAft S p i) : Nat) : Int))), (10, aI ((12 * p + i : Int))), (0, aO (some o)), (1, aI ((p : Int))), (2, aJ x), (4, aJ y), (6, aJ w1)]) rfl rfl (by omega) (by omega) rfl ?_
                                refine g_goto rfl ?_
                                refine g_ls [0, 1, 12, 13, 14, 15, 16] rfl rfl ?_
                                exact ih6 (i + 1) _ (by omega) (by exact gWo_no hn hno rfl) (by exact xor_step hl (fun z => by have z := (mw_tog hw1.1 i hno).mpr z; exact ⟨fun q => by omega, fun q => by omega⟩) (fun z => by have z := fun y => z ((mw_tog hw1.1 i hno).mp y); omega)) (by omega)
                              · skip
                                refine g_iconst rfl ?_
                                refine g_goto rfl ?_
                                refine g_istore (l1 := [(8, aI 1), (24, aI 1), (23, aI 1), (22, aI 0), (20, aJ (((((gx S p i) * w1) - x) * (((gy S p (gAft S p i)) * w1) - y)) - ((((gy S p i) * w1) - y) * (((gx S p (gAft S p i)) * w1) - x)))), (18, aJ (((gy S p (gAft S p i)) * w1) - y)), (16, aJ (((gx S p (gAft S p i)) * w1) - x)), (14, aJ (((gy S p i) * w1) - y)), (12, aJ (((gx S p i) * w1) - x)), (11, aI (((12 * p + (gAft S p i) : Nat) : Int))), (10, aI ((12 * p + i : Int))), (9, aI ((i : Int))), (0, aO (some o)), (1, aI ((p : Int))), (2, aJ x), (4, aJ y), (6, aJ w1)]) rfl rfl ?_
                                refine g_iinc (l1 := [(9, aI ((i : Int) + 1)), (8, aI 1), (24, aI 1), (23, aI 1), (22, aI 0), (20, aJ (((((gx S p i) * w1) - x) * (((gy S p (gAft S p i)) * w1) - y)) - ((((gy S p i) * w1) - y) * (((gx S p (gAft S p i)) * w1) - x)))), (18, aJ (((gy S p (gAft S p i)) * w1) - y)), (16, aJ (((gx S p (gAft S p i)) * w1) - x)), (14, aJ (((gy S p i) * w1) - y)), (12, aJ (((gx S p i) * w1) - x)), (11, aI (((12 * p + (gAft S p i) : Nat) : Int))), (10, aI ((12 * p + i : Int))), (0, aO (some o)), (1, aI ((p : Int))), (2, aJ x), (4, aJ y), (6, aJ w1)]) rfl rfl (by omega) (by omega) rfl ?_
                                refine g_goto rfl ?_
                                refine g_ls [0, 1, 12, 13, 14, 15, 16] rfl rfl ?_
                                exact ih6 (i + 1) _ (by omega) (by exact gWo_no hn hno rfl) (by exact xor_step hl (fun z => by have z := (mw_tog hw1.1 i hno).mpr z; exact ⟨fun q => by omega, fun q => by omega⟩) (fun z => by have z := fun y => z ((mw_tog hw1.1 i hno).mp y); omega)) (by omega)
                            · skip
                              refine g_iconst rfl ?_
                              refine g_goto rfl ?_
                              refine g_icmp_eq rfl (fun cq254 => ?_) (fun cq254 => ?_)
                              · skip
                                refine g_iconst rfl ?_
                                refine g_istore (l1 := [(8, aI 0), (24, aI 1), (23, aI 1), (22, aI 0), (20, aJ (((((gx S p i) * w1) - x) * (((gy S p (gAft S p i)) * w1) - y)) - ((((gy S p i) * w1) - y) * (((gx S p (gAft S p i)) * w1) - x)))), (18, aJ (((gy S p (gAft S p i)) * w1) - y)), (16, aJ (((gx S p (gAft S p i)) * w1) - x)), (14, aJ (((gy S p i) * w1) - y)), (12, aJ (((gx S p i) * w1) - x)), (11, aI (((12 * p + (gAft S p i) : Nat) : Int))), (10, aI ((12 * p + i : Int))), (9, aI ((i : Int))), (0, aO (some o)), (1, aI ((p : Int))), (2, aJ x), (4, aJ y), (6, aJ w1)]) rfl rfl ?_
                                refine g_iinc (l1 := [(9, aI ((i : Int) + 1)), (8, aI 0), (24, aI 1), (23, aI 1), (22, aI 0), (20, aJ (((((gx S p i) * w1) - x) * (((gy S p (gAft S p i)) * w1) - y)) - ((((gy S p i) * w1) - y) * (((gx S p (gAft S p i)) * w1) - x)))), (18, aJ (((gy S p (gAft S p i)) * w1) - y)), (16, aJ (((gx S p (gAft S p i)) * w1) - x)), (14, aJ (((gy S p i) * w1) - y)), (12, aJ (((gx S p i) * w1) - x)), (11, aI (((12 * p + (gAft S p i) : Nat) : Int))), (10, aI ((12 * p + i : Int))), (0, aO (some o)), (1, aI ((p : Int))), (2, aJ x), (4, aJ y), (6, aJ w1)]) rfl rfl (by omega) (by omega) rfl ?_
                                refine g_goto rfl ?_
                                refine g_ls [0, 1, 12, 13, 14, 15, 16] rfl rfl ?_
                                exact ih6 (i + 1) _ (by omega) (by exact gWo_no hn hno rfl) (by exact xor_step hl (fun z => by have z := (mw_tog hw1.1 i hno).mpr z; exact ⟨fun q => by omega, fun q => by omega⟩) (fun z => by have z := fun y => z ((mw_tog hw1.1 i hno).mp y); omega)) (by omega)
                              · skip
                                refine g_iconst rfl ?_
                                refine g_goto rfl ?_
                                refine g_istore (l1 := [(8, aI 1), (24, aI 1), (23, aI 1), (22, aI 0), (20, aJ (((((gx S p i) * w1) - x) * (((gy S p (gAft S p i)) * w1) - y)) - ((((gy S p i) * w1) - y) * (((gx S p (gAft S p i)) * w1) - x)))), (18, aJ (((gy S p (gAft S p i)) * w1) - y)), (16, aJ (((gx S p (gAft S p i)) * w1) - x)), (14, aJ (((gy S p i) * w1) - y)), (12, aJ (((gx S p i) * w1) - x)), (11, aI (((12 * p + (gAft S p i) : Nat) : Int))), (10, aI ((12 * p + i : Int))), (9, aI ((i : Int))), (0, aO (some o)), (1, aI ((p : Int))), (2, aJ x), (4, aJ y), (6, aJ w1)]) rfl rfl ?_
                                refine g_iinc (l1 := [(9, aI ((i : Int) + 1)), (8, aI 1), (24, aI 1), (23, aI 1), (22, aI 0), (20, aJ (((((gx S p i) * w1) - x) * (((gy S p (gAft S p i)) * w1) - y)) - ((((gy S p i) * w1) - y) * (((gx S p (gAft S p i)) * w1) - x)))), (18, aJ (((gy S p (gAft S p i)) * w1) - y)), (16, aJ (((gx S p (gAft S p i)) * w1) - x)), (14, aJ (((gy S p i) * w1) - y)), (12, aJ (((gx S p i) * w1) - x)), (11, aI (((12 * p + (gAft S p i) : Nat) : Int))), (10, aI ((12 * p + i : Int))), (0, aO (some o)), (1, aI ((p : Int))), (2, aJ x), (4, aJ y), (6, aJ w1)]) rfl rfl (by omega) (by omega) rfl ?_
                                refine g_goto rfl ?_
                                refine g_ls [0, 1, 12, 13, 14, 15, 16] rfl rfl ?_
                                exact ih6 (i + 1) _ (by omega) (by exact gWo_no hn hno rfl) (by exact xor_step hl (fun z => by have z := (mw_tog hw1.1 i hno).mpr z; exact ⟨fun q => by omega, fun q => by omega⟩) (fun z => by have z := fun y => z ((mw_tog hw1.1 i hno).mp y); omega)) (by omega)
                · skip
                  refine g_iconst rfl ?_
                  refine g_goto rfl ?_
                  refine g_istore (l1 := [(22, aI 1), (20, aJ (((((gx S p i) * w1) - x) * (((gy S p (gAft S p i)) * w1) - y)) - ((((gy S p i) * w1) - y) * (((gx S p (gAft S p i)) * w1) - x)))), (18, aJ (((gy S p (gAft S p i)) * w1) - y)), (16, aJ (((gx S p (gAft S p i)) * w1) - x)), (14, aJ (((gy S p i) * w1) - y)), (12, aJ (((gx S p i) * w1) - x)), (11, aI (((12 * p + (gAft S p i) : Nat) : Int))), (10, aI ((12 * p + i : Int))), (9, aI ((i : Int))), (8, aI l), (0, aO (some o)), (1, aI ((p : Int))), (2, aJ x), (4, aJ y), (6, aJ w1)]) rfl rfl ?_
                  refine g_iload rfl rfl ?_
                  refine g_if_eq_f rfl (by omega) ?_
                  have hon : gWon S p x y w1 i := (mw_on hw1.1 i).mp ⟨by omega, by unfold oneS; omega, by unfold oneS; omega⟩
                  refine g_iconst rfl ?_
                  refine g_iret rfl ?_
                  refine ⟨rfl, ?_⟩
                  unfold gWh
                  exact (if_pos ((gWo_iff _).mpr ⟨i, by omega, hon⟩)).symm
  refine g_iconst rfl ?_
  refine g_istore (l1 := [(8, aI 0), (0, aO (some o)), (1, aI ((p : Int))), (2, aJ x), (4, aJ y), (6, aJ w1)]) rfl rfl ?_
  refine g_iconst rfl ?_
  refine g_istore (l1 := [(9, aI 0), (8, aI 0), (0, aO (some o)), (1, aI ((p : Int))), (2, aJ x), (4, aJ y), (6, aJ w1)]) rfl rfl ?_
  exact l6 _ 0 _ (by omega) (by rfl) (by rfl) (Nat.lt_succ_self _)
