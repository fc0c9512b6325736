/-! the reference's polygons, loops: printed by wip/whole/ge_.py -/
abbrev gOnly (S : aS) (p a b q : Nat) : Prop := ¬(¬ gSame S p q b ∧ gOn S p a b q) ∧ ¬(¬ gSame S p a b ∧ gOn S p b q a)
/-- what the reference wants of two sides -/
abbrev gPr (S : aS) (p i j : Nat) : Prop := ¬ gSame S p i j ∧ (j = i + 1 → gOnly S p i (gAft S p i) (gAft S p j)) ∧ ((i = 0 ∧ j = sGn S p - 1) → gOnly S p j i (gAft S p i)) ∧ ((j ≠ i + 1 ∧ ¬(i = 0 ∧ j = sGn S p - 1)) → ¬ gMeet S p i (gAft S p i) j (gAft S p j))
def gSim2 (S : aS) (p : Nat) : Prop := 3 ≤ sGn S p ∧ ∀ i j, i < j → j < sGn S p → gPr S p i j
theorem minl {v u : Int} : min v u ≤ 0 ∧ 0 ≤ max v u ↔ ¬ oneS v u := by
  unfold oneS
  omega
def gB1 (S : aS) (p i j : Nat) : Prop := ¬ gSame S p i j ∧ (j = i + 1 → gOnly S p i (gAft S p i) (gAft S p j))
def gB2 (S : aS) (p i j : Nat) : Prop := ¬ gSame S p i j ∧ (j = i + 1 → gOnly S p i (gAft S p i) (gAft S p j)) ∧ ((i = 0 ∧ j = sGn S p - 1) → gOnly S p j i (gAft S p i))
def gB3 (S : aS) (p i j : Nat) : Prop := gPr S p i j
set_option maxRecDepth 100000 in
theorem m_pgSim {w : aW} {d : Nat} (hd : 5 ≤ d) {h : aH} {o : Nat} (ms : MS h o) (V : Nat → Nat → Int) {S : aS} (mg : MG V o S) (ok : OkG S) (p : Nat) (hp : p < sG S) : WP w d 338 [aO (some o), aI ((p : Int))] (hw h V) (RI (fun r h1 => h1 = hw h V ∧ r = if bt (gSim2 S p) = true then 1 else 0)) := by
  obtain ⟨d, rfl⟩ : ∃ d1, d = d1 + 1 := ⟨d - 1, by omega⟩
  refine WP.enter (cd := cd_X12_isSimple) rfl ?_
  have hok := ok.1
  have hok2 := (ok.2 p hp).1
  have hls : largs 0 [aO (some o), aI ((p : Int))] = [(0, aO (some o)), (1, aI ((p : Int)))] := rfl
  rw [hls]
  clear hls
  have l21 : ∀ (fuel : Nat) (i : Nat) (s : Int), (i ≤ sGn S p) → ((s = 1 ∧ 3 ≤ sGn S p ∧ ∀ a b, a < i → a < b → b < sGn S p → gB3 S p a b) ∨ (s = 0 ∧ ¬ gSim2 S p)) → sGn S p - i < fuel → Wk w d cd_X12_isSimple 21 [(4, aI ((i : Int))), (3, aI s), (2, aI (((sGn S p : Nat) : Int))), (0, aO (some o)), (1, aI ((p : Int)))] [] (hw h V) (RI (fun r h1 => h1 = hw h V ∧ r = if bt (gSim2 S p) = true then 1 else 0)) := by
    intro fuel
    induction fuel with
    | zero => intros; omega
    | succ fuel ih21 =>
      intro i s hi hs hfuel
      have hok := ok.1
      have hok2 := (ok.2 p hp).1
      have l37 : ∀ (fuel : Nat) (j : Nat) (s : Int), (i + 1 ≤ j) → (j ≤ sGn S p) → (i < sGn S p) → (3 ≤ sGn S p ∧ ∀ a b, a < i → a < b → b < sGn S p → gB3 S p a b) → ((s = 1 ∧ ∀ b, i < b → b < j → gB3 S p i b) ∨ (s = 0 ∧ ∃ b, i < b ∧ b < sGn S p ∧ ¬ gB3 S p i b)) → sGn S p - j < fuel → Wk w d cd_X12_isSimple 37 [(5, aI ((j : Int))), (4, aI ((i : Int))), (3, aI s), (2, aI (((sGn S p : Nat) : Int))), (0, aO (some o)), (1, aI ((p : Int)))] [] (hw h V) (RI (fun r h1 => h1 = hw h V ∧ r = if bt (gSim2 S p) = true then 1 else 0)) := by
        intro fuel
        induction fuel with
        | zero => intros; omega
        | succ fuel ih37 =>
          intro j s hj hj2 hin hso hq hfuel
          have j195 : ∀ (s3 : Int), (j < sGn S p) → (s ≠ 0) → ((s3 = 1 ∧ gB3 S p i j) ∨ (s3 = 0 ∧ ¬ gB3 S p i j)) → Wk w d cd_X12_isSimple 195 [(3, aI s3), (9, aI (((12 * p + (gAft S p j) : Nat) : Int))), (8, aI ((12 * p + j : Int))), (7, aI (((12 * p + (gAft S p i) : Nat) : Int))), (6, aI ((12 * p + i : Int))), (5, aI ((j : Int))), (4, aI ((i : Int))), (2, aI (((sGn S p : Nat) : Int))), (0, aO (some o)), (1, aI ((p : Int)))] [] (hw h V) (RI (fun r h1 => h1 = hw h V ∧ r = if bt (gSim2 S p) = true then 1 else 0)) := by
            intro s3 hjn hs0 hs3
            have li := gAft_lt (S := S) (p := p) (i := i) (by omega)
            have lj := gAft_lt (S := S) (p := p) (i := j) (by omega)
            refine g_iinc (l1 := [(5, aI ((j : Int) + 1)), (3, aI s3), (9, aI (((12 * p + (gAft S p j) : Nat) : Int))), (8, aI ((12 * p + j : Int))), (7, aI (((12 * p + (gAft S p i) : Nat) : Int))), (6, aI ((12 * p + i : Int))), (4, aI ((i : Int))), (2, aI (((sGn S p : Nat) : Int))), (0, aO (some o)), (1, aI ((p : Int)))]) rfl rfl (by (try clear cq186); (try clear cq147); (try clear cq119); (try clear cq96); omega) (by (try clear cq186); (try clear cq147); (try clear cq119); (try clear cq96); omega) rfl ?_
            refine g_goto rfl ?_
            refine g_ls [0, 6, 1, 7, 8, 9] rfl rfl ?_
            exact ih37 (j + 1) _ (by (try clear cq186); (try clear cq147); (try clear cq119); (try clear cq96); omega) (by (try clear cq186); (try clear cq147); (try clear cq119); (try clear cq96); omega) (by (try clear cq186); (try clear cq147); (try clear cq119); (try clear cq96); omega) (by exact hso) (by exact hs3.elim (fun z => Or.inl ⟨z.1, fun b h1 h2 => if e : b = j then by subst e; exact z.2 else (hq.elim (fun y => y.2 b h1 (by omega)) (fun y => by omega))⟩) (fun z => Or.inr ⟨z.1, j, by omega, by omega, z.2⟩)) (by (try clear cq186); (try clear cq147); (try clear cq119); (try clear cq96); omega)
          have j148 : ∀ (s2 : Int), (j < sGn S p) → (s ≠ 0) → ((s2 = 1 ∧ gB2 S p i j) ∨ (s2 = 0 ∧ ¬ gB2 S p i j)) → Wk w d cd_X12_isSimple 148 [(3, aI s2), (9, aI (((12 * p + (gAft S p j) : Nat) : Int))), (8, aI ((12 * p + j : Int))), (7, aI (((12 * p + (gAft S p i) : Nat) : Int))), (6, aI ((12 * p + i : Int))), (5, aI ((j : Int))), (4, aI ((i : Int))), (2, aI (((sGn S p : Nat) : Int))), (0, aO (some o)), (1, aI ((p : Int)))] [] (hw h V) (RI (fun r h1 => h1 = hw h V ∧ r = if bt (gSim2 S p) = true then 1 else 0)) := by
            intro s2 hjn hs0 hs2
            have li := gAft_lt (S := S) (p := p) (i := i) (by omega)
            have lj := gAft_lt (S := S) (p := p) (i := j) (by omega)
            refine g_iload_n rfl rfl ?_
            refine g_if_eq rfl (fun cq149 => ?_) (fun cq149 => ?_)
            · skip
              exact j195 _ (by (try clear cq186); (try clear cq147); (try clear cq119); (try clear cq96); omega) (by (try clear cq186); (try clear cq147); (try clear cq119); (try clear cq96); omega) (by exact hs2.elim (fun z => by omega) (fun z => Or.inr ⟨by omega, fun y => z.2 (And.intro y.1 (And.intro y.2.1 y.2.2.1))⟩))
            · skip
              have hs2n : s2 ≠ 0 := by omega
              refine g_iload rfl rfl ?_
              refine g_iload rfl rfl ?_
              refine g_iconst rfl ?_
              refine g_iadd rfl (by (try clear cq186); (try clear cq147); (try clear cq119); (try clear cq96); omega) (by (try clear cq186); (try clear cq147); (try clear cq119); (try clear cq96); omega) ?_
              refine g_icmp_eq rfl (fun cq158 => ?_) (fun cq158 => ?_)
              · skip
                exact j195 _ (by (try clear cq186); (try clear cq147); (try clear cq119); (try clear cq96); omega) (by (try clear cq186); (try clear cq147); (try clear cq119); (try clear cq96); omega) (by exact hs2.elim (fun z => Or.inl ⟨z.1, And.intro z.2.1 (And.intro z.2.2.1 (And.intro z.2.2.2 (fun y => by omega)))⟩) (fun z => by omega))
              · skip
                refine g_iload rfl rfl ?_
                refine g_if_ne rfl (fun cq163 => ?_) (fun cq163 => ?_)
                · skip
                  have hm4 : j ≠ i + 1 ∧ ¬(i = 0 ∧ j = sGn S p - 1) := ⟨by omega, by omega⟩
                  refine g_aload_n rfl rfl ?_
                  refine g_iload rfl rfl ?_
                  refine g_iload rfl rfl ?_
                  refine g_iload rfl rfl ?_
                  refine g_iload rfl rfl ?_
                  refine g_callVI [aI ((12 * p + i : Int)), aI (((12 * p + (gAft S p i) : Nat) : Int)), aI ((12 * p + j : Int)), aI (((12 * p + (gAft S p j) : Nat) : Int))] [] rfl rfl rfl rfl (Nat.le_of_ble_eq_true rfl) ms.1 (m_pgMeets (by omega) ms V mg ok p hp i (by omega) (gAft S p i) (by omega) j (by omega) (gAft S p j) (by omega)) ?_
                  rintro r1 hx1 ⟨ehx1, rfl⟩
                  rw [ehx1]
                  clear ehx1 hx1
                  refine g_b_ne rfl (fun cq186 => ?_) (fun cq186 => ?_)
                  · skip
                    refine g_iconst rfl ?_
                    refine g_istore_n (l1 := [(3, aI 0), (9, aI (((12 * p + (gAft S p j) : Nat) : Int))), (8, aI ((12 * p + j : Int))), (7, aI (((12 * p + (gAft S p i) : Nat) : Int))), (6, aI ((12 * p + i : Int))), (5, aI ((j : Int))), (4, aI ((i : Int))), (2, aI (((sGn S p : Nat) : Int))), (0, aO (some o)), (1, aI ((p : Int)))]) rfl rfl ?_
                    exact j195 _ (by (try clear cq186); (try clear cq147); (try clear cq119); (try clear cq96); omega) (by (try clear cq186); (try clear cq147); (try clear cq119); (try clear cq96); omega) (by 
                                                                                                                                                                                                                                                                                                                                                                                                                first
                                                                                                                                                                                                                                                                                                                                                                                                                | (exact hs2.elim (fun z => Or.inl ⟨rfl, And.intro z.2.1 (And.intro z.2.2.1 (And.intro z.2.2.2 (fun _ => cq186)))⟩) (fun z => absurd z.1 hs2n))
                                                                                                                                                                                                                                                                                                                                                                                                                | (exact Or.inr ⟨rfl, fun y => y.2.2.2 hm4 cq186⟩))
                  · skip
                    refine g_iconst rfl ?_
                    refine g_goto rfl ?_
                    refine g_istore_n (l1 := [(3, aI 1), (9, aI (((12 * p + (gAft S p j) : Nat) : Int))), (8, aI ((12 * p + j : Int))), (7, aI (((12 * p + (gAft S p i) : Nat) : Int))), (6, aI ((12 * p + i : Int))), (5, aI ((j : Int))), (4, aI ((i : Int))), (2, aI (((sGn S p : Nat) : Int))), (0, aO (some o)), (1, aI ((p : Int)))]) rfl rfl ?_
                    exact j195 _ (by (try clear cq186); (try clear cq147); (try clear cq119); (try clear cq96); omega) (by (try clear cq186); (try clear cq147); (try clear cq119); (try clear cq96); omega) (by 
                                                                                                                                                                                                                                                                                                                                                                                                                first
                                                                                                                                                                                                                                                                                                                                                                                                                | (exact hs2.elim (fun z => Or.inl ⟨rfl, And.intro z.2.1 (And.intro z.2.2.1 (And.intro z.2.2.2 (fun _ => cq186)))⟩) (fun z => absurd z.1 hs2n))
                                                                                                                                                                                                                                                                                                                                                                                                                | (exact Or.inr ⟨rfl, fun y => y.2.2.2 hm4 cq186⟩))
                · skip
                  refine g_iload rfl rfl ?_
                  refine g_iload_n rfl rfl ?_
                  refine g_iconst rfl ?_
                  refine g_isub rfl (by (try clear cq186); (try clear cq147); (try clear cq119); (try clear cq96); omega) (by (try clear cq186); (try clear cq147); (try clear cq119); (try clear cq96); omega) ?_
                  refine g_icmp_eq rfl (fun cq171 => ?_) (fun cq171 => ?_)
                  · skip
                    exact j195 _ (by (try clear cq186); (try clear cq147); (try clear cq119); (try clear cq96); omega) (by (try clear cq186); (try clear cq147); (try clear cq119); (try clear cq96); omega) (by exact hs2.elim (fun z => Or.inl ⟨z.1, And.intro z.2.1 (And.intro z.2.2.1 (And.intro z.2.2.2 (fun y => by omega)))⟩) (fun z => by omega))
                  · skip
                    have hm4 : j ≠ i + 1 ∧ ¬(i = 0 ∧ j = sGn S p - 1) := ⟨by omega, by omega⟩
                    refine g_aload_n rfl rfl ?_
                    refine g_iload rfl rfl ?_
                    refine g_iload rfl rfl ?_
                    refine g_iload rfl rfl ?_
                    refine g_iload rfl rfl ?_
                    refine g_callVI [aI ((12 * p + i : Int)), aI (((12 * p + (gAft S p i) : Nat) : Int)), aI ((12 * p + j : Int)), aI (((12 * p + (gAft S p j) : Nat) : Int))] [] rfl rfl rfl rfl (Nat.le_of_ble_eq_true rfl) ms.1 (m_pgMeets (by omega) ms V mg ok p hp i (by omega) (gAft S p i) (by omega) j (by omega) (gAft S p j) (by omega)) ?_
                    rintro r2 hx2 ⟨ehx2, rfl⟩
                    rw [ehx2]
                    clear ehx2 hx2
                    refine g_b_ne rfl (fun cq186 => ?_) (fun cq186 => ?_)
                    · skip
                      refine g_iconst rfl ?_
                      refine g_istore_n (l1 := [(3, aI 0), (9, aI (((12 * p + (gAft S p j) : Nat) : Int))), (8, aI ((12 * p + j : Int))), (7, aI (((12 * p + (gAft S p i) : Nat) : Int))), (6, aI ((12 * p + i : Int))), (5, aI ((j : Int))), (4, aI ((i : Int))), (2, aI (((sGn S p : Nat) : Int))), (0, aO (some o)), (1, aI ((p : Int)))]) rfl rfl ?_
                      exact j195 _ (by (try clear cq186); (try clear cq147); (try clear cq119); (try clear cq96); omega) (by (try clear cq186); (try clear cq147); (try clear cq119); (try clear cq96); omega) (by 
                                                                                                                                                                                                                                                                                                                                                                                                                first
                                                                                                                                                                                                                                                                                                                                                                                                                | (exact hs2.elim (fun z => Or.inl ⟨rfl, And.intro z.2.1 (And.intro z.2.2.1 (And.intro z.2.2.2 (fun _ => cq186)))⟩) (fun z => absurd z.1 hs2n))
                                                                                                                                                                                                                                                                                                                                                                                                                | (exact Or.inr ⟨rfl, fun y => y.2.2.2 hm4 cq186⟩))
                    · skip
                      refine g_iconst rfl ?_
                      refine g_goto rfl ?_
                      refine g_istore_n (l1 := [(3, aI 1), (9, aI (((12 * p + (gAft S p j) : Nat) : Int))), (8, aI ((12 * p + j : Int))), (7, aI (((12 * p + (gAft S p i) : Nat) : Int))), (6, aI ((12 * p + i : Int))), (5, aI ((j : Int))), (4, aI ((i : Int))), (2, aI (((sGn S p : Nat) : Int))), (0, aO (some o)), (1, aI ((p : Int)))]) rfl rfl ?_
                      exact j195 _ (by (try clear cq186); (try clear cq147); (try clear cq119); (try clear cq96); omega) (by (try clear cq186); (try clear cq147); (try clear cq119); (try clear cq96); omega) (by 
                                                                                                                                                                                                                                                                                                                                                                                                                first
                                                                                                                                                                                                                                                                                                                                                                                                                | (exact hs2.elim (fun z => Or.inl ⟨rfl, And.intro z.2.1 (And.intro z.2.2.1 (And.intro z.2.2.2 (fun _ => cq186)))⟩) (fun z => absurd z.1 hs2n))
                                                                                                                                                                                                                                                                                                                                                                                                                | (exact Or.inr ⟨rfl, fun y => y.2.2.2 hm4 cq186⟩))
          have j120 : ∀ (s1 : Int), (j < sGn S p) → (s ≠ 0) → ((s1 = 1 ∧ gB1 S p i j) ∨ (s1 = 0 ∧ ¬ gB1 S p i j)) → Wk w d cd_X12_isSimple 120 [(3, aI s1), (9, aI (((12 * p + (gAft S p j) : Nat) : Int))), (8, aI ((12 * p + j : Int))), (7, aI (((12 * p + (gAft S p i) : Nat) : Int))), (6, aI ((12 * p + i : Int))), (5, aI ((j : Int))), (4, aI ((i : Int))), (2, aI (((sGn S p : Nat) : Int))), (0, aO (some o)), (1, aI ((p : Int)))] [] (hw h V) (RI (fun r h1 => h1 = hw h V ∧ r = if bt (gSim2 S p) = true then 1 else 0)) := by
            intro s1 hjn hs0 hs1
            have li := gAft_lt (S := S) (p := p) (i := i) (by omega)
            have lj := gAft_lt (S := S) (p := p) (i := j) (by omega)
            refine g_iload_n rfl rfl ?_
            refine g_if_eq rfl (fun cq121 => ?_) (fun cq121 => ?_)
            · skip
              exact j148 _ (by (try clear cq186); (try clear cq147); (try clear cq119); (try clear cq96); omega) (by (try clear cq186); (try clear cq147); (try clear cq119); (try clear cq96); omega) (by exact hs1.elim (fun z => by omega) (fun z => Or.inr ⟨by omega, fun y => z.2 (And.intro y.1 y.2.1)⟩))
            · skip
              have hs1n : s1 ≠ 0 := by omega
              refine g_iload rfl rfl ?_
              refine g_if_ne rfl (fun cq126 => ?_) (fun cq126 => ?_)
              · skip
                exact j148 _ (by (try clear cq186); (try clear cq147); (try clear cq119); (try clear cq96); omega) (by (try clear cq186); (try clear cq147); (try clear cq119); (try clear cq96); omega) (by exact hs1.elim (fun z => Or.inl ⟨z.1, And.intro z.2.1 (And.intro z.2.2 (fun y => by omega))⟩) (fun z => by omega))
              · skip
                refine g_iload rfl rfl ?_
                refine g_iload_n rfl rfl ?_
                refine g_iconst rfl ?_
                refine g_isub rfl (by (try clear cq186); (try clear cq147); (try clear cq119); (try clear cq96); omega) (by (try clear cq186); (try clear cq147); (try clear cq119); (try clear cq96); omega) ?_
                refine g_icmp_ne rfl (fun cq134 => ?_) (fun cq134 => ?_)
                · skip
                  exact j148 _ (by (try clear cq186); (try clear cq147); (try clear cq119); (try clear cq96); omega) (by (try clear cq186); (try clear cq147); (try clear cq119); (try clear cq96); omega) (by exact hs1.elim (fun z => Or.inl ⟨z.1, And.intro z.2.1 (And.intro z.2.2 (fun y => by omega))⟩) (fun z => by omega))
                · skip
                  have hm3 : i = 0 ∧ j = sGn S p - 1 := ⟨by omega, by omega⟩
                  refine g_aload_n rfl rfl ?_
                  refine g_iload rfl rfl ?_
                  refine g_iload rfl rfl ?_
                  refine g_iload rfl rfl ?_
                  refine g_callVI [aI ((12 * p + j : Int)), aI ((12 * p + i : Int)), aI (((12 * p + (gAft S p i) : Nat) : Int))] [] rfl rfl rfl rfl (Nat.le_of_ble_eq_true rfl) ms.1 (m_pgOnly (by omega) ms V mg ok p hp j (by omega) i (by omega) (gAft S p i) (by omega)) ?_
                  rintro r3 hx3 ⟨ehx3, rfl⟩
                  rw [ehx3]
                  clear ehx3 hx3
                  by_cases cq147 : ¬(¬ gSame S p (gAft S p i) i ∧ gOn S p j i (gAft S p i)) ∧ ¬(¬ gSame S p j i ∧ gOn S p i (gAft S p i) j)
                  · refine g_top (v2 := aI 1) (congrArg aI (if_pos cq147)) ?_
                    refine g_istore_n (l1 := [(3, aI 1), (9, aI (((12 * p + (gAft S p j) : Nat) : Int))), (8, aI ((12 * p + j : Int))), (7, aI (((12 * p + (gAft S p i) : Nat) : Int))), (6, aI ((12 * p + i : Int))), (5, aI ((j : Int))), (4, aI ((i : Int))), (2, aI (((sGn S p : Nat) : Int))), (0, aO (some o)), (1, aI ((p : Int)))]) rfl rfl ?_
                    exact j148 _ (by (try clear cq186); (try clear cq147); (try clear cq119); (try clear cq96); omega) (by (try clear cq186); (try clear cq147); (try clear cq119); (try clear cq96); omega) (by 
                                                                                                                                                                                                                                                                                                                                                                                                                first
                                                                                                                                                                                                                                                                                                                                                                                                                | (exact hs1.elim (fun z => Or.inl ⟨rfl, And.intro z.2.1 (And.intro z.2.2 (fun _ => cq147))⟩) (fun z => absurd z.1 hs1n))
                                                                                                                                                                                                                                                                                                                                                                                                                | (exact Or.inr ⟨rfl, fun y => cq147 (y.2.2 hm3)⟩))
                  · refine g_top (v2 := aI 0) (congrArg aI (if_neg cq147)) ?_
                    refine g_istore_n (l1 := [(3, aI 0), (9, aI (((12 * p + (gAft S p j) : Nat) : Int))), (8, aI ((12 * p + j : Int))), (7, aI (((12 * p + (gAft S p i) : Nat) : Int))), (6, aI ((12 * p + i : Int))), (5, aI ((j : Int))), (4, aI ((i : Int))), (2, aI (((sGn S p : Nat) : Int))), (0, aO (some o)), (1, aI ((p : Int)))]) rfl rfl ?_
                    exact j148 _ (by (try clear cq186); (try clear cq147); (try clear cq119); (try clear cq96); omega) (by (try clear cq186); (try clear cq147); (try clear cq119); (try clear cq96); omega) (by 
                                                                                                                                                                                                                                                                                                                                                                                                                first
                                                                                                                                                                                                                                                                                                                                                                                                                | (exact hs1.elim (fun z => Or.inl ⟨rfl, And.intro z.2.1 (And.intro z.2.2 (fun _ => cq147))⟩) (fun z => absurd z.1 hs1n))
                                                                                                                                                                                                                                                                                                                                                                                                                | (exact Or.inr ⟨rfl, fun y => cq147 (y.2.2 hm3)⟩))
          refine g_iload rfl rfl ?_
          refine g_iload_n rfl rfl ?_
          refine g_icmp_ge rfl (fun cq40 => ?_) (fun cq40 => ?_)
          · skip
            refine g_iinc (l1 := [(4, aI ((i : Int) + 1)), (5, aI ((j : Int))), (3, aI s), (2, aI (((sGn S p : Nat) : Int))), (0, aO (some o)), (1, aI ((p : Int)))]) rfl rfl (by (try clear cq186); (try clear cq147); (try clear cq119); (try clear cq96); omega) (by (try clear cq186); (try clear cq147); (try clear cq119); (try clear cq96); omega) rfl ?_
            refine g_goto rfl ?_
            refine g_ls [0, 2, 3, 4, 5] rfl rfl ?_
            exact ih21 (i + 1) _ (by (try clear cq186); (try clear cq147); (try clear cq119); (try clear cq96); omega) (by exact hq.elim (fun z => Or.inl ⟨z.1, hso.1, fun a b h1 h2 h3 => if e : a = i then by subst e; exact z.2 b h2 (by omega) else hso.2 a b (by omega) h2 h3⟩) (fun z => Or.inr ⟨z.1, fun y => by obtain ⟨b, h1, h2, h3⟩ := z.2; exact h3 (y.2 i b h1 h2)⟩)) (by (try clear cq186); (try clear cq147); (try clear cq119); (try clear cq96); omega)
          · skip
            refine g_iload_n rfl rfl ?_
            refine g_if_eq rfl (fun cq44 => ?_) (fun cq44 => ?_)
            · skip
              refine g_iinc (l1 := [(4, aI ((i : Int) + 1)), (5, aI ((j : Int))), (3, aI s), (2, aI (((sGn S p : Nat) : Int))), (0, aO (some o)), (1, aI ((p : Int)))]) rfl rfl (by (try clear cq186); (try clear cq147); (try clear cq119); (try clear cq96); omega) (by (try clear cq186); (try clear cq147); (try clear cq119); (try clear cq96); omega) rfl ?_
              refine g_goto rfl ?_
              refine g_ls [0, 2, 3, 4, 5] rfl rfl ?_
              exact ih21 (i + 1) _ (by (try clear cq186); (try clear cq147); (try clear cq119); (try clear cq96); omega) (by exact hq.elim (fun z => Or.inl ⟨z.1, hso.1, fun a b h1 h2 h3 => if e : a = i then by subst e; exact z.2 b h2 (by omega) else hso.2 a b (by omega) h2 h3⟩) (fun z => Or.inr ⟨z.1, fun y => by obtain ⟨b, h1, h2, h3⟩ := z.2; exact h3 (y.2 i b h1 h2)⟩)) (by (try clear cq186); (try clear cq147); (try clear cq119); (try clear cq96); omega)
            · skip
              have li := gAft_lt (S := S) (p := p) (i := i) (by omega)
              have lj := gAft_lt (S := S) (p := p) (i := j) (by omega)
              refine g_aload_n rfl rfl ?_
              refine g_iload_n rfl rfl ?_
              refine g_iload rfl rfl ?_
              refine g_callVI [aI ((p : Int)), aI ((i : Int))] [] rfl rfl rfl rfl (Nat.le_of_ble_eq_true rfl) ms.1 (m_pgAt0 (by omega) ms V mg ok p hp i (by omega)) ?_
              rintro r4 hx4 ⟨ehx4, rfl⟩
              rw [ehx4]
              clear ehx4 hx4
              refine g_istore (l1 := [(6, aI ((12 * p + i : Int))), (5, aI ((j : Int))), (4, aI ((i : Int))), (3, aI s), (2, aI (((sGn S p : Nat) : Int))), (0, aO (some o)), (1, aI ((p : Int)))]) rfl rfl ?_
              refine g_aload_n rfl rfl ?_
              refine g_iload_n rfl rfl ?_
              refine g_iload rfl rfl ?_
              refine g_iconst rfl ?_
              refine g_iadd rfl (by (try clear cq186); (try clear cq147); (try clear cq119); (try clear cq96); omega) (by (try clear cq186); (try clear cq147); (try clear cq119); (try clear cq96); omega) ?_
              refine g_callVI [aI ((p : Int)), aI (((i : Int)) + 1)] [] rfl rfl rfl rfl (Nat.le_of_ble_eq_true rfl) ms.1 (m_pgAt1 (by omega) ms V mg ok p hp i (by omega)) ?_
              rintro r5 hx5 ⟨ehx5, rfl⟩
              rw [ehx5]
              clear ehx5 hx5
              refine g_istore (l1 := [(7, aI (((12 * p + (gAft S p i) : Nat) : Int))), (6, aI ((12 * p + i : Int))), (5, aI ((j : Int))), (4, aI ((i : Int))), (3, aI s), (2, aI (((sGn S p : Nat) : Int))), (0, aO (some o)), (1, aI ((p : Int)))]) rfl rfl ?_
              refine g_aload_n rfl rfl ?_
              refine g_iload_n rfl rfl ?_
              refine g_iload rfl rfl ?_
              refine g_callVI [aI ((p : Int)), aI ((j : Int))] [] rfl rfl rfl rfl (Nat.le_of_ble_eq_true rfl) ms.1 (m_pgAt0 (by omega) ms V mg ok p hp j (by omega)) ?_
              rintro r6 hx6 ⟨ehx6, rfl⟩
              rw [ehx6]
              clear ehx6 hx6
              refine g_istore (l1 := [(8, aI ((12 * p + j : Int))), (7, aI (((12 * p + (gAft S p i) : Nat) : Int))), (6, aI ((12 * p + i : Int))), (5, aI ((j : Int))), (4, aI ((i : Int))), (3, aI s), (2, aI (((sGn S p : Nat) : Int))), (0, aO (some o)), (1, aI ((p : Int)))]) rfl rfl ?_
              refine g_aload_n rfl rfl ?_
              refine g_iload_n rfl rfl ?_
              refine g_iload rfl rfl ?_
              refine g_iconst rfl ?_
              refine g_iadd rfl (by (try clear cq186); (try clear cq147); (try clear cq119); (try clear cq96); omega) (by (try clear cq186); (try clear cq147); (try clear cq119); (try clear cq96); omega) ?_
              refine g_callVI [aI ((p : Int)), aI (((j : Int)) + 1)] [] rfl rfl rfl rfl (Nat.le_of_ble_eq_true rfl) ms.1 (m_pgAt1 (by omega) ms V mg ok p hp j (by omega)) ?_
              rintro r7 hx7 ⟨ehx7, rfl⟩
              rw [ehx7]
              clear ehx7 hx7
              refine g_istore (l1 := [(9, aI (((12 * p + (gAft S p j) : Nat) : Int))), (8, aI ((12 * p + j : Int))), (7, aI (((12 * p + (gAft S p i) : Nat) : Int))), (6, aI ((12 * p + i : Int))), (5, aI ((j : Int))), (4, aI ((i : Int))), (3, aI s), (2, aI (((sGn S p : Nat) : Int))), (0, aO (some o)), (1, aI ((p : Int)))]) rfl rfl ?_
              refine g_aload_n rfl rfl ?_
              refine g_iload rfl rfl ?_
              refine g_iload rfl rfl ?_
              refine g_callVI [aI ((12 * p + i : Int)), aI ((12 * p + j : Int))] [] rfl rfl rfl rfl (Nat.le_of_ble_eq_true rfl) ms.1 (m_pgOther (by omega) ms V mg ok p hp i (by omega) j (by omega)) ?_
              rintro r8 hx8 ⟨ehx8, rfl⟩
              rw [ehx8]
              clear ehx8 hx8
              by_cases cq96 : ¬ gSame S p i j
              · refine g_top (v2 := aI 1) (congrArg aI (if_pos cq96)) ?_
                refine g_istore_n (l1 := [(3, aI 1), (9, aI (((12 * p + (gAft S p j) : Nat) : Int))), (8, aI ((12 * p + j : Int))), (7, aI (((12 * p + (gAft S p i) : Nat) : Int))), (6, aI ((12 * p + i : Int))), (5, aI ((j : Int))), (4, aI ((i : Int))), (2, aI (((sGn S p : Nat) : Int))), (0, aO (some o)), (1, aI ((p : Int)))]) rfl rfl ?_
                refine g_iload_n rfl rfl ?_
                refine g_if_eq_f rfl (by (try clear cq186); (try clear cq147); (try clear cq119); (try clear cq96); omega) ?_
                refine g_iload rfl rfl ?_
                refine g_iload rfl rfl ?_
                refine g_iconst rfl ?_
                refine g_iadd rfl (by (try clear cq186); (try clear cq147); (try clear cq119); (try clear cq96); omega) (by (try clear cq186); (try clear cq147); (try clear cq119); (try clear cq96); omega) ?_
                refine g_icmp_ne rfl (fun cq106 => ?_) (fun cq106 => ?_)
                · skip
                  exact j120 _ (by (try clear cq186); (try clear cq147); (try clear cq119); (try clear cq96); omega) (by (try clear cq186); (try clear cq147); (try clear cq119); (try clear cq96); omega) (by exact Or.inl ⟨rfl, And.intro cq96 (fun y => by omega)⟩)
                · skip
                  have hm2 : j = i + 1 := by omega
                  refine g_aload_n rfl rfl ?_
                  refine g_iload rfl rfl ?_
                  refine g_iload rfl rfl ?_
                  refine g_iload rfl rfl ?_
                  refine g_callVI [aI ((12 * p + i : Int)), aI (((12 * p + (gAft S p i) : Nat) : Int)), aI (((12 * p + (gAft S p j) : Nat) : Int))] [] rfl rfl rfl rfl (Nat.le_of_ble_eq_true rfl) ms.1 (m_pgOnly (by omega) ms V mg ok p hp i (by omega) (gAft S p i) (by omega) (gAft S p j) (by omega)) ?_
                  rintro r9 hx9 ⟨ehx9, rfl⟩
                  rw [ehx9]
                  clear ehx9 hx9
                  by_cases cq119 : ¬(¬ gSame S p (gAft S p j) (gAft S p i) ∧ gOn S p i (gAft S p i) (gAft S p j)) ∧ ¬(¬ gSame S p i (gAft S p i) ∧ gOn S p (gAft S p i) (gAft S p j) i)
                  · refine g_top (v2 := aI 1) (congrArg aI (if_pos cq119)) ?_
                    refine g_istore_n (l1 := [(3, aI 1), (9, aI (((12 * p + (gAft S p j) : Nat) : Int))), (8, aI ((12 * p + j : Int))), (7, aI (((12 * p + (gAft S p i) : Nat) : Int))), (6, aI ((12 * p + i : Int))), (5, aI ((j : Int))), (4, aI ((i : Int))), (2, aI (((sGn S p : Nat) : Int))), (0, aO (some o)), (1, aI ((p : Int)))]) rfl rfl ?_
                    exact j120 _ (by (try clear cq186); (try clear cq147); (try clear cq119); (try clear cq96); omega) (by (try clear cq186); (try clear cq147); (try clear cq119); (try clear cq96); omega) (by 
                                                                                                                                                                                                                                                                                                                                                                                                                first
                                                                                                                                                                                                                                                                                                                                                                                                                | (exact Or.inl ⟨rfl, And.intro cq96 (fun _ => cq119)⟩)
                                                                                                                                                                                                                                                                                                                                                                                                                | (exact Or.inr ⟨rfl, fun z => cq119 (z.2 hm2)⟩))
                  · refine g_top (v2 := aI 0) (congrArg aI (if_neg cq119)) ?_
                    refine g_istore_n (l1 := [(3, aI 0), (9, aI (((12 * p + (gAft S p j) : Nat) : Int))), (8, aI ((12 * p + j : Int))), (7, aI (((12 * p + (gAft S p i) : Nat) : Int))), (6, aI ((12 * p + i : Int))), (5, aI ((j : Int))), (4, aI ((i : Int))), (2, aI (((sGn S p : Nat) : Int))), (0, aO (some o)), (1, aI ((p : Int)))]) rfl rfl ?_
                    exact j120 _ (by (try clear cq186); (try clear cq147); (try clear cq119); (try clear cq96); omega) (by (try clear cq186); (try clear cq147); (try clear cq119); (try clear cq96); omega) (by 
                                                                                                                                                                                                                                                                                                                                                                                                                first
                                                                                                                                                                                                                                                                                                                                                                                                                | (exact Or.inl ⟨rfl, And.intro cq96 (fun _ => cq119)⟩)
                                                                                                                                                                                                                                                                                                                                                                                                                | (exact Or.inr ⟨rfl, fun z => cq119 (z.2 hm2)⟩))
              · refine g_top (v2 := aI 0) (congrArg aI (if_neg cq96)) ?_
                refine g_istore_n (l1 := [(3, aI 0), (9, aI (((12 * p + (gAft S p j) : Nat) : Int))), (8, aI ((12 * p + j : Int))), (7, aI (((12 * p + (gAft S p i) : Nat) : Int))), (6, aI ((12 * p + i : Int))), (5, aI ((j : Int))), (4, aI ((i : Int))), (2, aI (((sGn S p : Nat) : Int))), (0, aO (some o)), (1, aI ((p : Int)))]) rfl rfl ?_
                refine g_iload_n rfl rfl ?_
                refine g_if_eq_t rfl (by (try clear cq186); (try clear cq147); (try clear cq119); (try clear cq96); omega) ?_
                exact j120 _ (by (try clear cq186); (try clear cq147); (try clear cq119); (try clear cq96); omega) (by (try clear cq186); (try clear cq147); (try clear cq119); (try clear cq96); omega) (by exact Or.inr ⟨rfl, fun z => cq96 z.1⟩)
      refine g_iload rfl rfl ?_
      refine g_iload_n rfl rfl ?_
      refine g_icmp_ge rfl (fun cq24 => ?_) (fun cq24 => ?_)
      · skip
        refine g_iload_n rfl rfl ?_
        refine g_zret rfl (by omega) ?_
        refine ⟨rfl, ?_⟩
        rcases hs with z | z
        · rw [if_pos (bt_iff.mpr ⟨z.2.1, fun a b h1 h2 => z.2.2 a b (by omega) h1 h2⟩)]
          exact z.1
        · rw [if_neg (fun y => z.2 (bt_iff.mp y))]
          exact z.1
      · skip
        refine g_iload_n rfl rfl ?_
        refine g_if_eq rfl (fun cq28 => ?_) (fun cq28 => ?_)
        · skip
          refine g_iload_n rfl rfl ?_
          refine g_zret rfl (by omega) ?_
          refine ⟨rfl, ?_⟩
          rcases hs with z | z
          · rw [if_pos (bt_iff.mpr ⟨z.2.1, fun a b h1 h2 => z.2.2 a b (by omega) h1 h2⟩)]
            exact z.1
          · rw [if_neg (fun y => z.2 (bt_iff.mp y))]
            exact z.1
        · skip
          refine g_iload rfl rfl ?_
          refine g_iconst rfl ?_
          refine g_iadd rfl (by (try clear cq186); (try clear cq147); (try clear cq119); (try clear cq96); omega) (by (try clear cq186); (try clear cq147); (try clear cq119); (try clear cq96); omega) ?_
          refine g_istore (l1 := [(5, aI (((i : Int)) + 1)), (4, aI ((i : Int))), (3, aI s), (2, aI (((sGn S p : Nat) : Int))), (0, aO (some o)), (1, aI ((p : Int)))]) rfl rfl ?_
          exact l37 _ (i + 1) _ (by (try clear cq186); (try clear cq147); (try clear cq119); (try clear cq96); omega) (by (try clear cq186); (try clear cq147); (try clear cq119); (try clear cq96); omega) (by (try clear cq186); (try clear cq147); (try clear cq119); (try clear cq96); omega) (by exact hs.elim (fun z => z.2) (fun z => by omega)) (by exact Or.inl ⟨by omega, fun b h1 h2 => by omega⟩) (Nat.lt_succ_self _)
  refine g_aload_n rfl rfl ?_
  refine g_getR rfl ms.1 (mr_corners ms) ?_
  refine g_iload_n rfl rfl ?_
  refine g_iald (i := p) rfl (mt_corners ms) (by (try clear cq186); (try clear cq147); (try clear cq119); (try clear cq96); omega) (by (try clear cq186); (try clear cq147); (try clear cq119); (try clear cq96); omega) ?_
  refine g_top (v2 := aI ((sGn S p : Int))) (congrArg aI (by exact (mg.2 p hp).1)) ?_
  refine g_istore_n (l1 := [(2, aI ((sGn S p : Int))), (0, aO (some o)), (1, aI ((p : Int)))]) rfl rfl ?_
  refine g_iload_n rfl rfl ?_
  refine g_iconst rfl ?_
  refine g_icmp_lt rfl (fun cq9 => ?_) (fun cq9 => ?_)
  · skip
    refine g_iconst rfl ?_
    refine g_istore_n (l1 := [(3, aI 0), (2, aI ((sGn S p : Int))), (0, aO (some o)), (1, aI ((p : Int)))]) rfl rfl ?_
    refine g_iconst rfl ?_
    refine g_istore (l1 := [(4, aI 0), (3, aI 0), (2, aI ((sGn S p : Int))), (0, aO (some o)), (1, aI ((p : Int)))]) rfl rfl ?_
    exact l21 _ 0 _ (by (try clear cq186); (try clear cq147); (try clear cq119); (try clear cq96); omega) (by 
                                                                                                                                                                                                                                                                                                                                                                                                                first
                                                                                                                                                                                                                                                                                                                                                                                                                | (refine Or.inl ⟨rfl, ?_, fun a b h1 => ?_⟩ <;> omega)
                                                                                                                                                                                                                                                                                                                                                                                                                | (exact Or.inr ⟨rfl, fun z => by have := z.1; omega⟩)) (Nat.lt_succ_self _)
  · skip
    refine g_iconst rfl ?_
    refine g_goto rfl ?_
    refine g_istore_n (l1 := [(3, aI 1), (2, aI ((sGn S p : Int))), (0, aO (some o)), (1, aI ((p : Int)))]) rfl rfl ?_
    refine g_iconst rfl ?_
    refine g_istore (l1 := [(4, aI 0), (3, aI 1), (2, aI ((sGn S p : Int))), (0, aO (some o)), (1, aI ((p : Int)))]) rfl rfl ?_
    exact l21 _ 0 _ (by (try clear cq186); (try clear cq147); (try clear cq119); (try clear cq96); omega) (by 
                                                                                                                                                                                                                                                                                                                                                                                                                first
                                                                                                                                                                                                                                                                                                                                                                                                                | (refine Or.inl ⟨rfl, ?_, fun a b h1 => ?_⟩ <;> omega)
                                                                                                                                                                                                                                                                                                                                                                                                                | (exact Or.inr ⟨rfl, fun z => by have := z.1; omega⟩)) (Nat.lt_succ_self _)
