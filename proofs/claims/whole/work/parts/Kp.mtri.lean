/-! the reference's polygons: ways, triangles: printed by wip/whole/gg_.py -/
set_option maxRecDepth 100000 in
theorem m_pgWay {w : aW} {d : Nat} (hd : 5 ≤ d) {h : aH} {o : Nat} (ms : MS h o) (V : Nat → Nat → Int) {S : aS} (mg : MG V o S) (ok : OkG S) (p : Nat) (hp : p < sG S) (i : Nat) (hi : i < sGn S p) (j : Nat) (hj : j < sGn S p) : WP w d 345 [aO (some o), aI ((p : Int)), aI ((i : Int)), aI ((j : Int))] (hw h V) (RI (fun r h1 => h1 = hw h V ∧ r = if (j = i + 1 ∨ (i = 0 ∧ j = sGn S p - 1)) ∨ bt (gDiag S p i j) = true then 1 else 0)) := by
  obtain ⟨d, rfl⟩ : ∃ d1, d = d1 + 1 := ⟨d - 1, by omega⟩
  refine WP.enter (cd := cd_X12_isWay) rfl ?_
  have hok := ok.1
  have hok2 := (ok.2 p hp).1
  have bxa := ok.x hp hi
  have bya := ok.y hp hi
  have bxb := ok.x hp hj
  have byb := ok.y hp hj
  have hls : largs 0 [aO (some o), aI ((p : Int)), aI ((i : Int)), aI ((j : Int))] = [(0, aO (some o)), (1, aI ((p : Int))), (2, aI ((i : Int))), (3, aI ((j : Int)))] := rfl
  rw [hls]
  clear hls
  have l48 : ∀ (fuel : Nat) (k : Nat), (k ≤ sGn S p) → (¬(j = i + 1 ∨ (i = 0 ∧ j = sGn S p - 1))) → (∀ u < k, gDg S p i j u) → sGn S p - k < fuel → Wk w d cd_X12_isWay 48 [(7, aI ((k : Int))), (6, aI ((12 * p + j : Int))), (5, aI ((12 * p + i : Int))), (4, aI (((sGn S p : Nat) : Int))), (0, aO (some o)), (1, aI ((p : Int))), (2, aI ((i : Int))), (3, aI ((j : Int)))] [] (hw h V) (RI (fun r h1 => h1 = hw h V ∧ r = if (j = i + 1 ∨ (i = 0 ∧ j = sGn S p - 1)) ∨ bt (gDiag S p i j) = true then 1 else 0)) := by
    intro fuel
    induction fuel with
    | zero => intros; omega
    | succ fuel ih48 =>
      intro k hk hnw hg hfuel
      have hok := ok.1
      have hok2 := (ok.2 p hp).1
      refine g_iload rfl rfl ?_
      refine g_iload rfl rfl ?_
      refine g_icmp_ge rfl (fun cq52 => ?_) (fun cq52 => ?_)
      · skip
        refine g_aload_n rfl rfl ?_
        refine g_iload_n rfl rfl ?_
        refine g_aload_n rfl rfl ?_
        refine g_getR rfl ms.1 (mr_px ms) ?_
        refine g_iload rfl rfl ?_
        refine g_iald (i := 12 * p + i) rfl (mt_px ms) (by (try clear cq160); (try clear cq97); omega) (by (try clear cq160); (try clear cq97); omega) ?_
        refine g_top (v2 := aI (gx S p i)) (congrArg aI (by exact ((mg.2 p hp).2 i (by omega)).1)) ?_
        refine g_aload_n rfl rfl ?_
        refine g_getR rfl ms.1 (mr_px ms) ?_
        refine g_iload rfl rfl ?_
        refine g_iald (i := 12 * p + j) rfl (mt_px ms) (by (try clear cq160); (try clear cq97); omega) (by (try clear cq160); (try clear cq97); omega) ?_
        refine g_top (v2 := aI (gx S p j)) (congrArg aI (by exact ((mg.2 p hp).2 j (by omega)).1)) ?_
        refine g_iadd rfl (by (try clear cq160); (try clear cq97); omega) (by (try clear cq160); (try clear cq97); omega) ?_
        refine g_i2l rfl ?_
        refine g_aload_n rfl rfl ?_
        refine g_getR rfl ms.1 (mr_py ms) ?_
        refine g_iload rfl rfl ?_
        refine g_iald (i := 12 * p + i) rfl (mt_py ms) (by (try clear cq160); (try clear cq97); omega) (by (try clear cq160); (try clear cq97); omega) ?_
        refine g_top (v2 := aI (gy S p i)) (congrArg aI (by exact ((mg.2 p hp).2 i (by omega)).2)) ?_
        refine g_aload_n rfl rfl ?_
        refine g_getR rfl ms.1 (mr_py ms) ?_
        refine g_iload rfl rfl ?_
        refine g_iald (i := 12 * p + j) rfl (mt_py ms) (by (try clear cq160); (try clear cq97); omega) (by (try clear cq160); (try clear cq97); omega) ?_
        refine g_top (v2 := aI (gy S p j)) (congrArg aI (by exact ((mg.2 p hp).2 j (by omega)).2)) ?_
        refine g_iadd rfl (by (try clear cq160); (try clear cq97); omega) (by (try clear cq160); (try clear cq97); omega) ?_
        refine g_i2l rfl ?_
        refine g_ldc2 rfl ?_
        refine g_callVI [aI ((p : Int)), aJ ((gx S p i) + (gx S p j)), aJ ((gy S p i) + (gy S p j)), aJ 2] [] rfl rfl rfl rfl (Nat.le_of_ble_eq_true rfl) ms.1 (m_pgWhere (by omega) ms V mg ok p (by omega) ((gx S p i) + (gx S p j)) ((gy S p i) + (gy S p j)) 2 (by omega) (by omega) (by omega)) ?_
        rintro r1 hx1 ⟨ehx1, rfl⟩
        rw [ehx1]
        clear ehx1 hx1
        refine g_iconst rfl ?_
        refine g_icmp_ne rfl (fun cq212 => ?_) (fun cq212 => ?_)
        · skip
          refine g_iconst rfl ?_
          refine g_zret rfl (by (try clear cq160); (try clear cq97); omega) ?_
          refine ⟨rfl, ?_⟩
          first
            | (refine (if_pos ?_).symm; refine Or.inr (bt_iff.mpr ⟨fun u hu => hg u ?_, ?_⟩) <;> omega)
            | (refine (if_neg ?_).symm; intro z; exact z.elim (fun y => by omega) (fun y => by have := (bt_iff.mp y).2; omega))
        · skip
          refine g_iconst rfl ?_
          refine g_goto rfl ?_
          refine g_zret rfl (by (try clear cq160); (try clear cq97); omega) ?_
          refine ⟨rfl, ?_⟩
          first
            | (refine (if_pos ?_).symm; refine Or.inr (bt_iff.mpr ⟨fun u hu => hg u ?_, ?_⟩) <;> omega)
            | (refine (if_neg ?_).symm; intro z; exact z.elim (fun y => by omega) (fun y => by have := (bt_iff.mp y).2; omega))
      · skip
        have li := gAft_lt (S := S) (p := p) (i := k) (by omega)
        refine g_aload_n rfl rfl ?_
        refine g_iload_n rfl rfl ?_
        refine g_iload rfl rfl ?_
        refine g_callVI [aI ((p : Int)), aI ((k : Int))] [] rfl rfl rfl rfl (Nat.le_of_ble_eq_true rfl) ms.1 (m_pgAt0 (by omega) ms V mg ok p hp k (by omega)) ?_
        rintro r2 hx2 ⟨ehx2, rfl⟩
        rw [ehx2]
        clear ehx2 hx2
        refine g_istore (l1 := [(8, aI ((12 * p + k : Int))), (7, aI ((k : Int))), (6, aI ((12 * p + j : Int))), (5, aI ((12 * p + i : Int))), (4, aI (((sGn S p : Nat) : Int))), (0, aO (some o)), (1, aI ((p : Int))), (2, aI ((i : Int))), (3, aI ((j : Int)))]) rfl rfl ?_
        refine g_aload_n rfl rfl ?_
        refine g_iload_n rfl rfl ?_
        refine g_iload rfl rfl ?_
        refine g_iconst rfl ?_
        refine g_iadd rfl (by (try clear cq160); (try clear cq97); omega) (by (try clear cq160); (try clear cq97); omega) ?_
        refine g_callVI [aI ((p : Int)), aI (((k : Int)) + 1)] [] rfl rfl rfl rfl (Nat.le_of_ble_eq_true rfl) ms.1 (m_pgAt1 (by omega) ms V mg ok p hp k (by omega)) ?_
        rintro r3 hx3 ⟨ehx3, rfl⟩
        rw [ehx3]
        clear ehx3 hx3
        refine g_istore (l1 := [(9, aI (((12 * p + (gAft S p k) : Nat) : Int))), (8, aI ((12 * p + k : Int))), (7, aI ((k : Int))), (6, aI ((12 * p + j : Int))), (5, aI ((12 * p + i : Int))), (4, aI (((sGn S p : Nat) : Int))), (0, aO (some o)), (1, aI ((p : Int))), (2, aI ((i : Int))), (3, aI ((j : Int)))]) rfl rfl ?_
        refine g_iload rfl rfl ?_
        refine g_iload_n rfl rfl ?_
        refine g_icmp_eq rfl (fun cq78 => ?_) (fun cq78 => ?_)
        · skip
          refine g_iload rfl rfl ?_
          refine g_iload_n rfl rfl ?_
          refine g_icmp_eq rfl (fun cq105 => ?_) (fun cq105 => ?_)
          · skip
            refine g_iconst rfl ?_
            refine g_goto rfl ?_
            refine g_istore (l1 := [(10, aI 1), (9, aI (((12 * p + (gAft S p k) : Nat) : Int))), (8, aI ((12 * p + k : Int))), (7, aI ((k : Int))), (6, aI ((12 * p + j : Int))), (5, aI ((12 * p + i : Int))), (4, aI (((sGn S p : Nat) : Int))), (0, aO (some o)), (1, aI ((p : Int))), (2, aI ((i : Int))), (3, aI ((j : Int)))]) rfl rfl ?_
            refine g_iload rfl rfl ?_
            refine g_if_ne_t rfl (by (try clear cq160); (try clear cq97); omega) ?_
            refine g_iinc (l1 := [(7, aI ((k : Int) + 1)), (10, aI 1), (9, aI (((12 * p + (gAft S p k) : Nat) : Int))), (8, aI ((12 * p + k : Int))), (6, aI ((12 * p + j : Int))), (5, aI ((12 * p + i : Int))), (4, aI (((sGn S p : Nat) : Int))), (0, aO (some o)), (1, aI ((p : Int))), (2, aI ((i : Int))), (3, aI ((j : Int)))]) rfl rfl (by (try clear cq160); (try clear cq97); omega) (by (try clear cq160); (try clear cq97); omega) rfl ?_
            refine g_goto rfl ?_
            refine g_ls [0, 4, 5, 6, 7, 8, 9, 10] rfl rfl ?_
            exact ih48 (k + 1) (by (try clear cq160); (try clear cq97); omega) (by exact hnw) (by 
                                                                                                                                                                                                                                                                                                                                                                                                                exact fun u h1 => if e : u = k then by
                                                                                                                                                                                                                                                                                                                                                                                                                    subst e
                                                                                                                                                                                                                                                                                                                                                                                                                    refine ⟨fun z => ?_, fun z => ?_⟩
                                                                                                                                                                                                                                                                                                                                                                                                                    · first
                                                                                                                                                                                                                                                                                                                                                                                                                        | (exact cq97 z.2)
                                                                                                                                                                                                                                                                                                                                                                                                                        | (have z1 := z.1; clear z; (try clear cq160); (try clear cq97); omega)
                                                                                                                                                                                                                                                                                                                                                                                                                    · first
                                                                                                                                                                                                                                                                                                                                                                                                                        | (exact cq160 z.2)
                                                                                                                                                                                                                                                                                                                                                                                                                        | (have z1 := z.1; clear z; (try clear cq160); (try clear cq97); omega)
                                                                                                                                                                                                                                                                                                                                                                                                                  else hg u (by (try clear cq160); (try clear cq97); omega)) (by (try clear cq160); (try clear cq97); omega)
          · skip
            refine g_iload rfl rfl ?_
            refine g_iload_n rfl rfl ?_
            refine g_icmp_eq rfl (fun cq111 => ?_) (fun cq111 => ?_)
            · skip
              refine g_iconst rfl ?_
              refine g_goto rfl ?_
              refine g_istore (l1 := [(10, aI 1), (9, aI (((12 * p + (gAft S p k) : Nat) : Int))), (8, aI ((12 * p + k : Int))), (7, aI ((k : Int))), (6, aI ((12 * p + j : Int))), (5, aI ((12 * p + i : Int))), (4, aI (((sGn S p : Nat) : Int))), (0, aO (some o)), (1, aI ((p : Int))), (2, aI ((i : Int))), (3, aI ((j : Int)))]) rfl rfl ?_
              refine g_iload rfl rfl ?_
              refine g_if_ne_t rfl (by (try clear cq160); (try clear cq97); omega) ?_
              refine g_iinc (l1 := [(7, aI ((k : Int) + 1)), (10, aI 1), (9, aI (((12 * p + (gAft S p k) : Nat) : Int))), (8, aI ((12 * p + k : Int))), (6, aI ((12 * p + j : Int))), (5, aI ((12 * p + i : Int))), (4, aI (((sGn S p : Nat) : Int))), (0, aO (some o)), (1, aI ((p : Int))), (2, aI ((i : Int))), (3, aI ((j : Int)))]) rfl rfl (by (try clear cq160); (try clear cq97); omega) (by (try clear cq160); (try clear cq97); omega) rfl ?_
              refine g_goto rfl ?_
              refine g_ls [0, 4, 5, 6, 7, 8, 9, 10] rfl rfl ?_
              exact ih48 (k + 1) (by (try clear cq160); (try clear cq97); omega) (by exact hnw) (by 
                                                                                                                                                                                                                                                                                                                                                                                                                exact fun u h1 => if e : u = k then by
                                                                                                                                                                                                                                                                                                                                                                                                                    subst e
                                                                                                                                                                                                                                                                                                                                                                                                                    refine ⟨fun z => ?_, fun z => ?_⟩
                                                                                                                                                                                                                                                                                                                                                                                                                    · first
                                                                                                                                                                                                                                                                                                                                                                                                                        | (exact cq97 z.2)
                                                                                                                                                                                                                                                                                                                                                                                                                        | (have z1 := z.1; clear z; (try clear cq160); (try clear cq97); omega)
                                                                                                                                                                                                                                                                                                                                                                                                                    · first
                                                                                                                                                                                                                                                                                                                                                                                                                        | (exact cq160 z.2)
                                                                                                                                                                                                                                                                                                                                                                                                                        | (have z1 := z.1; clear z; (try clear cq160); (try clear cq97); omega)
                                                                                                                                                                                                                                                                                                                                                                                                                  else hg u (by (try clear cq160); (try clear cq97); omega)) (by (try clear cq160); (try clear cq97); omega)
            · skip
              refine g_iload rfl rfl ?_
              refine g_iconst rfl ?_
              refine g_iadd rfl (by (try clear cq160); (try clear cq97); omega) (by (try clear cq160); (try clear cq97); omega) ?_
              refine g_iload rfl rfl ?_
              refine g_iremN (m := (sGn S p)) (n := (k + 1)) rfl (by (try clear cq160); (try clear cq97); omega) ?_
              refine g_top (v2 := aI (((gAft S p k : Nat) : Int))) (congrArg aI (by rw [mod1 (by omega)])) ?_
              refine g_iload_n rfl rfl ?_
              refine g_icmp_eq rfl (fun cq122 => ?_) (fun cq122 => ?_)
              · skip
                refine g_iconst rfl ?_
                refine g_goto rfl ?_
                refine g_istore (l1 := [(10, aI 1), (9, aI (((12 * p + (gAft S p k) : Nat) : Int))), (8, aI ((12 * p + k : Int))), (7, aI ((k : Int))), (6, aI ((12 * p + j : Int))), (5, aI ((12 * p + i : Int))), (4, aI (((sGn S p : Nat) : Int))), (0, aO (some o)), (1, aI ((p : Int))), (2, aI ((i : Int))), (3, aI ((j : Int)))]) rfl rfl ?_
                refine g_iload rfl rfl ?_
                refine g_if_ne_t rfl (by (try clear cq160); (try clear cq97); omega) ?_
                refine g_iinc (l1 := [(7, aI ((k : Int) + 1)), (10, aI 1), (9, aI (((12 * p + (gAft S p k) : Nat) : Int))), (8, aI ((12 * p + k : Int))), (6, aI ((12 * p + j : Int))), (5, aI ((12 * p + i : Int))), (4, aI (((sGn S p : Nat) : Int))), (0, aO (some o)), (1, aI ((p : Int))), (2, aI ((i : Int))), (3, aI ((j : Int)))]) rfl rfl (by (try clear cq160); (try clear cq97); omega) (by (try clear cq160); (try clear cq97); omega) rfl ?_
                refine g_goto rfl ?_
                refine g_ls [0, 4, 5, 6, 7, 8, 9, 10] rfl rfl ?_
                exact ih48 (k + 1) (by (try clear cq160); (try clear cq97); omega) (by exact hnw) (by 
                                                                                                                                                                                                                                                                                                                                                                                                                exact fun u h1 => if e : u = k then by
                                                                                                                                                                                                                                                                                                                                                                                                                    subst e
                                                                                                                                                                                                                                                                                                                                                                                                                    refine ⟨fun z => ?_, fun z => ?_⟩
                                                                                                                                                                                                                                                                                                                                                                                                                    · first
                                                                                                                                                                                                                                                                                                                                                                                                                        | (exact cq97 z.2)
                                                                                                                                                                                                                                                                                                                                                                                                                        | (have z1 := z.1; clear z; (try clear cq160); (try clear cq97); omega)
                                                                                                                                                                                                                                                                                                                                                                                                                    · first
                                                                                                                                                                                                                                                                                                                                                                                                                        | (exact cq160 z.2)
                                                                                                                                                                                                                                                                                                                                                                                                                        | (have z1 := z.1; clear z; (try clear cq160); (try clear cq97); omega)
                                                                                                                                                                                                                                                                                                                                                                                                                  else hg u (by (try clear cq160); (try clear cq97); omega)) (by (try clear cq160); (try clear cq97); omega)
              · skip
                refine g_iload rfl rfl ?_
                refine g_iconst rfl ?_
                refine g_iadd rfl (by (try clear cq160); (try clear cq97); omega) (by (try clear cq160); (try clear cq97); omega) ?_
                refine g_iload rfl rfl ?_
                refine g_iremN (m := (sGn S p)) (n := (k + 1)) rfl (by (try clear cq160); (try clear cq97); omega) ?_
                refine g_top (v2 := aI (((gAft S p k : Nat) : Int))) (congrArg aI (by rw [mod1 (by omega)])) ?_
                refine g_iload_n rfl rfl ?_
                refine g_icmp_ne rfl (fun cq133 => ?_) (fun cq133 => ?_)
                · skip
                  refine g_iconst rfl ?_
                  refine g_istore (l1 := [(10, aI 0), (9, aI (((12 * p + (gAft S p k) : Nat) : Int))), (8, aI ((12 * p + k : Int))), (7, aI ((k : Int))), (6, aI ((12 * p + j : Int))), (5, aI ((12 * p + i : Int))), (4, aI (((sGn S p : Nat) : Int))), (0, aO (some o)), (1, aI ((p : Int))), (2, aI ((i : Int))), (3, aI ((j : Int)))]) rfl rfl ?_
                  refine g_iload rfl rfl ?_
                  refine g_if_ne_f rfl (by (try clear cq160); (try clear cq97); omega) ?_
                  refine g_aload_n rfl rfl ?_
                  refine g_iload rfl rfl ?_
                  refine g_iload rfl rfl ?_
                  refine g_iload rfl rfl ?_
                  refine g_iload rfl rfl ?_
                  refine g_callVI [aI ((12 * p + i : Int)), aI ((12 * p + j : Int)), aI ((12 * p + k : Int)), aI (((12 * p + (gAft S p k) : Nat) : Int))] [] rfl rfl rfl rfl (Nat.le_of_ble_eq_true rfl) ms.1 (m_pgMeets (by omega) ms V mg ok p hp i (by omega) j (by omega) k (by omega) (gAft S p k) (by omega)) ?_
                  rintro r4 hx4 ⟨ehx4, rfl⟩
                  rw [ehx4]
                  clear ehx4 hx4
                  refine g_b_eq rfl (fun cq160 => ?_) (fun cq160 => ?_)
                  · skip
                    refine g_iinc (l1 := [(7, aI ((k : Int) + 1)), (10, aI 0), (9, aI (((12 * p + (gAft S p k) : Nat) : Int))), (8, aI ((12 * p + k : Int))), (6, aI ((12 * p + j : Int))), (5, aI ((12 * p + i : Int))), (4, aI (((sGn S p : Nat) : Int))), (0, aO (some o)), (1, aI ((p : Int))), (2, aI ((i : Int))), (3, aI ((j : Int)))]) rfl rfl (by (try clear cq160); (try clear cq97); omega) (by (try clear cq160); (try clear cq97); omega) rfl ?_
                    refine g_goto rfl ?_
                    refine g_ls [0, 4, 5, 6, 7, 8, 9, 10] rfl rfl ?_
                    exact ih48 (k + 1) (by (try clear cq160); (try clear cq97); omega) (by exact hnw) (by 
                                                                                                                                                                                                                                                                                                                                                                                                                exact fun u h1 => if e : u = k then by
                                                                                                                                                                                                                                                                                                                                                                                                                    subst e
                                                                                                                                                                                                                                                                                                                                                                                                                    refine ⟨fun z => ?_, fun z => ?_⟩
                                                                                                                                                                                                                                                                                                                                                                                                                    · first
                                                                                                                                                                                                                                                                                                                                                                                                                        | (exact cq97 z.2)
                                                                                                                                                                                                                                                                                                                                                                                                                        | (have z1 := z.1; clear z; (try clear cq160); (try clear cq97); omega)
                                                                                                                                                                                                                                                                                                                                                                                                                    · first
                                                                                                                                                                                                                                                                                                                                                                                                                        | (exact cq160 z.2)
                                                                                                                                                                                                                                                                                                                                                                                                                        | (have z1 := z.1; clear z; (try clear cq160); (try clear cq97); omega)
                                                                                                                                                                                                                                                                                                                                                                                                                  else hg u (by (try clear cq160); (try clear cq97); omega)) (by (try clear cq160); (try clear cq97); omega)
                  · skip
                    refine g_iconst rfl ?_
                    refine g_zret rfl (by (try clear cq160); (try clear cq97); omega) ?_
                    refine ⟨rfl, (if_neg (fun z => ?_)).symm⟩
                    rcases z with z | z
                    · (try clear cq160); (try clear cq97); omega
                    · exact ((bt_iff.mp z).1 k (by (try clear cq160); (try clear cq97); omega)).2 ⟨⟨by (try clear cq160); (try clear cq97); omega, by (try clear cq160); (try clear cq97); omega, by (try clear cq160); (try clear cq97); omega, by (try clear cq160); (try clear cq97); omega⟩, cq160⟩
                · skip
                  refine g_iconst rfl ?_
                  refine g_goto rfl ?_
                  refine g_istore (l1 := [(10, aI 1), (9, aI (((12 * p + (gAft S p k) : Nat) : Int))), (8, aI ((12 * p + k : Int))), (7, aI ((k : Int))), (6, aI ((12 * p + j : Int))), (5, aI ((12 * p + i : Int))), (4, aI (((sGn S p : Nat) : Int))), (0, aO (some o)), (1, aI ((p : Int))), (2, aI ((i : Int))), (3, aI ((j : Int)))]) rfl rfl ?_
                  refine g_iload rfl rfl ?_
                  refine g_if_ne_t rfl (by (try clear cq160); (try clear cq97); omega) ?_
                  refine g_iinc (l1 := [(7, aI ((k : Int) + 1)), (10, aI 1), (9, aI (((12 * p + (gAft S p k) : Nat) : Int))), (8, aI ((12 * p + k : Int))), (6, aI ((12 * p + j : Int))), (5, aI ((12 * p + i : Int))), (4, aI (((sGn S p : Nat) : Int))), (0, aO (some o)), (1, aI ((p : Int))), (2, aI ((i : Int))), (3, aI ((j : Int)))]) rfl rfl (by (try clear cq160); (try clear cq97); omega) (by (try clear cq160); (try clear cq97); omega) rfl ?_
                  refine g_goto rfl ?_
                  refine g_ls [0, 4, 5, 6, 7, 8, 9, 10] rfl rfl ?_
                  exact ih48 (k + 1) (by (try clear cq160); (try clear cq97); omega) (by exact hnw) (by 
                                                                                                                                                                                                                                                                                                                                                                                                                exact fun u h1 => if e : u = k then by
                                                                                                                                                                                                                                                                                                                                                                                                                    subst e
                                                                                                                                                                                                                                                                                                                                                                                                                    refine ⟨fun z => ?_, fun z => ?_⟩
                                                                                                                                                                                                                                                                                                                                                                                                                    · first
                                                                                                                                                                                                                                                                                                                                                                                                                        | (exact cq97 z.2)
                                                                                                                                                                                                                                                                                                                                                                                                                        | (have z1 := z.1; clear z; (try clear cq160); (try clear cq97); omega)
                                                                                                                                                                                                                                                                                                                                                                                                                    · first
                                                                                                                                                                                                                                                                                                                                                                                                                        | (exact cq160 z.2)
                                                                                                                                                                                                                                                                                                                                                                                                                        | (have z1 := z.1; clear z; (try clear cq160); (try clear cq97); omega)
                                                                                                                                                                                                                                                                                                                                                                                                                  else hg u (by (try clear cq160); (try clear cq97); omega)) (by (try clear cq160); (try clear cq97); omega)
        · skip
          refine g_iload rfl rfl ?_
          refine g_iload_n rfl rfl ?_
          refine g_icmp_eq rfl (fun cq84 => ?_) (fun cq84 => ?_)
          · skip
            refine g_iload rfl rfl ?_
            refine g_iload_n rfl rfl ?_
            refine g_icmp_eq rfl (fun cq105 => ?_) (fun cq105 => ?_)
            · skip
              refine g_iconst rfl ?_
              refine g_goto rfl ?_
              refine g_istore (l1 := [(10, aI 1), (9, aI (((12 * p + (gAft S p k) : Nat) : Int))), (8, aI ((12 * p + k : Int))), (7, aI ((k : Int))), (6, aI ((12 * p + j : Int))), (5, aI ((12 * p + i : Int))), (4, aI (((sGn S p : Nat) : Int))), (0, aO (some o)), (1, aI ((p : Int))), (2, aI ((i : Int))), (3, aI ((j : Int)))]) rfl rfl ?_
              refine g_iload rfl rfl ?_
              refine g_if_ne_t rfl (by (try clear cq160); (try clear cq97); omega) ?_
              refine g_iinc (l1 := [(7, aI ((k : Int) + 1)), (10, aI 1), (9, aI (((12 * p + (gAft S p k) : Nat) : Int))), (8, aI ((12 * p + k : Int))), (6, aI ((12 * p + j : Int))), (5, aI ((12 * p + i : Int))), (4, aI (((sGn S p : Nat) : Int))), (0, aO (some o)), (1, aI ((p : Int))), (2, aI ((i : Int))), (3, aI ((j : Int)))]) rfl rfl (by (try clear cq160); (try clear cq97); omega) (by (try clear cq160); (try clear cq97); omega) rfl ?_
              refine g_goto rfl ?_
              refine g_ls [0, 4, 5, 6, 7, 8, 9, 10] rfl rfl ?_
              exact ih48 (k + 1) (by (try clear cq160); (try clear cq97); omega) (by exact hnw) (by 
                                                                                                                                                                                                                                                                                                                                                                                                                exact fun u h1 => if e : u = k then by
                                                                                                                                                                                                                                                                                                                                                                                                                    subst e
                                                                                                                                                                                                                                                                                                                                                                                                                    refine ⟨fun z => ?_, fun z => ?_⟩
                                                                                                                                                                                                                                                                                                                                                                                                                    · first
                                                                                                                                                                                                                                                                                                                                                                                                                        | (exact cq97 z.2)
                                                                                                                                                                                                                                                                                                                                                                                                                        | (have z1 := z.1; clear z; (try clear cq160); (try clear cq97); omega)
                                                                                                                                                                                                                                                                                                                                                                                                                    · first
                                                                                                                                                                                                                                                                                                                                                                                                                        | (exact cq160 z.2)
                                                                                                                                                                                                                                                                                                                                                                                                                        | (have z1 := z.1; clear z; (try clear cq160); (try clear cq97); omega)
                                                                                                                                                                                                                                                                                                                                                                                                                  else hg u (by (try clear cq160); (try clear cq97); omega)) (by (try clear cq160); (try clear cq97); omega)
            · skip
              refine g_iload rfl rfl ?_
              refine g_iload_n rfl rfl ?_
              refine g_icmp_eq rfl (fun cq111 => ?_) (fun cq111 => ?_)
              · skip
                refine g_iconst rfl ?_
                refine g_goto rfl ?_
                refine g_istore (l1 := [(10, aI 1), (9, aI (((12 * p + (gAft S p k) : Nat) : Int))), (8, aI ((12 * p + k : Int))), (7, aI ((k : Int))), (6, aI ((12 * p + j : Int))), (5, aI ((12 * p + i : Int))), (4, aI (((sGn S p : Nat) : Int))), (0, aO (some o)), (1, aI ((p : Int))), (2, aI ((i : Int))), (3, aI ((j : Int)))]) rfl rfl ?_
                refine g_iload rfl rfl ?_
                refine g_if_ne_t rfl (by (try clear cq160); (try clear cq97); omega) ?_
                refine g_iinc (l1 := [(7, aI ((k : Int) + 1)), (10, aI 1), (9, aI (((12 * p + (gAft S p k) : Nat) : Int))), (8, aI ((12 * p + k : Int))), (6, aI ((12 * p + j : Int))), (5, aI ((12 * p + i : Int))), (4, aI (((sGn S p : Nat) : Int))), (0, aO (some o)), (1, aI ((p : Int))), (2, aI ((i : Int))), (3, aI ((j : Int)))]) rfl rfl (by (try clear cq160); (try clear cq97); omega) (by (try clear cq160); (try clear cq97); omega) rfl ?_
                refine g_goto rfl ?_
                refine g_ls [0, 4, 5, 6, 7, 8, 9, 10] rfl rfl ?_
                exact ih48 (k + 1) (by (try clear cq160); (try clear cq97); omega) (by exact hnw) (by 
                                                                                                                                                                                                                                                                                                                                                                                                                exact fun u h1 => if e : u = k then by
                                                                                                                                                                                                                                                                                                                                                                                                                    subst e
                                                                                                                                                                                                                                                                                                                                                                                                                    refine ⟨fun z => ?_, fun z => ?_⟩
                                                                                                                                                                                                                                                                                                                                                                                                                    · first
                                                                                                                                                                                                                                                                                                                                                                                                                        | (exact cq97 z.2)
                                                                                                                                                                                                                                                                                                                                                                                                                        | (have z1 := z.1; clear z; (try clear cq160); (try clear cq97); omega)
                                                                                                                                                                                                                                                                                                                                                                                                                    · first
                                                                                                                                                                                                                                                                                                                                                                                                                        | (exact cq160 z.2)
                                                                                                                                                                                                                                                                                                                                                                                                                        | (have z1 := z.1; clear z; (try clear cq160); (try clear cq97); omega)
                                                                                                                                                                                                                                                                                                                                                                                                                  else hg u (by (try clear cq160); (try clear cq97); omega)) (by (try clear cq160); (try clear cq97); omega)
              · skip
                refine g_iload rfl rfl ?_
                refine g_iconst rfl ?_
                refine g_iadd rfl (by (try clear cq160); (try clear cq97); omega) (by (try clear cq160); (try clear cq97); omega) ?_
                refine g_iload rfl rfl ?_
                refine g_iremN (m := (sGn S p)) (n := (k + 1)) rfl (by (try clear cq160); (try clear cq97); omega) ?_
                refine g_top (v2 := aI (((gAft S p k : Nat) : Int))) (congrArg aI (by rw [mod1 (by omega)])) ?_
                refine g_iload_n rfl rfl ?_
                refine g_icmp_eq rfl (fun cq122 => ?_) (fun cq122 => ?_)
                · skip
                  refine g_iconst rfl ?_
                  refine g_goto rfl ?_
                  refine g_istore (l1 := [(10, aI 1), (9, aI (((12 * p + (gAft S p k) : Nat) : Int))), (8, aI ((12 * p + k : Int))), (7, aI ((k : Int))), (6, aI ((12 * p + j : Int))), (5, aI ((12 * p + i : Int))), (4, aI (((sGn S p : Nat) : Int))), (0, aO (some o)), (1, aI ((p : Int))), (2, aI ((i : Int))), (3, aI ((j : Int)))]) rfl rfl ?_
                  refine g_iload rfl rfl ?_
                  refine g_if_ne_t rfl (by (try clear cq160); (try clear cq97); omega) ?_
                  refine g_iinc (l1 := [(7, aI ((k : Int) + 1)), (10, aI 1), (9, aI (((12 * p + (gAft S p k) : Nat) : Int))), (8, aI ((12 * p + k : Int))), (6, aI ((12 * p + j : Int))), (5, aI ((12 * p + i : Int))), (4, aI (((sGn S p : Nat) : Int))), (0, aO (some o)), (1, aI ((p : Int))), (2, aI ((i : Int))), (3, aI ((j : Int)))]) rfl rfl (by (try clear cq160); (try clear cq97); omega) (by (try clear cq160); (try clear cq97); omega) rfl ?_
                  refine g_goto rfl ?_
                  refine g_ls [0, 4, 5, 6, 7, 8, 9, 10] rfl rfl ?_
                  exact ih48 (k + 1) (by (try clear cq160); (try clear cq97); omega) (by exact hnw) (by 
                                                                                                                                                                                                                                                                                                                                                                                                                exact fun u h1 => if e : u = k then by
                                                                                                                                                                                                                                                                                                                                                                                                                    subst e
                                                                                                                                                                                                                                                                                                                                                                                                                    refine ⟨fun z => ?_, fun z => ?_⟩
                                                                                                                                                                                                                                                                                                                                                                                                                    · first
                                                                                                                                                                                                                                                                                                                                                                                                                        | (exact cq97 z.2)
                                                                                                                                                                                                                                                                                                                                                                                                                        | (have z1 := z.1; clear z; (try clear cq160); (try clear cq97); omega)
                                                                                                                                                                                                                                                                                                                                                                                                                    · first
                                                                                                                                                                                                                                                                                                                                                                                                                        | (exact cq160 z.2)
                                                                                                                                                                                                                                                                                                                                                                                                                        | (have z1 := z.1; clear z; (try clear cq160); (try clear cq97); omega)
                                                                                                                                                                                                                                                                                                                                                                                                                  else hg u (by (try clear cq160); (try clear cq97); omega)) (by (try clear cq160); (try clear cq97); omega)
                · skip
                  refine g_iload rfl rfl ?_
                  refine g_iconst rfl ?_
                  refine g_iadd rfl (by (try clear cq160); (try clear cq97); omega) (by (try clear cq160); (try clear cq97); omega) ?_
                  refine g_iload rfl rfl ?_
                  refine g_iremN (m := (sGn S p)) (n := (k + 1)) rfl (by (try clear cq160); (try clear cq97); omega) ?_
                  refine g_top (v2 := aI (((gAft S p k : Nat) : Int))) (congrArg aI (by rw [mod1 (by omega)])) ?_
                  refine g_iload_n rfl rfl ?_
                  refine g_icmp_ne rfl (fun cq133 => ?_) (fun cq133 => ?_)
                  · skip
                    refine g_iconst rfl ?_
                    refine g_istore (l1 := [(10, aI 0), (9, aI (((12 * p + (gAft S p k) : Nat) : Int))), (8, aI ((12 * p + k : Int))), (7, aI ((k : Int))), (6, aI ((12 * p + j : Int))), (5, aI ((12 * p + i : Int))), (4, aI (((sGn S p : Nat) : Int))), (0, aO (some o)), (1, aI ((p : Int))), (2, aI ((i : Int))), (3, aI ((j : Int)))]) rfl rfl ?_
                    refine g_iload rfl rfl ?_
                    refine g_if_ne_f rfl (by (try clear cq160); (try clear cq97); omega) ?_
                    refine g_aload_n rfl rfl ?_
                    refine g_iload rfl rfl ?_
                    refine g_iload rfl rfl ?_
                    refine g_iload rfl rfl ?_
                    refine g_iload rfl rfl ?_
                    refine g_callVI [aI ((12 * p + i : Int)), aI ((12 * p + j : Int)), aI ((12 * p + k : Int)), aI (((12 * p + (gAft S p k) : Nat) : Int))] [] rfl rfl rfl rfl (Nat.le_of_ble_eq_true rfl) ms.1 (m_pgMeets (by omega) ms V mg ok p hp i (by omega) j (by omega) k (by omega) (gAft S p k) (by omega)) ?_
                    rintro r5 hx5 ⟨ehx5, rfl⟩
                    rw [ehx5]
                    clear ehx5 hx5
                    refine g_b_eq rfl (fun cq160 => ?_) (fun cq160 => ?_)
                    · skip
                      refine g_iinc (l1 := [(7, aI ((k : Int) + 1)), (10, aI 0), (9, aI (((12 * p + (gAft S p k) : Nat) : Int))), (8, aI ((12 * p + k : Int))), (6, aI ((12 * p + j : Int))), (5, aI ((12 * p + i : Int))), (4, aI (((sGn S p : Nat) : Int))), (0, aO (some o)), (1, aI ((p : Int))), (2, aI ((i : Int))), (3, aI ((j : Int)))]) rfl rfl (by (try clear cq160); (try clear cq97); omega) (by (try clear cq160); (try clear cq97); omega) rfl ?_
                      refine g_goto rfl ?_
                      refine g_ls [0, 4, 5, 6, 7, 8, 9, 10] rfl rfl ?_
                      exact ih48 (k + 1) (by (try clear cq160); (try clear cq97); omega) (by exact hnw) (by 
                                                                                                                                                                                                                                                                                                                                                                                                                exact fun u h1 => if e : u = k then by
                                                                                                                                                                                                                                                                                                                                                                                                                    subst e
                                                                                                                                                                                                                                                                                                                                                                                                                    refine ⟨fun z => ?_, fun z => ?_⟩
                                                                                                                                                                                                                                                                                                                                                                                                                    · first
                                                                                                                                                                                                                                                                                                                                                                                                                        | (exact cq97 z.2)
                                                                                                                                                                                                                                                                                                                                                                                                                        | (have z1 := z.1; clear z; (try clear cq160); (try clear cq97); omega)
                                                                                                                                                                                                                                                                                                                                                                                                                    · first
                                                                                                                                                                                                                                                                                                                                                                                                                        | (exact cq160 z.2)
                                                                                                                                                                                                                                                                                                                                                                                                                        | (have z1 := z.1; clear z; (try clear cq160); (try clear cq97); omega)
                                                                                                                                                                                                                                                                                                                                                                                                                  else hg u (by (try clear cq160); (try clear cq97); omega)) (by (try clear cq160); (try clear cq97); omega)
                    · skip
                      refine g_iconst rfl ?_
                      refine g_zret rfl (by (try clear cq160); (try clear cq97); omega) ?_
                      refine ⟨rfl, (if_neg (fun z => ?_)).symm⟩
                      rcases z with z | z
                      · (try clear cq160); (try clear cq97); omega
                      · exact ((bt_iff.mp z).1 k (by (try clear cq160); (try clear cq97); omega)).2 ⟨⟨by (try clear cq160); (try clear cq97); omega, by (try clear cq160); (try clear cq97); omega, by (try clear cq160); (try clear cq97); omega, by (try clear cq160); (try clear cq97); omega⟩, cq160⟩
                  · skip
                    refine g_iconst rfl ?_
                    refine g_goto rfl ?_
                    refine g_istore (l1 := [(10, aI 1), (9, aI (((12 * p + (gAft S p k) : Nat) : Int))), (8, aI ((12 * p + k : Int))), (7, aI ((k : Int))), (6, aI ((12 * p + j : Int))), (5, aI ((12 * p + i : Int))), (4, aI (((sGn S p : Nat) : Int))), (0, aO (some o)), (1, aI ((p : Int))), (2, aI ((i : Int))), (3, aI ((j : Int)))]) rfl rfl ?_
                    refine g_iload rfl rfl ?_
                    refine g_if_ne_t rfl (by (try clear cq160); (try clear cq97); omega) ?_
                    refine g_iinc (l1 := [(7, aI ((k : Int) + 1)), (10, aI 1), (9, aI (((12 * p + (gAft S p k) : Nat) : Int))), (8, aI ((12 * p + k : Int))), (6, aI ((12 * p + j : Int))), (5, aI ((12 * p + i : Int))), (4, aI (((sGn S p : Nat) : Int))), (0, aO (some o)), (1, aI ((p : Int))), (2, aI ((i : Int))), (3, aI ((j : Int)))]) rfl rfl (by (try clear cq160); (try clear cq97); omega) (by (try clear cq160); (try clear cq97); omega) rfl ?_
                    refine g_goto rfl ?_
                    refine g_ls [0, 4, 5, 6, 7, 8, 9, 10] rfl rfl ?_
                    exact ih48 (k + 1) (by (try clear cq160); (try clear cq97); omega) (by exact hnw) (by 
                                                                                                                                                                                                                                                                                                                                                                                                                exact fun u h1 => if e : u = k then by
                                                                                                                                                                                                                                                                                                                                                                                                                    subst e
                                                                                                                                                                                                                                                                                                                                                                                                                    refine ⟨fun z => ?_, fun z => ?_⟩
                                                                                                                                                                                                                                                                                                                                                                                                                    · first
                                                                                                                                                                                                                                                                                                                                                                                                                        | (exact cq97 z.2)
                                                                                                                                                                                                                                                                                                                                                                                                                        | (have z1 := z.1; clear z; (try clear cq160); (try clear cq97); omega)
                                                                                                                                                                                                                                                                                                                                                                                                                    · first
                                                                                                                                                                                                                                                                                                                                                                                                                        | (exact cq160 z.2)
                                                                                                                                                                                                                                                                                                                                                                                                                        | (have z1 := z.1; clear z; (try clear cq160); (try clear cq97); omega)
                                                                                                                                                                                                                                                                                                                                                                                                                  else hg u (by (try clear cq160); (try clear cq97); omega)) (by (try clear cq160); (try clear cq97); omega)
          · skip
            refine g_aload_n rfl rfl ?_
            refine g_iload rfl rfl ?_
            refine g_iload rfl rfl ?_
            refine g_iload rfl rfl ?_
            refine g_callVI [aI ((12 * p + i : Int)), aI ((12 * p + j : Int)), aI ((12 * p + k : Int))] [] rfl rfl rfl rfl (Nat.le_of_ble_eq_true rfl) ms.1 (m_pgOn (by omega) ms V mg ok p hp i (by omega) j (by omega) k (by omega)) ?_
            rintro r6 hx6 ⟨ehx6, rfl⟩
            rw [ehx6]
            clear ehx6 hx6
            refine g_b_eq rfl (fun cq97 => ?_) (fun cq97 => ?_)
            · skip
              refine g_iload rfl rfl ?_
              refine g_iload_n rfl rfl ?_
              refine g_icmp_eq rfl (fun cq105 => ?_) (fun cq105 => ?_)
              · skip
                refine g_iconst rfl ?_
                refine g_goto rfl ?_
                refine g_istore (l1 := [(10, aI 1), (9, aI (((12 * p + (gAft S p k) : Nat) : Int))), (8, aI ((12 * p + k : Int))), (7, aI ((k : Int))), (6, aI ((12 * p + j : Int))), (5, aI ((12 * p + i : Int))), (4, aI (((sGn S p : Nat) : Int))), (0, aO (some o)), (1, aI ((p : Int))), (2, aI ((i : Int))), (3, aI ((j : Int)))]) rfl rfl ?_
                refine g_iload rfl rfl ?_
                refine g_if_ne_t rfl (by (try clear cq160); (try clear cq97); omega) ?_
                refine g_iinc (l1 := [(7, aI ((k : Int) + 1)), (10, aI 1), (9, aI (((12 * p + (gAft S p k) : Nat) : Int))), (8, aI ((12 * p + k : Int))), (6, aI ((12 * p + j : Int))), (5, aI ((12 * p + i : Int))), (4, aI (((sGn S p : Nat) : Int))), (0, aO (some o)), (1, aI ((p : Int))), (2, aI ((i : Int))), (3, aI ((j : Int)))]) rfl rfl (by (try clear cq160); (try clear cq97); omega) (by (try clear cq160); (try clear cq97); omega) rfl ?_
                refine g_goto rfl ?_
                refine g_ls [0, 4, 5, 6, 7, 8, 9, 10] rfl rfl ?_
                exact ih48 (k + 1) (by (try clear cq160); (try clear cq97); omega) (by exact hnw) (by 
                                                                                                                                                                                                                                                                                                                                                                                                                exact fun u h1 => if e : u = k then by
                                                                                                                                                                                                                                                                                                                                                                                                                    subst e
                                                                                                                                                                                                                                                                                                                                                                                                                    refine ⟨fun z => ?_, fun z => ?_⟩
                                                                                                                                                                                                                                                                                                                                                                                                                    · first
                                                                                                                                                                                                                                                                                                                                                                                                                        | (exact cq97 z.2)
                                                                                                                                                                                                                                                                                                                                                                                                                        | (have z1 := z.1; clear z; (try clear cq160); (try clear cq97); omega)
                                                                                                                                                                                                                                                                                                                                                                                                                    · first
                                                                                                                                                                                                                                                                                                                                                                                                                        | (exact cq160 z.2)
                                                                                                                                                                                                                                                                                                                                                                                                                        | (have z1 := z.1; clear z; (try clear cq160); (try clear cq97); omega)
                                                                                                                                                                                                                                                                                                                                                                                                                  else hg u (by (try clear cq160); (try clear cq97); omega)) (by (try clear cq160); (try clear cq97); omega)
              · skip
                refine g_iload rfl rfl ?_
                refine g_iload_n rfl rfl ?_
                refine g_icmp_eq rfl (fun cq111 => ?_) (fun cq111 => ?_)
                · skip
                  refine g_iconst rfl ?_
                  refine g_goto rfl ?_
                  refine g_istore (l1 := [(10, aI 1), (9, aI (((12 * p + (gAft S p k) : Nat) : Int))), (8, aI ((12 * p + k : Int))), (7, aI ((k : Int))), (6, aI ((12 * p + j : Int))), (5, aI ((12 * p + i : Int))), (4, aI (((sGn S p : Nat) : Int))), (0, aO (some o)), (1, aI ((p : Int))), (2, aI ((i : Int))), (3, aI ((j : Int)))]) rfl rfl ?_
                  refine g_iload rfl rfl ?_
                  refine g_if_ne_t rfl (by (try clear cq160); (try clear cq97); omega) ?_
                  refine g_iinc (l1 := [(7, aI ((k : Int) + 1)), (10, aI 1), (9, aI (((12 * p + (gAft S p k) : Nat) : Int))), (8, aI ((12 * p + k : Int))), (6, aI ((12 * p + j : Int))), (5, aI ((12 * p + i : Int))), (4, aI (((sGn S p : Nat) : Int))), (0, aO (some o)), (1, aI ((p : Int))), (2, aI ((i : Int))), (3, aI ((j : Int)))]) rfl rfl (by (try clear cq160); (try clear cq97); omega) (by (try clear cq160); (try clear cq97); omega) rfl ?_
                  refine g_goto rfl ?_
                  refine g_ls [0, 4, 5, 6, 7, 8, 9, 10] rfl rfl ?_
                  exact ih48 (k + 1) (by (try clear cq160); (try clear cq97); omega) (by exact hnw) (by 
                                                                                                                                                                                                                                                                                                                                                                                                                exact fun u h1 => if e : u = k then by
                                                                                                                                                                                                                                                                                                                                                                                                                    subst e
                                                                                                                                                                                                                                                                                                                                                                                                                    refine ⟨fun z => ?_, fun z => ?_⟩
                                                                                                                                                                                                                                                                                                                                                                                                                    · first
                                                                                                                                                                                                                                                                                                                                                                                                                        | (exact cq97 z.2)
                                                                                                                                                                                                                                                                                                                                                                                                                        | (have z1 := z.1; clear z; (try clear cq160); (try clear cq97); omega)
                                                                                                                                                                                                                                                                                                                                                                                                                    · first
                                                                                                                                                                                                                                                                                                                                                                                                                        | (exact cq160 z.2)
                                                                                                                                                                                                                                                                                                                                                                                                                        | (have z1 := z.1; clear z; (try clear cq160); (try clear cq97); omega)
                                                                                                                                                                                                                                                                                                                                                                                                                  else hg u (by (try clear cq160); (try clear cq97); omega)) (by (try clear cq160); (try clear cq97); omega)
                · skip
                  refine g_iload rfl rfl ?_
                  refine g_iconst rfl ?_
                  refine g_iadd rfl (by (try clear cq160); (try clear cq97); omega) (by (try clear cq160); (try clear cq97); omega) ?_
                  refine g_iload rfl rfl ?_
                  refine g_iremN (m := (sGn S p)) (n := (k + 1)) rfl (by (try clear cq160); (try clear cq97); omega) ?_
                  refine g_top (v2 := aI (((gAft S p k : Nat) : Int))) (congrArg aI (by rw [mod1 (by omega)])) ?_
                  refine g_iload_n rfl rfl ?_
                  refine g_icmp_eq rfl (fun cq122 => ?_) (fun cq122 => ?_)
                  · skip
                    refine g_iconst rfl ?_
                    refine g_goto rfl ?_
                    refine g_istore (l1 := [(10, aI 1), (9, aI (((12 * p + (gAft S p k) : Nat) : Int))), (8, aI ((12 * p + k : Int))), (7, aI ((k : Int))), (6, aI ((12 * p + j : Int))), (5, aI ((12 * p + i : Int))), (4, aI (((sGn S p : Nat) : Int))), (0, aO (some o)), (1, aI ((p : Int))), (2, aI ((i : Int))), (3, aI ((j : Int)))]) rfl rfl ?_
                    refine g_iload rfl rfl ?_
                    refine g_if_ne_t rfl (by (try clear cq160); (try clear cq97); omega) ?_
                    refine g_iinc (l1 := [(7, aI ((k : Int) + 1)), (10, aI 1), (9, aI (((12 * p + (gAft S p k) : Nat) : Int))), (8, aI ((12 * p + k : Int))), (6, aI ((12 * p + j : Int))), (5, aI ((12 * p + i : Int))), (4, aI (((sGn S p : Nat) : Int))), (0, aO (some o)), (1, aI ((p : Int))), (2, aI ((i : Int))), (3, aI ((j : Int)))]) rfl rfl (by (try clear cq160); (try clear cq97); omega) (by (try clear cq160); (try clear cq97); omega) rfl ?_
                    refine g_goto rfl ?_
                    refine g_ls [0, 4, 5, 6, 7, 8, 9, 10] rfl rfl ?_
                    exact ih48 (k + 1) (by (try clear cq160); (try clear cq97); omega) (by exact hnw) (by 
                                                                                                                                                                                                                                                                                                                                                                                                                exact fun u h1 => if e : u = k then by
                                                                                                                                                                                                                                                                                                                                                                                                                    subst e
                                                                                                                                                                                                                                                                                                                                                                                                                    refine ⟨fun z => ?_, fun z => ?_⟩
                                                                                                                                                                                                                                                                                                                                                                                                                    · first
                                                                                                                                                                                                                                                                                                                                                                                                                        | (exact cq97 z.2)
                                                                                                                                                                                                                                                                                                                                                                                                                        | (have z1 := z.1; clear z; (try clear cq160); (try clear cq97); omega)
                                                                                                                                                                                                                                                                                                                                                                                                                    · first
                                                                                                                                                                                                                                                                                                                                                                                                                        | (exact cq160 z.2)
                                                                                                                                                                                                                                                                                                                                                                                                                        | (have z1 := z.1; clear z; (try clear cq160); (try clear cq97); omega)
                                                                                                                                                                                                                                                                                                                                                                                                                  else hg u (by (try clear cq160); (try clear cq97); omega)) (by (try clear cq160); (try clear cq97); omega)
                  · skip
                    refine g_iload rfl rfl ?_
                    refine g_iconst rfl ?_
                    refine g_iadd rfl (by (try clear cq160); (try clear cq97); omega) (by (try clear cq160); (try clear cq97); omega) ?_
                    refine g_iload rfl rfl ?_
                    refine g_iremN (m := (sGn S p)) (n := (k + 1)) rfl (by (try clear cq160); (try clear cq97); omega) ?_
                    refine g_top (v2 := aI (((gAft S p k : Nat) : Int))) (congrArg aI (by rw [mod1 (by omega)])) ?_
                    refine g_iload_n rfl rfl ?_
                    refine g_icmp_ne rfl (fun cq133 => ?_) (fun cq133 => ?_)
                    · skip
                      refine g_iconst rfl ?_
                      refine g_istore (l1 := [(10, aI 0), (9, aI (((12 * p + (gAft S p k) : Nat) : Int))), (8, aI ((12 * p + k : Int))), (7, aI ((k : Int))), (6, aI ((12 * p + j : Int))), (5, aI ((12 * p + i : Int))), (4, aI (((sGn S p : Nat) : Int))), (0, aO (some o)), (1, aI ((p : Int))), (2, aI ((i : Int))), (3, aI ((j : Int)))]) rfl rfl ?_
                      refine g_iload rfl rfl ?_
                      refine g_if_ne_f rfl (by (try clear cq160); (try clear cq97); omega) ?_
                      refine g_aload_n rfl rfl ?_
                      refine g_iload rfl rfl ?_
                      refine g_iload rfl rfl ?_
                      refine g_iload rfl rfl ?_
                      refine g_iload rfl rfl ?_
                      refine g_callVI [aI ((12 * p + i : Int)), aI ((12 * p + j : Int)), aI ((12 * p + k : Int)), aI (((12 * p + (gAft S p k) : Nat) : Int))] [] rfl rfl rfl rfl (Nat.le_of_ble_eq_true rfl) ms.1 (m_pgMeets (by omega) ms V mg ok p hp i (by omega) j (by omega) k (by omega) (gAft S p k) (by omega)) ?_
                      rintro r7 hx7 ⟨ehx7, rfl⟩
                      rw [ehx7]
                      clear ehx7 hx7
                      refine g_b_eq rfl (fun cq160 => ?_) (fun cq160 => ?_)
                      · skip
                        refine g_iinc (l1 := [(7, aI ((k : Int) + 1)), (10, aI 0), (9, aI (((12 * p + (gAft S p k) : Nat) : Int))), (8, aI ((12 * p + k : Int))), (6, aI ((12 * p + j : Int))), (5, aI ((12 * p + i : Int))), (4, aI (((sGn S p : Nat) : Int))), (0, aO (some o)), (1, aI ((p : Int))), (2, aI ((i : Int))), (3, aI ((j : Int)))]) rfl rfl (by (try clear cq160); (try clear cq97); omega) (by (try clear cq160); (try clear cq97); omega) rfl ?_
                        refine g_goto rfl ?_
                        refine g_ls [0, 4, 5, 6, 7, 8, 9, 10] rfl rfl ?_
                        exact ih48 (k + 1) (by (try clear cq160); (try clear cq97); omega) (by exact hnw) (by 
                                                                                                                                                                                                                                                                                                                                                                                                                exact fun u h1 => if e : u = k then by
                                                                                                                                                                                                                                                                                                                                                                                                                    subst e
                                                                                                                                                                                                                                                                                                                                                                                                                    refine ⟨fun z => ?_, fun z => ?_⟩
                                                                                                                                                                                                                                                                                                                                                                                                                    · first
                                                                                                                                                                                                                                                                                                                                                                                                                        | (exact cq97 z.2)
                                                                                                                                                                                                                                                                                                                                                                                                                        | (have z1 := z.1; clear z; (try clear cq160); (try clear cq97); omega)
                                                                                                                                                                                                                                                                                                                                                                                                                    · first
                                                                                                                                                                                                                                                                                                                                                                                                                        | (exact cq160 z.2)
                                                                                                                                                                                                                                                                                                                                                                                                                        | (have z1 := z.1; clear z; (try clear cq160); (try clear cq97); omega)
                                                                                                                                                                                                                                                                                                                                                                                                                  else hg u (by (try clear cq160); (try clear cq97); omega)) (by (try clear cq160); (try clear cq97); omega)
                      · skip
                        refine g_iconst rfl ?_
                        refine g_zret rfl (by (try clear cq160); (try clear cq97); omega) ?_
                        refine ⟨rfl, (if_neg (fun z => ?_)).symm⟩
                        rcases z with z | z
                        · (try clear cq160); (try clear cq97); omega
                        · exact ((bt_iff.mp z).1 k (by (try clear cq160); (try clear cq97); omega)).2 ⟨⟨by (try clear cq160); (try clear cq97); omega, by (try clear cq160); (try clear cq97); omega, by (try clear cq160); (try clear cq97); omega, by (try clear cq160); (try clear cq97); omega⟩, cq160⟩
                    · skip
                      refine g_iconst rfl ?_
                      refine g_goto rfl ?_
                      refine g_istore (l1 := [(10, aI 1), (9, aI (((12 * p + (gAft S p k) : Nat) : Int))), (8, aI ((12 * p + k : Int))), (7, aI ((k : Int))), (6, aI ((12 * p + j : Int))), (5, aI ((12 * p + i : Int))), (4, aI (((sGn S p : Nat) : Int))), (0, aO (some o)), (1, aI ((p : Int))), (2, aI ((i : Int))), (3, aI ((j : Int)))]) rfl rfl ?_
                      refine g_iload rfl rfl ?_
                      refine g_if_ne_t rfl (by (try clear cq160); (try clear cq97); omega) ?_
                      refine g_iinc (l1 := [(7, aI ((k : Int) + 1)), (10, aI 1), (9, aI (((12 * p + (gAft S p k) : Nat) : Int))), (8, aI ((12 * p + k : Int))), (6, aI ((12 * p + j : Int))), (5, aI ((12 * p + i : Int))), (4, aI (((sGn S p : Nat) : Int))), (0, aO (some o)), (1, aI ((p : Int))), (2, aI ((i : Int))), (3, aI ((j : Int)))]) rfl rfl (by (try clear cq160); (try clear cq97); omega) (by (try clear cq160); (try clear cq97); omega) rfl ?_
                      refine g_goto rfl ?_
                      refine g_ls [0, 4, 5, 6, 7, 8, 9, 10] rfl rfl ?_
                      exact ih48 (k + 1) (by (try clear cq160); (try clear cq97); omega) (by exact hnw) (by 
                                                                                                                                                                                                                                                                                                                                                                                                                exact fun u h1 => if e : u = k then by
                                                                                                                                                                                                                                                                                                                                                                                                                    subst e
                                                                                                                                                                                                                                                                                                                                                                                                                    refine ⟨fun z => ?_, fun z => ?_⟩
                                                                                                                                                                                                                                                                                                                                                                                                                    · first
                                                                                                                                                                                                                                                                                                                                                                                                                        | (exact cq97 z.2)
                                                                                                                                                                                                                                                                                                                                                                                                                        | (have z1 := z.1; clear z; (try clear cq160); (try clear cq97); omega)
                                                                                                                                                                                                                                                                                                                                                                                                                    · first
                                                                                                                                                                                                                                                                                                                                                                                                                        | (exact cq160 z.2)
                                                                                                                                                                                                                                                                                                                                                                                                                        | (have z1 := z.1; clear z; (try clear cq160); (try clear cq97); omega)
                                                                                                                                                                                                                                                                                                                                                                                                                  else hg u (by (try clear cq160); (try clear cq97); omega)) (by (try clear cq160); (try clear cq97); omega)
            · skip
              refine g_iconst rfl ?_
              refine g_zret rfl (by (try clear cq160); (try clear cq97); omega) ?_
              refine ⟨rfl, (if_neg (fun z => ?_)).symm⟩
              rcases z with z | z
              · (try clear cq160); (try clear cq97); omega
              · exact ((bt_iff.mp z).1 k (by (try clear cq160); (try clear cq97); omega)).1 ⟨⟨by (try clear cq160); (try clear cq97); omega, by (try clear cq160); (try clear cq97); omega⟩, cq97⟩
  refine g_aload_n rfl rfl ?_
  refine g_getR rfl ms.1 (mr_corners ms) ?_
  refine g_iload_n rfl rfl ?_
  refine g_iald (i := p) rfl (mt_corners ms) (by (try clear cq160); (try clear cq97); omega) (by (try clear cq160); (try clear cq97); omega) ?_
  refine g_top (v2 := aI ((sGn S p : Int))) (congrArg aI (by exact (mg.2 p hp).1)) ?_
  refine g_istore (l1 := [(4, aI ((sGn S p : Int))), (0, aO (some o)), (1, aI ((p : Int))), (2, aI ((i : Int))), (3, aI ((j : Int)))]) rfl rfl ?_
  refine g_iload_n rfl rfl ?_
  refine g_iload_n rfl rfl ?_
  refine g_iconst rfl ?_
  refine g_iadd rfl (by (try clear cq160); (try clear cq97); omega) (by (try clear cq160); (try clear cq97); omega) ?_
  refine g_icmp_eq rfl (fun cq12 => ?_) (fun cq12 => ?_)
  · skip
    refine g_iconst rfl ?_
    refine g_zret rfl (by (try clear cq160); (try clear cq97); omega) ?_
    exact ⟨rfl, (if_pos (Or.inl (by omega))).symm⟩
  · skip
    refine g_iload_n rfl rfl ?_
    refine g_if_ne rfl (fun cq16 => ?_) (fun cq16 => ?_)
    · skip
      refine g_aload_n rfl rfl ?_
      refine g_iload_n rfl rfl ?_
      refine g_iload_n rfl rfl ?_
      refine g_callVI [aI ((p : Int)), aI ((i : Int))] [] rfl rfl rfl rfl (Nat.le_of_ble_eq_true rfl) ms.1 (m_pgAt0 (by omega) ms V mg ok p hp i (by omega)) ?_
      rintro r8 hx8 ⟨ehx8, rfl⟩
      rw [ehx8]
      clear ehx8 hx8
      refine g_istore (l1 := [(5, aI ((12 * p + i : Int))), (4, aI ((sGn S p : Int))), (0, aO (some o)), (1, aI ((p : Int))), (2, aI ((i : Int))), (3, aI ((j : Int)))]) rfl rfl ?_
      refine g_aload_n rfl rfl ?_
      refine g_iload_n rfl rfl ?_
      refine g_iload_n rfl rfl ?_
      refine g_callVI [aI ((p : Int)), aI ((j : Int))] [] rfl rfl rfl rfl (Nat.le_of_ble_eq_true rfl) ms.1 (m_pgAt0 (by omega) ms V mg ok p hp j (by omega)) ?_
      rintro r9 hx9 ⟨ehx9, rfl⟩
      rw [ehx9]
      clear ehx9 hx9
      refine g_istore (l1 := [(6, aI ((12 * p + j : Int))), (5, aI ((12 * p + i : Int))), (4, aI ((sGn S p : Int))), (0, aO (some o)), (1, aI ((p : Int))), (2, aI ((i : Int))), (3, aI ((j : Int)))]) rfl rfl ?_
      refine g_iconst rfl ?_
      refine g_istore (l1 := [(7, aI 0), (6, aI ((12 * p + j : Int))), (5, aI ((12 * p + i : Int))), (4, aI ((sGn S p : Int))), (0, aO (some o)), (1, aI ((p : Int))), (2, aI ((i : Int))), (3, aI ((j : Int)))]) rfl rfl ?_
      exact l48 _ 0 (by (try clear cq160); (try clear cq97); omega) (by (try clear cq160); (try clear cq97); omega) (by exact fun u h1 => by omega) (Nat.lt_succ_self _)
    · skip
      refine g_iload_n rfl rfl ?_
      refine g_iload rfl rfl ?_
      refine g_iconst rfl ?_
      refine g_isub rfl (by (try clear cq160); (try clear cq97); omega) (by (try clear cq160); (try clear cq97); omega) ?_
      refine g_icmp_ne rfl (fun cq24 => ?_) (fun cq24 => ?_)
      · skip
        refine g_aload_n rfl rfl ?_
        refine g_iload_n rfl rfl ?_
        refine g_iload_n rfl rfl ?_
        refine g_callVI [aI ((p : Int)), aI ((i : Int))] [] rfl rfl rfl rfl (Nat.le_of_ble_eq_true rfl) ms.1 (m_pgAt0 (by omega) ms V mg ok p hp i (by omega)) ?_
        rintro r10 hx10 ⟨ehx10, rfl⟩
        rw [ehx10]
        clear ehx10 hx10
        refine g_istore (l1 := [(5, aI ((12 * p + i : Int))), (4, aI ((sGn S p : Int))), (0, aO (some o)), (1, aI ((p : Int))), (2, aI ((i : Int))), (3, aI ((j : Int)))]) rfl rfl ?_
        refine g_aload_n rfl rfl ?_
        refine g_iload_n rfl rfl ?_
        refine g_iload_n rfl rfl ?_
        refine g_callVI [aI ((p : Int)), aI ((j : Int))] [] rfl rfl rfl rfl (Nat.le_of_ble_eq_true rfl) ms.1 (m_pgAt0 (by omega) ms V mg ok p hp j (by omega)) ?_
        rintro r11 hx11 ⟨ehx11, rfl⟩
        rw [ehx11]
        clear ehx11 hx11
        refine g_istore (l1 := [(6, aI ((12 * p + j : Int))), (5, aI ((12 * p + i : Int))), (4, aI ((sGn S p : Int))), (0, aO (some o)), (1, aI ((p : Int))), (2, aI ((i : Int))), (3, aI ((j : Int)))]) rfl rfl ?_
        refine g_iconst rfl ?_
        refine g_istore (l1 := [(7, aI 0), (6, aI ((12 * p + j : Int))), (5, aI ((12 * p + i : Int))), (4, aI ((sGn S p : Int))), (0, aO (some o)), (1, aI ((p : Int))), (2, aI ((i : Int))), (3, aI ((j : Int)))]) rfl rfl ?_
        exact l48 _ 0 (by (try clear cq160); (try clear cq97); omega) (by (try clear cq160); (try clear cq97); omega) (by exact fun u h1 => by omega) (Nat.lt_succ_self _)
      · skip
        refine g_iconst rfl ?_
        refine g_zret rfl (by (try clear cq160); (try clear cq97); omega) ?_
        exact ⟨rfl, (if_pos (Or.inl (by omega))).symm⟩
set_option maxRecDepth 100000 in
theorem m_pgTri {w : aW} {d : Nat} (hd : 6 ≤ d) {h : aH} {o : Nat} (ms : MS h o) (V : Nat → Nat → Int) {S : aS} (mg : MG V o S) (ok : OkG S) (p : Nat) (hp : p < sG S) (hn : 3 ≤ sGn S p) : WP w d 346 [aO (some o), aI ((p : Int))] (hw h V) (RJ (fun r h1 => ∃ V1, h1 = hw h V1 ∧ (∀ q, q ≠ o + 11 → V1 q = V q) ∧ r = gTr S p 0 (sGn S p - 1))) := by
  obtain ⟨d, rfl⟩ : ∃ d1, d = d1 + 1 := ⟨d - 1, by omega⟩
  refine WP.enter (cd := cd_X12_triangles) rfl ?_
  have hok := ok.1
  have hok2 := (ok.2 p hp).1
  have hls : largs 0 [aO (some o), aI ((p : Int))] = [(0, aO (some o)), (1, aI ((p : Int)))] := rfl
  rw [hls]
  clear hls
  have l9 : ∀ (fuel : Nat) (a : Nat) (V1 : Nat → Nat → Int), (1 ≤ a) → (a ≤ sGn S p) → (∀ q, q ≠ o + 11 → V1 q = V q) → (∀ u v, u < v → v < sGn S p → v - u < a → V1 (o + 11) (12 * u + v) = gTr S p u v) → sGn S p - a < fuel → Wk w d cd_X12_triangles 9 [(3, aI ((a : Int))), (2, aI (((sGn S p : Nat) : Int))), (0, aO (some o)), (1, aI ((p : Int)))] [] (hw h V1) (RJ (fun r h1 => ∃ V1, h1 = hw h V1 ∧ (∀ q, q ≠ o + 11 → V1 q = V q) ∧ r = gTr S p 0 (sGn S p - 1))) := by
    intro fuel
    induction fuel with
    | zero => intros; omega
    | succ fuel ih9 =>
      intro a V1 ha ha2 hv ht hfuel
      have hok := ok.1
      have hok2 := (ok.2 p hp).1
      have l17 : (a < sGn S p) → ∀ (fuel : Nat) (i : Nat) (V1 : Nat → Nat → Int), (i + a ≤ sGn S p) → (∀ q, q ≠ o + 11 → V1 q = V q) → (∀ u v, u < v → v < sGn S p → v - u < a → V1 (o + 11) (12 * u + v) = gTr S p u v) → (∀ u v, u < v → v < sGn S p → v - u = a → u < i → V1 (o + 11) (12 * u + v) = gTr S p u v) → sGn S p - i < fuel → Wk w d cd_X12_triangles 17 [(4, aI ((i : Int))), (3, aI ((a : Int))), (2, aI (((sGn S p : Nat) : Int))), (0, aO (some o)), (1, aI ((p : Int)))] [] (hw h V1) (RJ (fun r h1 => ∃ V1, h1 = hw h V1 ∧ (∀ q, q ≠ o + 11 → V1 q = V q) ∧ r = gTr S p 0 (sGn S p - 1))) := by
        intro ha3 fuel
        induction fuel with
        | zero => intros; omega
        | succ fuel ih17 =>
          intro i V1 hi hv ht ht2 hfuel
          have mg1 : MG V1 o S := mg.fr (by rw [hv o (by omega)]) (fun q h1 h2 => hv q (by omega))
          have l73 : (i + a < sGn S p) → (a = 1 ∨ (i + a = i + 1 ∨ (i = 0 ∧ i + a = sGn S p - 1)) ∨ bt (gDiag S p i (i + a)) = true) → ∀ (fuel : Nat) (m : Nat) (s : Int), (m + 1 ≤ a) → (s = if a = 1 then 1 else gSum (gTr S p) i (i + a) m) → a - m < fuel → Wk w d cd_X12_triangles 73 [(9, aI ((i + 1 + m : Int))), (8, aI 1), (6, aJ s), (5, aI ((i + a : Int))), (4, aI ((i : Int))), (3, aI ((a : Int))), (2, aI (((sGn S p : Nat) : Int))), (0, aO (some o)), (1, aI ((p : Int)))] [] (hw h V1) (RJ (fun r h1 => ∃ V1, h1 = hw h V1 ∧ (∀ q, q ≠ o + 11 → V1 q = V q) ∧ r = gTr S p 0 (sGn S p - 1))) := by
            intro hia hmay fuel
            induction fuel with
            | zero => intros; omega
            | succ fuel ih73 =>
              intro m s hm hs hfuel
              have hsb := gSm_b (S := S) (p := p) (i := i) (j := i + a) (m := m) (by omega) (by omega) (by omega)
              have hs0 : 0 ≤ s ∧ s ≤ 11 * 1099511627776 := by rw [hs]; split <;> omega
              refine g_iload rfl rfl ?_
              refine g_iload rfl rfl ?_
              refine g_icmp_ge rfl (fun cq77 => ?_) (fun cq77 => ?_)
              · skip
                try (have hsum : (if i + a = i + 1 then 1 else gSum (gTr S p) i (i + a) (i + a - i - 1)) = s := by
                      rw [hs]
                      by_cases e : a = 1
                      · rw [if_pos e, if_pos (by omega)]
                      · rw [if_neg e, if_neg (by omega), show i + a - i - 1 = m by omega])
                refine g_aload_n rfl rfl ?_
                refine g_getR rfl ms.1 (mr_ways ms) ?_
                refine g_bipush rfl ?_
                refine g_iload rfl rfl ?_
                refine g_imul rfl (by omega) (by omega) ?_
                refine g_iload rfl rfl ?_
                refine g_iadd rfl (by omega) (by omega) ?_
                refine g_iload rfl rfl ?_
                refine g_if_eq_f rfl (by omega) ?_
                refine g_lload rfl rfl ?_
                refine g_goto rfl ?_
                refine g_last (i := 12 * i + (i + a)) rfl (mt_ways ms) (by omega) (by omega) ?_
                refine g_hp (h2 := hw h (vset V1 (o + 11) (12 * i + (i + a)) s)) rfl ?_
                refine g_iinc (l1 := [(4, aI ((i : Int) + 1)), (9, aI ((i + 1 + m : Int))), (8, aI 1), (6, aJ s), (5, aI ((i + a : Int))), (3, aI ((a : Int))), (2, aI (((sGn S p : Nat) : Int))), (0, aO (some o)), (1, aI ((p : Int)))]) rfl rfl (by omega) (by omega) rfl ?_
                refine g_goto rfl ?_
                refine g_ls [0, 5, 6, 7, 8] rfl rfl ?_
                exact ih17 (i + 1) _ (by omega) (by exact fun q hq => by funext z; rw [vset_ne _ _ _ _ (by omega), hv q hq]) (by exact fun u v h1 h2 h3 => by rw [vset_ne _ _ _ _ (by omega)]; exact ht u v h1 h2 h3) (by 
                                                                                                                                                                                                                                                                                                                                                                                                                exact fun u v h1 h2 h3 h4 => if e : u = i then by
                                                                                                                                                                                                                                                                                                                                                                                                                    subst e
                                                                                                                                                                                                                                                                                                                                                                                                                    obtain rfl : v = u + a := by omega
                                                                                                                                                                                                                                                                                                                                                                                                                    rw [vset_eq, gTr_eq (by omega) (by omega)]
                                                                                                                                                                                                                                                                                                                                                                                                                    unfold gWy
                                                                                                                                                                                                                                                                                                                                                                                                                    rw [hsum]
                                                                                                                                                                                                                                                                                                                                                                                                                    by_cases z : (u + a = u + 1 ∨ u + a - u = sGn S p - 1) ∨ 0 < s ∧ bt (gDiag S p u (u + a)) = true
                                                                                                                                                                                                                                                                                                                                                                                                                    · rw [if_pos z]
                                                                                                                                                                                                                                                                                                                                                                                                                    · rw [if_neg z]
                                                                                                                                                                                                                                                                                                                                                                                                                      have z2 : bt (gDiag S p u (u + a)) = true := by
                                                                                                                                                                                                                                                                                                                                                                                                                        rcases hmay with y | (y | y) | y
                                                                                                                                                                                                                                                                                                                                                                                                                        · exact absurd (Or.inl (Or.inl (by omega))) z
                                                                                                                                                                                                                                                                                                                                                                                                                        · exact absurd (Or.inl (Or.inl (by omega))) z
                                                                                                                                                                                                                                                                                                                                                                                                                        · exact absurd (Or.inl (Or.inr (by omega))) z
                                                                                                                                                                                                                                                                                                                                                                                                                        · exact y
                                                                                                                                                                                                                                                                                                                                                                                                                      exact Classical.byContradiction fun y => z (Or.inr ⟨by omega, z2⟩)
                                                                                                                                                                                                                                                                                                                                                                                                                  else by rw [vset_ne _ _ _ _ (by omega)]; exact ht2 u v h1 h2 h3 (by omega)) (by omega)
              · skip
                refine g_iload rfl rfl ?_
                refine g_if_eq_f rfl (by omega) ?_
                refine g_lload rfl rfl ?_
                refine g_aload_n rfl rfl ?_
                refine g_getR rfl ms.1 (mr_ways ms) ?_
                refine g_bipush rfl ?_
                refine g_iload rfl rfl ?_
                refine g_imul rfl (by omega) (by omega) ?_
                refine g_iload rfl rfl ?_
                refine g_iadd rfl (by omega) (by omega) ?_
                refine g_lald (i := 12 * i + (i + 1 + m)) rfl (mt_ways ms) (by omega) (by omega) ?_
                refine g_top (v2 := aJ (gTr S p i (i + 1 + m))) (congrArg aJ (by exact ht i (i + 1 + m) (by omega) (by omega) (by omega))) ?_
                refine g_aload_n rfl rfl ?_
                refine g_getR rfl ms.1 (mr_ways ms) ?_
                refine g_bipush rfl ?_
                refine g_iload rfl rfl ?_
                refine g_imul rfl (by omega) (by omega) ?_
                refine g_iload rfl rfl ?_
                refine g_iadd rfl (by omega) (by omega) ?_
                refine g_lald (i := 12 * (i + 1 + m) + (i + a)) rfl (mt_ways ms) (by omega) (by omega) ?_
                refine g_top (v2 := aJ (gTr S p (i + 1 + m) (i + a))) (congrArg aJ (by exact ht (i + 1 + m) (i + a) (by omega) (by omega) (by omega))) ?_
                have b1 := gTr_b (S := S) (p := p) (i := i) (j := i + 1 + m) (by omega) (by omega)
                have b2 := gTr_b (S := S) (p := p) (i := i + 1 + m) (j := i + a) (by omega) (by omega)
                have hsb2 := gSm_b (S := S) (p := p) (i := i) (j := i + a) (m := m + 1) (by omega) (by omega) (by omega)
                have hsm : gSum (gTr S p) i (i + a) (m + 1) = gSum (gTr S p) i (i + a) m + gTr S p i (i + 1 + m) * gTr S p (i + 1 + m) (i + a) := rfl
                have hs1 := hs
                rw [if_neg (by omega)] at hs1
                refine g_lmul rfl (by omega) (by omega) ?_
                refine g_ladd rfl (by omega) (by omega) ?_
                refine g_lstore (l1 := [(6, aJ (s + ((gTr S p i (i + 1 + m)) * (gTr S p (i + 1 + m) (i + a))))), (9, aI ((i + 1 + m : Int))), (8, aI 1), (5, aI ((i + a : Int))), (4, aI ((i : Int))), (3, aI ((a : Int))), (2, aI (((sGn S p : Nat) : Int))), (0, aO (some o)), (1, aI ((p : Int)))]) rfl rfl ?_
                refine g_iinc (l1 := [(9, aI ((i + 1 + m : Int) + 1)), (6, aJ (s + ((gTr S p i (i + 1 + m)) * (gTr S p (i + 1 + m) (i + a))))), (8, aI 1), (5, aI ((i + a : Int))), (4, aI ((i : Int))), (3, aI ((a : Int))), (2, aI (((sGn S p : Nat) : Int))), (0, aO (some o)), (1, aI ((p : Int)))]) rfl rfl (by omega) (by omega) rfl ?_
                rw [show ((i + 1 + m : Int) + 1 : Int) = (i + 1 + (m + 1) : Int) by omega]
                refine g_goto rfl ?_
                refine g_ls [0, 2, 1, 3, 4, 5, 6, 7, 8] rfl rfl ?_
                exact ih73 (m + 1) _ (by omega) (by rw [if_neg (by omega)] at hs; rw [hs, if_neg (by omega)]; rfl) (by omega)
          refine g_iload rfl rfl ?_
          refine g_iload_n rfl rfl ?_
          refine g_iadd rfl (by omega) (by omega) ?_
          refine g_iload_n rfl rfl ?_
          refine g_icmp_ge rfl (fun cq22 => ?_) (fun cq22 => ?_)
          · skip
            refine g_iinc (l1 := [(3, aI ((a : Int) + 1)), (4, aI ((i : Int))), (2, aI (((sGn S p : Nat) : Int))), (0, aO (some o)), (1, aI ((p : Int)))]) rfl rfl (by omega) (by omega) rfl ?_
            refine g_goto rfl ?_
            refine g_ls [0, 2, 3, 4] rfl rfl ?_
            exact ih9 (a + 1) _ (by omega) (by omega) (by exact hv) (by exact fun u v h1 h2 h3 => if e : v - u < a then ht u v h1 h2 e else ht2 u v h1 h2 (by omega) (by omega)) (by omega)
          · skip
            refine g_iload rfl rfl ?_
            refine g_iload_n rfl rfl ?_
            refine g_iadd rfl (by omega) (by omega) ?_
            refine g_istore (l1 := [(5, aI (((i : Int)) + ((a : Int)))), (4, aI ((i : Int))), (3, aI ((a : Int))), (2, aI (((sGn S p : Nat) : Int))), (0, aO (some o)), (1, aI ((p : Int)))]) rfl rfl ?_
            refine g_iload_n rfl rfl ?_
            refine g_iconst rfl ?_
            refine g_icmp_ne rfl (fun cq33 => ?_) (fun cq33 => ?_)
            · skip
              refine g_lconst0 rfl ?_
              refine g_lstore (l1 := [(6, aJ 0), (5, aI (((i : Int)) + ((a : Int)))), (4, aI ((i : Int))), (3, aI ((a : Int))), (2, aI (((sGn S p : Nat) : Int))), (0, aO (some o)), (1, aI ((p : Int)))]) rfl rfl ?_
              refine g_iload_n rfl rfl ?_
              refine g_iconst rfl ?_
              refine g_icmp_eq rfl (fun cq45 => ?_) (fun cq45 => ?_)
              · skip
                refine g_iconst rfl ?_
                refine g_goto rfl ?_
                refine g_istore (l1 := [(8, aI 1), (6, aJ 0), (5, aI (((i : Int)) + ((a : Int)))), (4, aI ((i : Int))), (3, aI ((a : Int))), (2, aI (((sGn S p : Nat) : Int))), (0, aO (some o)), (1, aI ((p : Int)))]) rfl rfl ?_
                refine g_iload rfl rfl ?_
                refine g_iconst rfl ?_
                refine g_iadd rfl (by omega) (by omega) ?_
                refine g_istore (l1 := [(9, aI (((i : Int)) + 1)), (8, aI 1), (6, aJ 0), (5, aI (((i : Int)) + ((a : Int)))), (4, aI ((i : Int))), (3, aI ((a : Int))), (2, aI (((sGn S p : Nat) : Int))), (0, aO (some o)), (1, aI ((p : Int)))]) rfl rfl ?_
                exact l73 (by omega) (by 
                                                                                                                                                                                                                                                                                                                                                                                                                first
                                                                                                                                                                                                                                                                                                                                                                                                                | (exact Or.inr cq57)
                                                                                                                                                                                                                                                                                                                                                                                                                | (refine Or.inl ?_ <;> omega)) _ 0 _ (by omega) (by 
                                                                                                                                                                                                                                                                                                                                                                                                                first
                                                                                                                                                                                                                                                                                                                                                                                                                | (refine (if_pos ?_).symm; refine ?_ <;> omega)
                                                                                                                                                                                                                                                                                                                                                                                                                | (refine (if_neg ?_).symm; refine ?_ <;> omega)) (Nat.lt_succ_self _)
              · skip
                refine g_aload_n rfl rfl ?_
                refine g_iload_n rfl rfl ?_
                refine g_iload rfl rfl ?_
                refine g_iload rfl rfl ?_
                refine g_callVI [aI ((p : Int)), aI ((i : Int)), aI (((i : Int)) + ((a : Int)))] [] rfl rfl rfl rfl (Nat.le_of_ble_eq_true rfl) ms.1 (m_pgWay (by omega) ms V1 mg1 ok p (by omega) i (by omega) (i + a) (by omega)) ?_
                rintro r1 hx1 ⟨ehx1, rfl⟩
                rw [ehx1]
                clear ehx1 hx1
                refine g_b_eq rfl (fun cq57 => ?_) (fun cq57 => ?_)
                · skip
                  refine g_iconst rfl ?_
                  refine g_istore (l1 := [(8, aI 0), (6, aJ 0), (5, aI (((i : Int)) + ((a : Int)))), (4, aI ((i : Int))), (3, aI ((a : Int))), (2, aI (((sGn S p : Nat) : Int))), (0, aO (some o)), (1, aI ((p : Int)))]) rfl rfl ?_
                  refine g_iload rfl rfl ?_
                  refine g_iconst rfl ?_
                  refine g_iadd rfl (by omega) (by omega) ?_
                  refine g_istore (l1 := [(9, aI (((i : Int)) + 1)), (8, aI 0), (6, aJ 0), (5, aI (((i : Int)) + ((a : Int)))), (4, aI ((i : Int))), (3, aI ((a : Int))), (2, aI (((sGn S p : Nat) : Int))), (0, aO (some o)), (1, aI ((p : Int)))]) rfl rfl ?_
                  have hmay := cq57
                  refine g_iload rfl rfl ?_
                  refine g_iload rfl rfl ?_
                  refine g_icmp_ge rfl (fun cq77 => ?_) (fun cq77 => ?_)
                  · skip
                    try (have hsum : (if i + a = i + 1 then 1 else gSum (gTr S p) i (i + a) (i + a - i - 1)) = s := by
                          rw [hs]
                          by_cases e : a = 1
                          · rw [if_pos e, if_pos (by omega)]
                          · rw [if_neg e, if_neg (by omega), show i + a - i - 1 = m by omega])
                    refine g_aload_n rfl rfl ?_
                    refine g_getR rfl ms.1 (mr_ways ms) ?_
                    refine g_bipush rfl ?_
                    refine g_iload rfl rfl ?_
                    refine g_imul rfl (by omega) (by omega) ?_
                    refine g_iload rfl rfl ?_
                    refine g_iadd rfl (by omega) (by omega) ?_
                    refine g_iload rfl rfl ?_
                    refine g_if_eq_t rfl (by omega) ?_
                    refine g_lconst0 rfl ?_
                    refine g_last (i := 12 * i + (i + a)) rfl (mt_ways ms) (by omega) (by omega) ?_
                    refine g_hp (h2 := hw h (vset V1 (o + 11) (12 * i + (i + a)) 0)) rfl ?_
                    refine g_iinc (l1 := [(4, aI ((i : Int) + 1)), (9, aI (((i : Int)) + 1)), (8, aI 0), (6, aJ 0), (5, aI (((i : Int)) + ((a : Int)))), (3, aI ((a : Int))), (2, aI (((sGn S p : Nat) : Int))), (0, aO (some o)), (1, aI ((p : Int)))]) rfl rfl (by omega) (by omega) rfl ?_
                    refine g_goto rfl ?_
                    refine g_ls [0, 5, 6, 7, 8] rfl rfl ?_
                    exact ih17 (i + 1) _ (by omega) (by exact fun q hq => by funext z; rw [vset_ne _ _ _ _ (by omega), hv q hq]) (by exact fun u v h1 h2 h3 => by rw [vset_ne _ _ _ _ (by omega)]; exact ht u v h1 h2 h3) (by 
                                                                                                                                                                                                                                                                                                                                                                                                                exact fun u v h1 h2 h3 h4 => if e : u = i then by
                                                                                                                                                                                                                                                                                                                                                                                                                    subst e
                                                                                                                                                                                                                                                                                                                                                                                                                    obtain rfl : v = u + a := by omega
                                                                                                                                                                                                                                                                                                                                                                                                                    rw [vset_eq, gTr_eq (by omega) (by omega)]
                                                                                                                                                                                                                                                                                                                                                                                                                    unfold gWy
                                                                                                                                                                                                                                                                                                                                                                                                                    refine (if_neg ?_).symm
                                                                                                                                                                                                                                                                                                                                                                                                                    rintro ((z | z) | z)
                                                                                                                                                                                                                                                                                                                                                                                                                    · exact hmay (Or.inl (Or.inl (by omega)))
                                                                                                                                                                                                                                                                                                                                                                                                                    · exact hmay (Or.inl (Or.inr (by omega)))
                                                                                                                                                                                                                                                                                                                                                                                                                    · exact hmay (Or.inr z.2)
                                                                                                                                                                                                                                                                                                                                                                                                                  else by rw [vset_ne _ _ _ _ (by omega)]; exact ht2 u v h1 h2 h3 (by omega)) (by omega)
                  · skip
                    refine g_iload rfl rfl ?_
                    refine g_if_eq_t rfl (by omega) ?_
                    try (have hsum : (if i + a = i + 1 then 1 else gSum (gTr S p) i (i + a) (i + a - i - 1)) = s := by
                          rw [hs]
                          by_cases e : a = 1
                          · rw [if_pos e, if_pos (by omega)]
                          · rw [if_neg e, if_neg (by omega), show i + a - i - 1 = m by omega])
                    refine g_aload_n rfl rfl ?_
                    refine g_getR rfl ms.1 (mr_ways ms) ?_
                    refine g_bipush rfl ?_
                    refine g_iload rfl rfl ?_
                    refine g_imul rfl (by omega) (by omega) ?_
                    refine g_iload rfl rfl ?_
                    refine g_iadd rfl (by omega) (by omega) ?_
                    refine g_iload rfl rfl ?_
                    refine g_if_eq_t rfl (by omega) ?_
                    refine g_lconst0 rfl ?_
                    refine g_last (i := 12 * i + (i + a)) rfl (mt_ways ms) (by omega) (by omega) ?_
                    refine g_hp (h2 := hw h (vset V1 (o + 11) (12 * i + (i + a)) 0)) rfl ?_
                    refine g_iinc (l1 := [(4, aI ((i : Int) + 1)), (9, aI (((i : Int)) + 1)), (8, aI 0), (6, aJ 0), (5, aI (((i : Int)) + ((a : Int)))), (3, aI ((a : Int))), (2, aI (((sGn S p : Nat) : Int))), (0, aO (some o)), (1, aI ((p : Int)))]) rfl rfl (by omega) (by omega) rfl ?_
                    refine g_goto rfl ?_
                    refine g_ls [0, 5, 6, 7, 8] rfl rfl ?_
                    exact ih17 (i + 1) _ (by omega) (by exact fun q hq => by funext z; rw [vset_ne _ _ _ _ (by omega), hv q hq]) (by exact fun u v h1 h2 h3 => by rw [vset_ne _ _ _ _ (by omega)]; exact ht u v h1 h2 h3) (by 
                                                                                                                                                                                                                                                                                                                                                                                                                exact fun u v h1 h2 h3 h4 => if e : u = i then by
                                                                                                                                                                                                                                                                                                                                                                                                                    subst e
                                                                                                                                                                                                                                                                                                                                                                                                                    obtain rfl : v = u + a := by omega
                                                                                                                                                                                                                                                                                                                                                                                                                    rw [vset_eq, gTr_eq (by omega) (by omega)]
                                                                                                                                                                                                                                                                                                                                                                                                                    unfold gWy
                                                                                                                                                                                                                                                                                                                                                                                                                    refine (if_neg ?_).symm
                                                                                                                                                                                                                                                                                                                                                                                                                    rintro ((z | z) | z)
                                                                                                                                                                                                                                                                                                                                                                                                                    · exact hmay (Or.inl (Or.inl (by omega)))
                                                                                                                                                                                                                                                                                                                                                                                                                    · exact hmay (Or.inl (Or.inr (by omega)))
                                                                                                                                                                                                                                                                                                                                                                                                                    · exact hmay (Or.inr z.2)
                                                                                                                                                                                                                                                                                                                                                                                                                  else by rw [vset_ne _ _ _ _ (by omega)]; exact ht2 u v h1 h2 h3 (by omega)) (by omega)
                · skip
                  refine g_iconst rfl ?_
                  refine g_goto rfl ?_
                  refine g_istore (l1 := [(8, aI 1), (6, aJ 0), (5, aI (((i : Int)) + ((a : Int)))), (4, aI ((i : Int))), (3, aI ((a : Int))), (2, aI (((sGn S p : Nat) : Int))), (0, aO (some o)), (1, aI ((p : Int)))]) rfl rfl ?_
                  refine g_iload rfl rfl ?_
                  refine g_iconst rfl ?_
                  refine g_iadd rfl (by omega) (by omega) ?_
                  refine g_istore (l1 := [(9, aI (((i : Int)) + 1)), (8, aI 1), (6, aJ 0), (5, aI (((i : Int)) + ((a : Int)))), (4, aI ((i : Int))), (3, aI ((a : Int))), (2, aI (((sGn S p : Nat) : Int))), (0, aO (some o)), (1, aI ((p : Int)))]) rfl rfl ?_
                  exact l73 (by omega) (by 
                                                                                                                                                                                                                                                                                                                                                                                                                first
                                                                                                                                                                                                                                                                                                                                                                                                                | (exact Or.inr cq57)
                                                                                                                                                                                                                                                                                                                                                                                                                | (refine Or.inl ?_ <;> omega)) _ 0 _ (by omega) (by 
                                                                                                                                                                                                                                                                                                                                                                                                                first
                                                                                                                                                                                                                                                                                                                                                                                                                | (refine (if_pos ?_).symm; refine ?_ <;> omega)
                                                                                                                                                                                                                                                                                                                                                                                                                | (refine (if_neg ?_).symm; refine ?_ <;> omega)) (Nat.lt_succ_self _)
            · skip
              refine g_lconst1 rfl ?_
              refine g_goto rfl ?_
              refine g_lstore (l1 := [(6, aJ 1), (5, aI (((i : Int)) + ((a : Int)))), (4, aI ((i : Int))), (3, aI ((a : Int))), (2, aI (((sGn S p : Nat) : Int))), (0, aO (some o)), (1, aI ((p : Int)))]) rfl rfl ?_
              refine g_iload_n rfl rfl ?_
              refine g_iconst rfl ?_
              refine g_icmp_eq rfl (fun cq45 => ?_) (fun cq45 => ?_)
              · skip
                refine g_iconst rfl ?_
                refine g_goto rfl ?_
                refine g_istore (l1 := [(8, aI 1), (6, aJ 1), (5, aI (((i : Int)) + ((a : Int)))), (4, aI ((i : Int))), (3, aI ((a : Int))), (2, aI (((sGn S p : Nat) : Int))), (0, aO (some o)), (1, aI ((p : Int)))]) rfl rfl ?_
                refine g_iload rfl rfl ?_
                refine g_iconst rfl ?_
                refine g_iadd rfl (by omega) (by omega) ?_
                refine g_istore (l1 := [(9, aI (((i : Int)) + 1)), (8, aI 1), (6, aJ 1), (5, aI (((i : Int)) + ((a : Int)))), (4, aI ((i : Int))), (3, aI ((a : Int))), (2, aI (((sGn S p : Nat) : Int))), (0, aO (some o)), (1, aI ((p : Int)))]) rfl rfl ?_
                exact l73 (by omega) (by 
                                                                                                                                                                                                                                                                                                                                                                                                                first
                                                                                                                                                                                                                                                                                                                                                                                                                | (exact Or.inr cq57)
                                                                                                                                                                                                                                                                                                                                                                                                                | (refine Or.inl ?_ <;> omega)) _ 0 _ (by omega) (by 
                                                                                                                                                                                                                                                                                                                                                                                                                first
                                                                                                                                                                                                                                                                                                                                                                                                                | (refine (if_pos ?_).symm; refine ?_ <;> omega)
                                                                                                                                                                                                                                                                                                                                                                                                                | (refine (if_neg ?_).symm; refine ?_ <;> omega)) (Nat.lt_succ_self _)
              · skip
                refine g_aload_n rfl rfl ?_
                refine g_iload_n rfl rfl ?_
                refine g_iload rfl rfl ?_
                refine g_iload rfl rfl ?_
                refine g_callVI [aI ((p : Int)), aI ((i : Int)), aI (((i : Int)) + ((a : Int)))] [] rfl rfl rfl rfl (Nat.le_of_ble_eq_true rfl) ms.1 (m_pgWay (by omega) ms V1 mg1 ok p (by omega) i (by omega) (i + a) (by omega)) ?_
                rintro r2 hx2 ⟨ehx2, rfl⟩
                rw [ehx2]
                clear ehx2 hx2
                refine g_b_eq rfl (fun cq57 => ?_) (fun cq57 => ?_)
                · skip
                  refine g_iconst rfl ?_
                  refine g_istore (l1 := [(8, aI 0), (6, aJ 1), (5, aI (((i : Int)) + ((a : Int)))), (4, aI ((i : Int))), (3, aI ((a : Int))), (2, aI (((sGn S p : Nat) : Int))), (0, aO (some o)), (1, aI ((p : Int)))]) rfl rfl ?_
                  refine g_iload rfl rfl ?_
                  refine g_iconst rfl ?_
                  refine g_iadd rfl (by omega) (by omega) ?_
                  refine g_istore (l1 := [(9, aI (((i : Int)) + 1)), (8, aI 0), (6, aJ 1), (5, aI (((i : Int)) + ((a : Int)))), (4, aI ((i : Int))), (3, aI ((a : Int))), (2, aI (((sGn S p : Nat) : Int))), (0, aO (some o)), (1, aI ((p : Int)))]) rfl rfl ?_
                  have hmay := cq57
                  refine g_iload rfl rfl ?_
                  refine g_iload rfl rfl ?_
                  refine g_icmp_ge rfl (fun cq77 => ?_) (fun cq77 => ?_)
                  · skip
                    try (have hsum : (if i + a = i + 1 then 1 else gSum (gTr S p) i (i + a) (i + a - i - 1)) = s := by
                          rw [hs]
                          by_cases e : a = 1
                          · rw [if_pos e, if_pos (by omega)]
                          · rw [if_neg e, if_neg (by omega), show i + a - i - 1 = m by omega])
                    refine g_aload_n rfl rfl ?_
                    refine g_getR rfl ms.1 (mr_ways ms) ?_
                    refine g_bipush rfl ?_
                    refine g_iload rfl rfl ?_
                    refine g_imul rfl (by omega) (by omega) ?_
                    refine g_iload rfl rfl ?_
                    refine g_iadd rfl (by omega) (by omega) ?_
                    refine g_iload rfl rfl ?_
                    refine g_if_eq_t rfl (by omega) ?_
                    refine g_lconst0 rfl ?_
                    refine g_last (i := 12 * i + (i + a)) rfl (mt_ways ms) (by omega) (by omega) ?_
                    refine g_hp (h2 := hw h (vset V1 (o + 11) (12 * i + (i + a)) 0)) rfl ?_
                    refine g_iinc (l1 := [(4, aI ((i : Int) + 1)), (9, aI (((i : Int)) + 1)), (8, aI 0), (6, aJ 1), (5, aI (((i : Int)) + ((a : Int)))), (3, aI ((a : Int))), (2, aI (((sGn S p : Nat) : Int))), (0, aO (some o)), (1, aI ((p : Int)))]) rfl rfl (by omega) (by omega) rfl ?_
                    refine g_goto rfl ?_
                    refine g_ls [0, 5, 6, 7, 8] rfl rfl ?_
                    exact ih17 (i + 1) _ (by omega) (by exact fun q hq => by funext z; rw [vset_ne _ _ _ _ (by omega), hv q hq]) (by exact fun u v h1 h2 h3 => by rw [vset_ne _ _ _ _ (by omega)]; exact ht u v h1 h2 h3) (by 
                                                                                                                                                                                                                                                                                                                                                                                                                exact fun u v h1 h2 h3 h4 => if e : u = i then by
                                                                                                                                                                                                                                                                                                                                                                                                                    subst e
                                                                                                                                                                                                                                                                                                                                                                                                                    obtain rfl : v = u + a := by omega
                                                                                                                                                                                                                                                                                                                                                                                                                    rw [vset_eq, gTr_eq (by omega) (by omega)]
                                                                                                                                                                                                                                                                                                                                                                                                                    unfold gWy
                                                                                                                                                                                                                                                                                                                                                                                                                    refine (if_neg ?_).symm
                                                                                                                                                                                                                                                                                                                                                                                                                    rintro ((z | z) | z)
                                                                                                                                                                                                                                                                                                                                                                                                                    · exact hmay (Or.inl (Or.inl (by omega)))
                                                                                                                                                                                                                                                                                                                                                                                                                    · exact hmay (Or.inl (Or.inr (by omega)))
                                                                                                                                                                                                                                                                                                                                                                                                                    · exact hmay (Or.inr z.2)
                                                                                                                                                                                                                                                                                                                                                                                                                  else by rw [vset_ne _ _ _ _ (by omega)]; exact ht2 u v h1 h2 h3 (by omega)) (by omega)
                  · skip
                    refine g_iload rfl rfl ?_
                    refine g_if_eq_t rfl (by omega) ?_
                    try (have hsum : (if i + a = i + 1 then 1 else gSum (gTr S p) i (i + a) (i + a - i - 1)) = s := by
                          rw [hs]
                          by_cases e : a = 1
                          · rw [if_pos e, if_pos (by omega)]
                          · rw [if_neg e, if_neg (by omega), show i + a - i - 1 = m by omega])
                    refine g_aload_n rfl rfl ?_
                    refine g_getR rfl ms.1 (mr_ways ms) ?_
                    refine g_bipush rfl ?_
                    refine g_iload rfl rfl ?_
                    refine g_imul rfl (by omega) (by omega) ?_
                    refine g_iload rfl rfl ?_
                    refine g_iadd rfl (by omega) (by omega) ?_
                    refine g_iload rfl rfl ?_
                    refine g_if_eq_t rfl (by omega) ?_
                    refine g_lconst0 rfl ?_
                    refine g_last (i := 12 * i + (i + a)) rfl (mt_ways ms) (by omega) (by omega) ?_
                    refine g_hp (h2 := hw h (vset V1 (o + 11) (12 * i + (i + a)) 0)) rfl ?_
                    refine g_iinc (l1 := [(4, aI ((i : Int) + 1)), (9, aI (((i : Int)) + 1)), (8, aI 0), (6, aJ 1), (5, aI (((i : Int)) + ((a : Int)))), (3, aI ((a : Int))), (2, aI (((sGn S p : Nat) : Int))), (0, aO (some o)), (1, aI ((p : Int)))]) rfl rfl (by omega) (by omega) rfl ?_
                    refine g_goto rfl ?_
                    refine g_ls [0, 5, 6, 7, 8] rfl rfl ?_
                    exact ih17 (i + 1) _ (by omega) (by exact fun q hq => by funext z; rw [vset_ne _ _ _ _ (by omega), hv q hq]) (by exact fun u v h1 h2 h3 => by rw [vset_ne _ _ _ _ (by omega)]; exact ht u v h1 h2 h3) (by 
                                                                                                                                                                                                                                                                                                                                                                                                                exact fun u v h1 h2 h3 h4 => if e : u = i then by
                                                                                                                                                                                                                                                                                                                                                                                                                    subst e
                                                                                                                                                                                                                                                                                                                                                                                                                    obtain rfl : v = u + a := by omega
                                                                                                                                                                                                                                                                                                                                                                                                                    rw [vset_eq, gTr_eq (by omega) (by omega)]
                                                                                                                                                                                                                                                                                                                                                                                                                    unfold gWy
                                                                                                                                                                                                                                                                                                                                                                                                                    refine (if_neg ?_).symm
                                                                                                                                                                                                                                                                                                                                                                                                                    rintro ((z | z) | z)
                                                                                                                                                                                                                                                                                                                                                                                                                    · exact hmay (Or.inl (Or.inl (by omega)))
                                                                                                                                                                                                                                                                                                                                                                                                                    · exact hmay (Or.inl (Or.inr (by omega)))
                                                                                                                                                                                                                                                                                                                                                                                                                    · exact hmay (Or.inr z.2)
                                                                                                                                                                                                                                                                                                                                                                                                                  else by rw [vset_ne _ _ _ _ (by omega)]; exact ht2 u v h1 h2 h3 (by omega)) (by omega)
                · skip
                  refine g_iconst rfl ?_
                  refine g_goto rfl ?_
                  refine g_istore (l1 := [(8, aI 1), (6, aJ 1), (5, aI (((i : Int)) + ((a : Int)))), (4, aI ((i : Int))), (3, aI ((a : Int))), (2, aI (((sGn S p : Nat) : Int))), (0, aO (some o)), (1, aI ((p : Int)))]) rfl rfl ?_
                  refine g_iload rfl rfl ?_
                  refine g_iconst rfl ?_
                  refine g_iadd rfl (by omega) (by omega) ?_
                  refine g_istore (l1 := [(9, aI (((i : Int)) + 1)), (8, aI 1), (6, aJ 1), (5, aI (((i : Int)) + ((a : Int)))), (4, aI ((i : Int))), (3, aI ((a : Int))), (2, aI (((sGn S p : Nat) : Int))), (0, aO (some o)), (1, aI ((p : Int)))]) rfl rfl ?_
                  exact l73 (by omega) (by 
                                                                                                                                                                                                                                                                                                                                                                                                                first
                                                                                                                                                                                                                                                                                                                                                                                                                | (exact Or.inr cq57)
                                                                                                                                                                                                                                                                                                                                                                                                                | (refine Or.inl ?_ <;> omega)) _ 0 _ (by omega) (by 
                                                                                                                                                                                                                                                                                                                                                                                                                first
                                                                                                                                                                                                                                                                                                                                                                                                                | (refine (if_pos ?_).symm; refine ?_ <;> omega)
                                                                                                                                                                                                                                                                                                                                                                                                                | (refine (if_neg ?_).symm; refine ?_ <;> omega)) (Nat.lt_succ_self _)
      refine g_iload_n rfl rfl ?_
      refine g_iload_n rfl rfl ?_
      refine g_icmp_ge rfl (fun cq11 => ?_) (fun cq11 => ?_)
      · skip
        refine g_aload_n rfl rfl ?_
        refine g_getR rfl ms.1 (mr_ways ms) ?_
        refine g_iload_n rfl rfl ?_
        refine g_iconst rfl ?_
        refine g_isub rfl (by omega) (by omega) ?_
        refine g_lald (i := (sGn S p - 1)) rfl (mt_ways ms) (by omega) (by omega) ?_
        refine g_top (v2 := aJ (gTr S p 0 (sGn S p - 1))) (congrArg aJ (by exact (congrArg (V1 (o + 11)) (show (sGn S p - 1) = 12 * 0 + (sGn S p - 1) by omega)).trans (ht 0 (sGn S p - 1) (by omega) (by omega) (by omega)))) ?_
        refine g_lret rfl ?_
        exact ⟨V1, rfl, hv, rfl⟩
      · skip
        refine g_iconst rfl ?_
        refine g_istore (l1 := [(4, aI 0), (3, aI ((a : Int))), (2, aI (((sGn S p : Nat) : Int))), (0, aO (some o)), (1, aI ((p : Int)))]) rfl rfl ?_
        exact l17 (by omega) _ 0 _ (by omega) (by exact hv) (by exact ht) (by exact fun u v h1 h2 h3 h4 => by omega) (Nat.lt_succ_self _)
  refine g_aload_n rfl rfl ?_
  refine g_getR rfl ms.1 (mr_corners ms) ?_
  refine g_iload_n rfl rfl ?_
  refine g_iald (i := p) rfl (mt_corners ms) (by omega) (by omega) ?_
  refine g_top (v2 := aI ((sGn S p : Int))) (congrArg aI (by exact (mg.2 p hp).1)) ?_
  refine g_istore_n (l1 := [(2, aI ((sGn S p : Int))), (0, aO (some o)), (1, aI ((p : Int)))]) rfl rfl ?_
  refine g_iconst rfl ?_
  refine g_istore_n (l1 := [(3, aI 1), (2, aI ((sGn S p : Int))), (0, aO (some o)), (1, aI ((p : Int)))]) rfl rfl ?_
  exact l9 _ 1 V (by omega) (by omega) (by exact fun q _ => rfl) (by exact fun u v h1 h2 h3 => by omega) (Nat.lt_succ_self _)
