/-! the class's face of numbers: printed by wip/whole/s74.py -/
theorem cf_at {L : List Int} {x : Int} {b t k : Nat} (hg : (cfW x b)[k - t]? = L[k]?) (hk : k < L.length) (ht : t ≤ k) (h : t = k ∨ b = 0) : x / (b : Int) = L.getD k 0 := by
  have e : L[k]? = some (L.getD k 0) := by
    rw [List.getElem?_eq_getElem hk, List.getD_eq_getElem?_getD, List.getElem?_eq_getElem hk]
    rfl
  by_cases q : b = 0
  · subst q
    rw [cfW_0, e] at hg
    simp at hg
  · rcases h with rfl | h
    · rw [cfW_s x q, e, Nat.sub_self] at hg
      simpa using hg
    · exact absurd h q
theorem cf_next {L : List Int} {x : Int} {b t k : Nat} (hg : (cfW x b)[k - t]? = L[k]?) (hb : b ≠ 0) (ht : t < k) : (cfW (b : Int) (x % (b : Int)).toNat)[k - (t + 1)]? = L[k]? := by
  rw [← hg, cfW_s x hb, show k - t = (k - (t + 1)) + 1 by omega, List.getElem?_cons_succ]
theorem x_term1 {w : aW} {d : Nat} (hd : 6 ≤ d) {h : aH} {c : Nat} (cs : CS h c) (V : Nat → Nat → Int) {S : aS} (xn : XN V c S) (ok : OkN S) (a : Int) (ha : 0 ≤ a ∧ a < sN S) (i : Int) (hi : -2147483648 ≤ i ∧ i < 2147483648) : WP w d 36 [aO (some (c + 3)), aI a, aI i] (hw h V) (RJ (fun r h1 => h1 = hw h V ∧ r = if 0 ≤ i then (cfW (sNu S a.toNat).1 (sNu S a.toNat).2.toNat).getD i.toNat 0 else 0)) := by
  obtain ⟨d, rfl⟩ : ∃ d1, d = d1 + 1 := ⟨d - 1, by omega⟩
  refine WP.enter (cd := cd_X1_termAt) rfl ?_
  have hp := ok.at ha
  obtain ⟨b0, hb0⟩ : ∃ b0 : Nat, (sNu S a.toNat).2 = b0 := ⟨(sNu S a.toNat).2.toNat, by omega⟩
  have e0 : (sNu S a.toNat).2.toNat = b0 := by omega
  have hls : largs 0 [aO (some (c + 3)), aI a, aI i] = [(0, aO (some (c + 3))), (1, aI a), (2, aI i)] := rfl
  rw [hls]
  clear hls
  have l31 : ∀ (fuel : Nat) (t b : Nat) (x : Int) (hi0 : 0 ≤ i) (hi1 : i < ((cfW (sNu S a.toNat).1 (sNu S a.toNat).2.toNat).length : Int)), (b ≤ 1073741824) → (-1073741824 ≤ x ∧ x ≤ 1073741824) → ((cfW x b)[i.toNat - t]? = (cfW (sNu S a.toNat).1 (sNu S a.toNat).2.toNat)[i.toNat]?) → (t ≤ i.toNat) → b < fuel → Wk w d cd_X1_termAt 31 [(7, aI ((t : Int))), (5, aJ ((b : Int))), (3, aJ x), (0, aO (some (c + 3))), (1, aI a), (2, aI i)] [] (hw h V) (RJ (fun r h1 => h1 = hw h V ∧ r = if 0 ≤ i then (cfW (sNu S a.toNat).1 (sNu S a.toNat).2.toNat).getD i.toNat 0 else 0)) := by
    intro fuel
    induction fuel with
    | zero => intros; omega
    | succ fuel ih31 =>
      intro t b x hi0 hi1 hb hx hg htk hfuel
      refine g_iload rfl rfl ?_
      refine g_iload_n rfl rfl ?_
      refine g_icmp_ge rfl (fun c34 => ?_) (fun c34 => ?_)
      · skip
        refine g_lload_n rfl rfl ?_
        refine g_lload rfl rfl ?_
        refine g_callSJ [aJ x, aJ ((b : Int))] [] rfl rfl rfl rfl (Nat.le_of_ble_eq_true rfl) (c_wholeBelow (by omega) x ((b : Int)) (by omega) (by omega) _) ?_
        rintro _ _ ⟨rfl, rfl⟩
        refine g_lret rfl ?_
        refine ⟨rfl, ?_⟩
        first
          | (rw [if_neg (by omega)])
          | (rw [if_pos (by omega)]; exact cf_at hg (by omega) (by omega) (by omega))
          | (rw [if_pos (by omega), List.getD_eq_getElem?_getD, List.getElem?_eq_none (by omega)]; rfl)
      · skip
        refine g_lload rfl rfl ?_
        refine g_lconst0 rfl ?_
        refine g_lc_eq rfl rfl (fun c40 => ?_) (fun c40 => ?_)
        · skip
          refine g_lload_n rfl rfl ?_
          refine g_lload rfl rfl ?_
          refine g_callSJ [aJ x, aJ ((b : Int))] [] rfl rfl rfl rfl (Nat.le_of_ble_eq_true rfl) (c_wholeBelow (by omega) x ((b : Int)) (by omega) (by omega) _) ?_
          rintro _ _ ⟨rfl, rfl⟩
          refine g_lret rfl ?_
          refine ⟨rfl, ?_⟩
          first
            | (rw [if_neg (by omega)])
            | (rw [if_pos (by omega)]; exact cf_at hg (by omega) (by omega) (by omega))
            | (rw [if_pos (by omega), List.getD_eq_getElem?_getD, List.getElem?_eq_none (by omega)]; rfl)
        · skip
          refine g_lload_n rfl rfl ?_
          refine g_lload rfl rfl ?_
          refine g_callSJ [aJ x, aJ ((b : Int))] [] rfl rfl rfl rfl (Nat.le_of_ble_eq_true rfl) (c_floorMod (by omega) x ((b : Int)) (by omega) (by omega) _) ?_
          rintro _ _ ⟨rfl, rfl⟩
          refine g_top (v2 := aJ ((((x % (b : Int)).toNat : Nat) : Int))) (congrArg aJ (by rw [Int.toNat_of_nonneg (Int.emod_nonneg _ (by omega))])) ?_
          refine g_lstore (l1 := [(8, aJ ((((x % (b : Int)).toNat : Nat) : Int))), (7, aI ((t : Int))), (5, aJ ((b : Int))), (3, aJ x), (0, aO (some (c + 3))), (1, aI a), (2, aI i)]) rfl rfl ?_
          refine g_lload rfl rfl ?_
          refine g_lstore_n (l1 := [(3, aJ ((b : Int))), (8, aJ ((((x % (b : Int)).toNat : Nat) : Int))), (7, aI ((t : Int))), (5, aJ ((b : Int))), (0, aO (some (c + 3))), (1, aI a), (2, aI i)]) rfl rfl ?_
          refine g_lload rfl rfl ?_
          refine g_lstore (l1 := [(5, aJ ((((x % (b : Int)).toNat : Nat) : Int))), (3, aJ ((b : Int))), (8, aJ ((((x % (b : Int)).toNat : Nat) : Int))), (7, aI ((t : Int))), (0, aO (some (c + 3))), (1, aI a), (2, aI i)]) rfl rfl ?_
          refine g_iinc (l1 := [(7, aI ((t : Int) + 1)), (5, aJ ((((x % (b : Int)).toNat : Nat) : Int))), (3, aJ ((b : Int))), (8, aJ ((((x % (b : Int)).toNat : Nat) : Int))), (0, aO (some (c + 3))), (1, aI a), (2, aI i)]) rfl rfl (by omega) (by omega) rfl ?_
          refine g_goto rfl ?_
          refine g_ls [0, 1, 2, 4, 5, 6] rfl rfl ?_
          exact ih31 (t + 1) (x % (b : Int)).toNat (b : Int) hi0 hi1 (by have := emod_lt_nat x (show b ≠ 0 by omega); omega) (by omega) (by exact cf_next hg (by omega) (by omega)) (by omega) (by have := emod_lt_nat x (show b ≠ 0 by omega); omega)
  refine g_iload_n rfl rfl ?_
  refine g_if_lt rfl (fun c1 => ?_) (fun c1 => ?_)
  · skip
    refine g_lconst0 rfl ?_
    refine g_lret rfl ?_
    refine ⟨rfl, ?_⟩
    first
      | (rw [if_neg (by omega)])
      | (rw [if_pos (by omega)]; exact cf_at hg (by omega) (by omega) (by omega))
      | (rw [if_pos (by omega), List.getD_eq_getElem?_getD, List.getElem?_eq_none (by omega)]; rfl)
  · skip
    refine g_iload_n rfl rfl ?_
    refine g_aload_n rfl rfl ?_
    refine g_iload_n rfl rfl ?_
    refine g_callVI [aI a] [aI i] rfl rfl rfl rfl (Nat.le_of_ble_eq_true rfl) (cs.kd 3 (by omega) rfl) (x_many (by omega) cs V xn ok a (by omega)) ?_
    rintro _ _ ⟨rfl, rfl⟩
    refine g_icmp_lt rfl (fun c10 => ?_) (fun c10 => ?_)
    · skip
      refine g_aload_n rfl rfl ?_
      refine g_iload_n rfl rfl ?_
      refine g_callVJ [aI a] [] rfl rfl rfl rfl (Nat.le_of_ble_eq_true rfl) (cs.kd 3 (by omega) rfl) (x_upS (by omega) cs V xn ok a (by omega)) ?_
      rintro _ _ ⟨rfl, rfl⟩
      refine g_lstore_n (l1 := [(3, aJ ((sNu S (a).toNat).1)), (0, aO (some (c + 3))), (1, aI a), (2, aI i)]) rfl rfl ?_
      refine g_aload_n rfl rfl ?_
      refine g_iload_n rfl rfl ?_
      refine g_callVJ [aI a] [] rfl rfl rfl rfl (Nat.le_of_ble_eq_true rfl) (cs.kd 3 (by omega) rfl) (x_downN (by omega) cs V xn ok a (by omega) b0 hb0) ?_
      rintro _ _ ⟨rfl, rfl⟩
      refine g_lstore (l1 := [(5, aJ ((b0 : Int))), (3, aJ ((sNu S (a).toNat).1)), (0, aO (some (c + 3))), (1, aI a), (2, aI i)]) rfl rfl ?_
      refine g_iconst rfl ?_
      refine g_istore (l1 := [(7, aI 0), (5, aJ ((b0 : Int))), (3, aJ ((sNu S (a).toNat).1)), (0, aO (some (c + 3))), (1, aI a), (2, aI i)]) rfl rfl ?_
      exact l31 _ 0 b0 (sNu S a.toNat).1 (by omega) (by omega) (by omega) (by omega) (by rw [e0]; rfl) (by omega) (Nat.lt_succ_self _)
    · skip
      refine g_lconst0 rfl ?_
      refine g_lret rfl ?_
      refine ⟨rfl, ?_⟩
      first
        | (rw [if_neg (by omega)])
        | (rw [if_pos (by omega)]; exact cf_at hg (by omega) (by omega) (by omega))
        | (rw [if_pos (by omega), List.getD_eq_getElem?_getD, List.getElem?_eq_none (by omega)]; rfl)
theorem x_term0 {w : aW} {d : Nat} (hd : 6 ≤ d) {h : aH} {c : Nat} (cs : CS h c) (V : Nat → Nat → Int) {S : aS} (xn : XN V c S) (ok : OkN S) (a : Int) (ha : ¬(0 ≤ a ∧ a < sN S)) (i : Int) : WP w d 36 [aO (some (c + 3)), aI a, aI i] (hw h V) (RJ (fun r h1 => h1 = hw h V ∧ r = 0)) := by
  obtain ⟨d, rfl⟩ : ∃ d1, d = d1 + 1 := ⟨d - 1, by omega⟩
  refine WP.enter (cd := cd_X1_termAt) rfl ?_
  have hls : largs 0 [aO (some (c + 3)), aI a, aI i] = [(0, aO (some (c + 3))), (1, aI a), (2, aI i)] := rfl
  rw [hls]
  clear hls
  refine g_iload_n rfl rfl ?_
  refine g_if_lt rfl (fun c1 => ?_) (fun c1 => ?_)
  · skip
    refine g_lconst0 rfl ?_
    refine g_lret rfl ?_
    exact ⟨rfl, rfl⟩
  · skip
    refine g_iload_n rfl rfl ?_
    refine g_aload_n rfl rfl ?_
    refine g_iload_n rfl rfl ?_
    refine g_callVI [aI a] [aI i] rfl rfl rfl rfl (Nat.le_of_ble_eq_true rfl) (cs.kd 3 (by omega) rfl) (x_many0 (by omega) cs V xn ok a (by omega)) ?_
    rintro _ _ ⟨rfl, rfl⟩
    refine g_icmp_lt_f rfl (by omega) ?_
    refine g_lconst0 rfl ?_
    refine g_lret rfl ?_
    exact ⟨rfl, rfl⟩
