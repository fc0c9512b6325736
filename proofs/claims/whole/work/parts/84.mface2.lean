/-! the reference's numberOf and roots: printed by wip/whole/s84.py -/
theorem cf_hd {L : List Int} {x : Int} {b t k : Nat} (hg : ∀ j : Nat, (cfW x b)[j]? = L[t + j]?) (hb : b ≠ 0) (hk : k = t) : x / (b : Int) = L.getD k 0 := by
  subst hk
  have h := hg 0
  rw [cfW_s x hb] at h
  rw [List.getD_eq_getElem?_getD, show k = k + 0 by omega, ← h]
  rfl
theorem cf_tl {L : List Int} {x : Int} {b t : Nat} (hg : ∀ j : Nat, (cfW x b)[j]? = L[t + j]?) (hb : b ≠ 0) : ∀ j : Nat, (cfW (b : Int) (x % (b : Int)).toNat)[j]? = L[t + 1 + j]? := by
  intro j
  have h := hg (j + 1)
  rw [cfW_s x hb, List.getElem?_cons_succ] at h
  rw [h, show t + (j + 1) = t + 1 + j by omega]
set_option maxRecDepth 100000 in
theorem m_numberOf {w : aW} {d : Nat} (hd : 3 ≤ d) {h : aH} {o : Nat} (ms : MS h o) (V : Nat → Nat → Int) {S : aS} (mn : MN V o S) (ok : OkN S) (a : Int) (k : Int) (hk : -2147483648 ≤ k ∧ k < 2147483648) : WP w d 278 [aO (some o), aI a, aI k] (hw h V) (RJ (fun r h1 => h1 = hw h (vset V o 31 0) ∧ r = spNO S a k)) := by
  obtain ⟨d, rfl⟩ : ∃ d1, d = d1 + 1 := ⟨d - 1, by omega⟩
  refine WP.enter (cd := cd_X12_numberOf) rfl ?_
  have mn2 := mn.own (i := 31) (by decide) 0
  have hn2 := ok.1
  have hls : largs 0 [aO (some o), aI a, aI k] = [(0, aO (some o)), (1, aI a), (2, aI k)] := rfl
  rw [hls]
  clear hls
  have l62 : ∀ (fuel : Nat) (t b : Nat) (x : Int) (ha2 : 0 ≤ a ∧ a < sN S) (hk2 : 2 ≤ k), ((cfW x b).length + t = (cfW (sNu S a.toNat).1 (sNu S a.toNat).2.toNat).length) → (∀ j : Nat, (cfW x b)[j]? = (cfW (sNu S a.toNat).1 (sNu S a.toNat).2.toNat)[t + j]?) → (b ≤ 1073741824) → (-1073741824 ≤ x ∧ x ≤ 1073741824) → (cfB t x b) → (k ≤ 2 ∨ (t : Int) + 3 ≤ k) → b < fuel → Wk w d cd_X12_numberOf 62 [(7, aJ ((t : Int))), (5, aJ ((b : Int))), (3, aJ x), (0, aO (some o)), (1, aI a), (2, aI k)] [] (hw h (vset V o 31 0)) (RJ (fun r h1 => h1 = hw h (vset V o 31 0) ∧ r = spNO S a k)) := by
    intro fuel
    induction fuel with
    | zero => intros; omega
    | succ fuel ih62 =>
      intro t b x ha2 hk2 hlen hg hb hx ht hkt hfuel
      refine g_lload rfl rfl ?_
      refine g_lconst0 rfl ?_
      refine g_lc_eq rfl rfl (fun c65 => ?_) (fun c65 => ?_)
      · skip
        refine g_iload_n rfl rfl ?_
        refine g_iconst rfl ?_
        refine g_icmp_ne rfl (fun c119 => ?_) (fun c119 => ?_)
        · skip
          refine g_lconst0 rfl ?_
          refine g_lret rfl ?_
          refine ⟨rfl, ?_⟩
          unfold spNO
          first
            | (rw [if_neg (by omega)]; done)
            | (rw [if_pos (by omega), if_pos (by omega)]; done)
            | (rw [if_pos (by omega), if_neg (by omega), if_pos (by omega)]; done)
            | (rw [if_pos (by omega), if_neg (by omega), if_neg (by omega), if_neg (by omega)]; exact cf_hd hg (by omega) (by omega))
            | (have hz : b = 0 := by omega
               subst hz
               rw [cfW_0] at hlen
               simp only [List.length_nil] at hlen
               rw [if_pos (by omega), if_neg (by omega), if_neg (by omega), if_pos (by omega)]
               omega)
            | (have hz : b = 0 := by omega
               subst hz
               rw [cfW_0] at hlen
               simp only [List.length_nil] at hlen
               rw [if_pos (by omega), if_neg (by omega), if_neg (by omega), if_neg (by omega), List.getD_eq_getElem?_getD, List.getElem?_eq_none (by omega)]
               rfl)
        · skip
          refine g_lload rfl rfl ?_
          refine g_goto rfl ?_
          refine g_lret rfl ?_
          refine ⟨rfl, ?_⟩
          unfold spNO
          first
            | (rw [if_neg (by omega)]; done)
            | (rw [if_pos (by omega), if_pos (by omega)]; done)
            | (rw [if_pos (by omega), if_neg (by omega), if_pos (by omega)]; done)
            | (rw [if_pos (by omega), if_neg (by omega), if_neg (by omega), if_neg (by omega)]; exact cf_hd hg (by omega) (by omega))
            | (have hz : b = 0 := by omega
               subst hz
               rw [cfW_0] at hlen
               simp only [List.length_nil] at hlen
               rw [if_pos (by omega), if_neg (by omega), if_neg (by omega), if_pos (by omega)]
               omega)
            | (have hz : b = 0 := by omega
               subst hz
               rw [cfW_0] at hlen
               simp only [List.length_nil] at hlen
               rw [if_pos (by omega), if_neg (by omega), if_neg (by omega), if_neg (by omega), List.getD_eq_getElem?_getD, List.getElem?_eq_none (by omega)]
               rfl)
      · skip
        have ht64 : t < 64 := by
          rcases Nat.lt_or_ge t 64 with q | q
          · exact q
          · exact absurd (ht.end q) (by omega)
        refine g_lload_n rfl rfl ?_
        refine g_lload rfl rfl ?_
        refine g_callSJ [aJ x, aJ ((b : Int))] [] rfl rfl rfl rfl (Nat.le_of_ble_eq_true rfl) (c_floor (by omega) x ((b : Int)) (by omega) (by omega) _) ?_
        rintro _ _ ⟨rfl, rfl⟩
        refine g_lstore (l1 := [(9, aJ ((x / ((b : Int))))), (7, aJ ((t : Int))), (5, aJ ((b : Int))), (3, aJ x), (0, aO (some o)), (1, aI a), (2, aI k)]) rfl rfl ?_
        refine g_iload_n rfl rfl ?_
        refine g_i2l rfl ?_
        refine g_lload rfl rfl ?_
        refine g_ldc2 rfl ?_
        refine g_ladd rfl (by omega) (by omega) ?_
        refine g_lc_ne rfl rfl (fun c85 => ?_) (fun c85 => ?_)
        · skip
          refine g_lload rfl rfl ?_
          refine g_lconst1 rfl ?_
          refine g_ladd rfl (by omega) (by omega) ?_
          refine g_lstore (l1 := [(7, aJ (((t : Int)) + 1)), (9, aJ ((x / ((b : Int))))), (5, aJ ((b : Int))), (3, aJ x), (0, aO (some o)), (1, aI a), (2, aI k)]) rfl rfl ?_
          have e1 : x / (b : Int) * b + x % (b : Int) = x := by rw [Int.mul_comm]; exact Int.mul_ediv_add_emod x b
          have e2 := Int.emod_nonneg x (show (b : Int) ≠ 0 by omega)
          have e3 := Int.emod_lt_of_pos x (show (0 : Int) < b by omega)
          refine g_lload_n rfl rfl ?_
          refine g_lload rfl rfl ?_
          refine g_lload rfl rfl ?_
          refine g_lmul rfl (by omega) (by omega) ?_
          refine g_lsub rfl (by omega) (by omega) ?_
          refine g_top (v2 := aJ ((((x % (b : Int)).toNat : Nat) : Int))) (congrArg aJ (by omega)) ?_
          refine g_lstore (l1 := [(11, aJ ((((x % (b : Int)).toNat : Nat) : Int))), (7, aJ (((t : Int)) + 1)), (9, aJ ((x / ((b : Int))))), (5, aJ ((b : Int))), (3, aJ x), (0, aO (some o)), (1, aI a), (2, aI k)]) rfl rfl ?_
          refine g_lload rfl rfl ?_
          refine g_lstore_n (l1 := [(3, aJ ((b : Int))), (11, aJ ((((x % (b : Int)).toNat : Nat) : Int))), (7, aJ (((t : Int)) + 1)), (9, aJ ((x / ((b : Int))))), (5, aJ ((b : Int))), (0, aO (some o)), (1, aI a), (2, aI k)]) rfl rfl ?_
          refine g_lload rfl rfl ?_
          refine g_lstore (l1 := [(5, aJ ((((x % (b : Int)).toNat : Nat) : Int))), (3, aJ ((b : Int))), (11, aJ ((((x % (b : Int)).toNat : Nat) : Int))), (7, aJ (((t : Int)) + 1)), (9, aJ ((x / ((b : Int))))), (0, aO (some o)), (1, aI a), (2, aI k)]) rfl rfl ?_
          refine g_goto rfl ?_
          refine g_ls [3, 0, 1, 5, 6, 7] rfl rfl ?_
          exact ih62 (t + 1) (x % (b : Int)).toNat (b : Int) ha2 hk2 (by rw [cfW_s x (show b ≠ 0 by omega)] at hlen; simp only [List.length_cons] at hlen; omega) (by exact cf_tl hg (by omega)) (by have := emod_lt_nat x (show b ≠ 0 by omega); omega) (by omega) (by exact ht.next (by omega) hb) (by omega) (by have := emod_lt_nat x (show b ≠ 0 by omega); omega)
        · skip
          refine g_lload rfl rfl ?_
          refine g_lret rfl ?_
          refine ⟨rfl, ?_⟩
          unfold spNO
          first
            | (rw [if_neg (by omega)]; done)
            | (rw [if_pos (by omega), if_pos (by omega)]; done)
            | (rw [if_pos (by omega), if_neg (by omega), if_pos (by omega)]; done)
            | (rw [if_pos (by omega), if_neg (by omega), if_neg (by omega), if_neg (by omega)]; exact cf_hd hg (by omega) (by omega))
            | (have hz : b = 0 := by omega
               subst hz
               rw [cfW_0] at hlen
               simp only [List.length_nil] at hlen
               rw [if_pos (by omega), if_neg (by omega), if_neg (by omega), if_pos (by omega)]
               omega)
            | (have hz : b = 0 := by omega
               subst hz
               rw [cfW_0] at hlen
               simp only [List.length_nil] at hlen
               rw [if_pos (by omega), if_neg (by omega), if_neg (by omega), if_neg (by omega), List.getD_eq_getElem?_getD, List.getElem?_eq_none (by omega)]
               rfl)
  refine g_aload_n rfl rfl ?_
  refine g_iconst rfl ?_
  refine g_putI rfl ms.1 ?_
  refine g_aload_n rfl rfl ?_
  refine g_iload_n rfl rfl ?_
  refine g_callVI [aI a] [] rfl rfl rfl rfl (Nat.le_of_ble_eq_true rfl) ms.1 (m_isN (by omega) ms ((vset V o 31 0)) mn2 ok a) ?_
  rintro _ _ ⟨rfl, rfl⟩
  refine g_b_eq rfl (fun c10 => ?_) (fun c10 => ?_)
  · skip
    refine g_lconst0 rfl ?_
    refine g_lret rfl ?_
    refine ⟨rfl, ?_⟩
    unfold spNO
    first
      | (rw [if_neg (by omega)]; done)
      | (rw [if_pos (by omega), if_pos (by omega)]; done)
      | (rw [if_pos (by omega), if_neg (by omega), if_pos (by omega)]; done)
      | (rw [if_pos (by omega), if_neg (by omega), if_neg (by omega), if_neg (by omega)]; exact cf_hd hg (by omega) (by omega))
      | (have hz : b = 0 := by omega
         subst hz
         rw [cfW_0] at hlen
         simp only [List.length_nil] at hlen
         rw [if_pos (by omega), if_neg (by omega), if_neg (by omega), if_pos (by omega)]
         omega)
      | (have hz : b = 0 := by omega
         subst hz
         rw [cfW_0] at hlen
         simp only [List.length_nil] at hlen
         rw [if_pos (by omega), if_neg (by omega), if_neg (by omega), if_neg (by omega), List.getD_eq_getElem?_getD, List.getElem?_eq_none (by omega)]
         rfl)
  · skip
    refine g_iload_n rfl rfl ?_
    refine g_if_ge rfl (fun c14 => ?_) (fun c14 => ?_)
    · skip
      refine g_iload_n rfl rfl ?_
      refine g_iconst rfl ?_
      refine g_icmp_ge rfl (fun c21 => ?_) (fun c21 => ?_)
      · skip
        refine g_aload_n rfl rfl ?_
        refine g_getR rfl ms.1 (mr_upper ms) ?_
        refine g_iload_n rfl rfl ?_
        refine g_lald (i := a.toNat) rfl (mt_upper ms) (by omega) (by omega) ?_
        refine g_top (v2 := aJ ((sNu S (a.toNat)).1)) (congrArg aJ (by exact (mn2.2 _ (by omega)).1)) ?_
        refine g_lstore_n (l1 := [(3, aJ ((sNu S (a.toNat)).1)), (0, aO (some o)), (1, aI a), (2, aI k)]) rfl rfl ?_
        refine g_aload_n rfl rfl ?_
        refine g_getR rfl ms.1 (mr_lower ms) ?_
        refine g_iload_n rfl rfl ?_
        refine g_lald (i := a.toNat) rfl (mt_lower ms) (by omega) (by omega) ?_
        refine g_top (v2 := aJ ((sNu S (a.toNat)).2)) (congrArg aJ (by exact (mn2.2 _ (by omega)).2)) ?_
        have hp := ok.at (a := a) (by omega)
        refine g_top (v2 := aJ ((((sNu S a.toNat).2.toNat : Nat) : Int))) (congrArg aJ (by omega)) ?_
        refine g_lstore (l1 := [(5, aJ ((((sNu S a.toNat).2.toNat : Nat) : Int))), (3, aJ ((sNu S (a.toNat)).1)), (0, aO (some o)), (1, aI a), (2, aI k)]) rfl rfl ?_
        refine g_lconst0 rfl ?_
        refine g_lstore (l1 := [(7, aJ 0), (5, aJ ((((sNu S a.toNat).2.toNat : Nat) : Int))), (3, aJ ((sNu S (a.toNat)).1)), (0, aO (some o)), (1, aI a), (2, aI k)]) rfl rfl ?_
        exact l62 _ 0 (sNu S a.toNat).2.toNat (sNu S a.toNat).1 (by omega) (by omega) (by rfl) (by intro j; rw [Nat.zero_add]) (by omega) (by omega) (by exact Or.inl rfl) (by omega) (Nat.lt_succ_self _)
      · skip
        refine g_iload_n rfl rfl ?_
        refine g_if_ne rfl (fun c25 => ?_) (fun c25 => ?_)
        · skip
          refine g_aload_n rfl rfl ?_
          refine g_getR rfl ms.1 (mr_lower ms) ?_
          refine g_iload_n rfl rfl ?_
          refine g_lald (i := a.toNat) rfl (mt_lower ms) (by omega) (by omega) ?_
          refine g_top (v2 := aJ ((sNu S (a.toNat)).2)) (congrArg aJ (by exact (mn2.2 _ (by omega)).2)) ?_
          refine g_lret rfl ?_
          refine ⟨rfl, ?_⟩
          unfold spNO
          first
            | (rw [if_neg (by omega)]; done)
            | (rw [if_pos (by omega), if_pos (by omega)]; done)
            | (rw [if_pos (by omega), if_neg (by omega), if_pos (by omega)]; done)
            | (rw [if_pos (by omega), if_neg (by omega), if_neg (by omega), if_neg (by omega)]; exact cf_hd hg (by omega) (by omega))
            | (have hz : b = 0 := by omega
               subst hz
               rw [cfW_0] at hlen
               simp only [List.length_nil] at hlen
               rw [if_pos (by omega), if_neg (by omega), if_neg (by omega), if_pos (by omega)]
               omega)
            | (have hz : b = 0 := by omega
               subst hz
               rw [cfW_0] at hlen
               simp only [List.length_nil] at hlen
               rw [if_pos (by omega), if_neg (by omega), if_neg (by omega), if_neg (by omega), List.getD_eq_getElem?_getD, List.getElem?_eq_none (by omega)]
               rfl)
        · skip
          refine g_aload_n rfl rfl ?_
          refine g_getR rfl ms.1 (mr_upper ms) ?_
          refine g_iload_n rfl rfl ?_
          refine g_lald (i := a.toNat) rfl (mt_upper ms) (by omega) (by omega) ?_
          refine g_top (v2 := aJ ((sNu S (a.toNat)).1)) (congrArg aJ (by exact (mn2.2 _ (by omega)).1)) ?_
          refine g_goto rfl ?_
          refine g_lret rfl ?_
          refine ⟨rfl, ?_⟩
          unfold spNO
          first
            | (rw [if_neg (by omega)]; done)
            | (rw [if_pos (by omega), if_pos (by omega)]; done)
            | (rw [if_pos (by omega), if_neg (by omega), if_pos (by omega)]; done)
            | (rw [if_pos (by omega), if_neg (by omega), if_neg (by omega), if_neg (by omega)]; exact cf_hd hg (by omega) (by omega))
            | (have hz : b = 0 := by omega
               subst hz
               rw [cfW_0] at hlen
               simp only [List.length_nil] at hlen
               rw [if_pos (by omega), if_neg (by omega), if_neg (by omega), if_pos (by omega)]
               omega)
            | (have hz : b = 0 := by omega
               subst hz
               rw [cfW_0] at hlen
               simp only [List.length_nil] at hlen
               rw [if_pos (by omega), if_neg (by omega), if_neg (by omega), if_neg (by omega), List.getD_eq_getElem?_getD, List.getElem?_eq_none (by omega)]
               rfl)
    · skip
      refine g_lconst0 rfl ?_
      refine g_lret rfl ?_
      refine ⟨rfl, ?_⟩
      unfold spNO
      first
        | (rw [if_neg (by omega)]; done)
        | (rw [if_pos (by omega), if_pos (by omega)]; done)
        | (rw [if_pos (by omega), if_neg (by omega), if_pos (by omega)]; done)
        | (rw [if_pos (by omega), if_neg (by omega), if_neg (by omega), if_neg (by omega)]; exact cf_hd hg (by omega) (by omega))
        | (have hz : b = 0 := by omega
           subst hz
           rw [cfW_0] at hlen
           simp only [List.length_nil] at hlen
           rw [if_pos (by omega), if_neg (by omega), if_neg (by omega), if_pos (by omega)]
           omega)
        | (have hz : b = 0 := by omega
           subst hz
           rw [cfW_0] at hlen
           simp only [List.length_nil] at hlen
           rw [if_pos (by omega), if_neg (by omega), if_neg (by omega), if_neg (by omega), List.getD_eq_getElem?_getD, List.getElem?_eq_none (by omega)]
           rfl)
