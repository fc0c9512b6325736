/-! the class's terms of a number: printed by wip/whole/s73.py -/
theorem emod_lt_nat (n : Int) {d : Nat} (hd : d ≠ 0) : (n % (d : Int)).toNat < d := by
  have h1 := Int.emod_nonneg n (show (d : Int) ≠ 0 by omega)
  have h2 := Int.emod_lt_of_pos n (show (0 : Int) < d by omega)
  omega
/-- the terms of a number -/
def cfW (n : Int) (d : Nat) : List Int := if h : d = 0 then [] else n / (d : Int) :: cfW d (n % (d : Int)).toNat
termination_by d
decreasing_by exact emod_lt_nat n h
theorem cfW_0 (n : Int) : cfW n 0 = [] := by rw [cfW, dif_pos rfl]
theorem cfW_s (n : Int) {d : Nat} (h : d ≠ 0) : cfW n d = n / (d : Int) :: cfW d (n % (d : Int)).toNat := by rw [cfW, dif_neg h]
def cfB (t : Nat) (x : Int) (b : Nat) : Prop := t = 0 ∨ ((b : Int) ≤ x ∧ x.toNat * b * 2 ^ t ≤ 2 ^ 62)
theorem cfB.next {t b : Nat} {x : Int} (h : cfB t x b) (hb0 : b ≠ 0) (hb : b ≤ 1073741824) : cfB (t + 1) (b : Int) (x % (b : Int)).toNat := by
  have hm := emod_lt_nat x hb0
  refine Or.inr ⟨by omega, ?_⟩
  rw [Int.toNat_natCast]
  rcases h with rfl | ⟨h1, h2⟩
  · have h3 : b * (x % (b : Int)).toNat ≤ 1073741824 * 1073741824 := Nat.mul_le_mul hb (by omega)
    omega
  · obtain ⟨n, rfl⟩ : ∃ n : Nat, x = n := ⟨x.toNat, by omega⟩
    rw [Int.toNat_natCast] at h2
    have e : ((n : Int) % (b : Int)).toNat = n % b := by omega
    rw [e]
    have h3 := gcd_half (a := n) (b := b) (by omega) (by omega)
    have h4 : b * (n % b) * 2 ^ (t + 1) = 2 * (b * (n % b)) * 2 ^ t := by rw [Nat.pow_succ]; ac_rfl
    rw [h4]
    exact Nat.le_trans (Nat.mul_le_mul_right _ h3) h2
theorem cfB.end {t b : Nat} {x : Int} (h : cfB t x b) (ht : 64 ≤ t) : b = 0 := by
  rcases h with rfl | ⟨h1, h2⟩
  · omega
  · by_cases q : b = 0
    · exact q
    · exfalso
      have h3 : 1 ≤ x.toNat * b := Nat.mul_pos (by omega) (by omega)
      have h4 : 2 ^ 64 ≤ 2 ^ t := Nat.pow_le_pow_right (by decide) ht
      have h5 := Nat.mul_le_mul h3 h4
      have h6 : (2 : Nat) ^ 62 < 1 * 2 ^ 64 := by decide
      omega
theorem x_has1 {w : aW} {d : Nat} (hd : 1 ≤ d) {h : aH} {c : Nat} (cs : CS h c) (V : Nat → Nat → Int) {S : aS} (xn : XN V c S) (ok : OkN S) (a : Int) (ha : 0 ≤ a ∧ a < sN S) : WP w d 20 [aO (some (c + 3)), aI a] (hw h V) (RI (fun v h1 => h1 = hw h V ∧ v = 1)) := by
  refine (x_has hd cs V (sN S) xn.1 ok.1 a).imp ?_
  rintro _ h1 ⟨r, rfl, rfl, q⟩
  exact ⟨r, rfl, rfl, by rw [q, if_pos ha]⟩
theorem x_has0 {w : aW} {d : Nat} (hd : 1 ≤ d) {h : aH} {c : Nat} (cs : CS h c) (V : Nat → Nat → Int) {S : aS} (xn : XN V c S) (ok : OkN S) (a : Int) (ha : ¬(0 ≤ a ∧ a < sN S)) : WP w d 20 [aO (some (c + 3)), aI a] (hw h V) (RI (fun v h1 => h1 = hw h V ∧ v = 0)) := by
  refine (x_has hd cs V (sN S) xn.1 ok.1 a).imp ?_
  rintro _ h1 ⟨r, rfl, rfl, q⟩
  exact ⟨r, rfl, rfl, by rw [q, if_neg ha]⟩
theorem x_up0 {w : aW} {d : Nat} (hd : 2 ≤ d) {h : aH} {c : Nat} (cs : CS h c) (V : Nat → Nat → Int) {S : aS} (xn : XN V c S) (ok : OkN S) (a : Int) (ha : ¬(0 ≤ a ∧ a < sN S)) : WP w d 21 [aO (some (c + 3)), aI a] (hw h V) (RJ (fun v h1 => h1 = hw h V ∧ v = 0)) := by
  refine (x_upOf hd cs V (sN S) xn.1 ok.1 a).imp ?_
  rintro _ h1 ⟨r, rfl, rfl, q⟩
  exact ⟨r, rfl, rfl, by rw [q, if_neg ha]⟩
theorem x_downN {w : aW} {d : Nat} (hd : 2 ≤ d) {h : aH} {c : Nat} (cs : CS h c) (V : Nat → Nat → Int) {S : aS} (xn : XN V c S) (ok : OkN S) (a : Int) (ha : 0 ≤ a ∧ a < sN S) (b0 : Nat) (hb0 : (sNu S a.toNat).2 = b0) : WP w d 22 [aO (some (c + 3)), aI a] (hw h V) (RJ (fun v h1 => h1 = hw h V ∧ v = (b0 : Int))) := by
  rw [← hb0]
  exact x_downS hd cs V xn ok a ha
theorem x_many {w : aW} {d : Nat} (hd : 4 ≤ d) {h : aH} {c : Nat} (cs : CS h c) (V : Nat → Nat → Int) {S : aS} (xn : XN V c S) (ok : OkN S) (a : Int) (ha : 0 ≤ a ∧ a < sN S) : WP w d 35 [aO (some (c + 3)), aI a] (hw h V) (RI (fun r h1 => h1 = hw h V ∧ r = ((cfW (sNu S a.toNat).1 (sNu S a.toNat).2.toNat).length : Nat))) := by
  obtain ⟨d, rfl⟩ : ∃ d1, d = d1 + 1 := ⟨d - 1, by omega⟩
  refine WP.enter (cd := cd_X1_howManyTerms) rfl ?_
  have hp := ok.at ha
  obtain ⟨b0, hb0⟩ : ∃ b0 : Nat, (sNu S a.toNat).2 = b0 := ⟨(sNu S a.toNat).2.toNat, by omega⟩
  have e0 : (sNu S a.toNat).2.toNat = b0 := by omega
  have hls : largs 0 [aO (some (c + 3)), aI a] = [(0, aO (some (c + 3))), (1, aI a)] := rfl
  rw [hls]
  clear hls
  have l28 : ∀ (fuel : Nat) (t b : Nat) (x : Int), ((cfW x b).length + t = (cfW (sNu S a.toNat).1 b0).length) → (b ≤ 1073741824) → (-1073741824 ≤ x ∧ x ≤ 1073741824) → (cfB t x b) → b < fuel → Wk w d cd_X1_howManyTerms 28 [(6, aI ((t : Int))), (4, aJ ((b : Int))), (2, aJ x), (0, aO (some (c + 3))), (1, aI a)] [] (hw h V) (RI (fun r h1 => h1 = hw h V ∧ r = ((cfW (sNu S a.toNat).1 (sNu S a.toNat).2.toNat).length : Nat))) := by
    intro fuel
    induction fuel with
    | zero => intros; omega
    | succ fuel ih28 =>
      intro t b x hlen hb hx ht hfuel
      refine g_iload rfl rfl ?_
      refine g_bipush rfl ?_
      refine g_icmp_ge rfl (fun c32 => ?_) (fun c32 => ?_)
      · skip
        refine g_iload rfl rfl ?_
        refine g_iret rfl ?_
        have hz : b = 0 := by first | omega | exact ht.end (by omega)
        subst hz
        rw [cfW_0] at hlen
        refine ⟨rfl, ?_⟩
        simp at hlen
        rw [e0]
        omega
      · skip
        refine g_lload rfl rfl ?_
        refine g_lconst0 rfl ?_
        refine g_lc_eq rfl rfl (fun c38 => ?_) (fun c38 => ?_)
        · skip
          refine g_iload rfl rfl ?_
          refine g_iret rfl ?_
          have hz : b = 0 := by first | omega | exact ht.end (by omega)
          subst hz
          rw [cfW_0] at hlen
          refine ⟨rfl, ?_⟩
          simp at hlen
          rw [e0]
          omega
        · skip
          refine g_lload_n rfl rfl ?_
          refine g_lload rfl rfl ?_
          refine g_callSJ [aJ x, aJ ((b : Int))] [] rfl rfl rfl rfl (Nat.le_of_ble_eq_true rfl) (c_floorMod (by omega) x ((b : Int)) (by omega) (by omega) _) ?_
          rintro _ _ ⟨rfl, rfl⟩
          refine g_top (v2 := aJ ((((x % (b : Int)).toNat : Nat) : Int))) (congrArg aJ (by rw [Int.toNat_of_nonneg (Int.emod_nonneg _ (by omega))])) ?_
          refine g_lstore (l1 := [(7, aJ ((((x % (b : Int)).toNat : Nat) : Int))), (6, aI ((t : Int))), (4, aJ ((b : Int))), (2, aJ x), (0, aO (some (c + 3))), (1, aI a)]) rfl rfl ?_
          refine g_lload rfl rfl ?_
          refine g_lstore_n (l1 := [(2, aJ ((b : Int))), (7, aJ ((((x % (b : Int)).toNat : Nat) : Int))), (6, aI ((t : Int))), (4, aJ ((b : Int))), (0, aO (some (c + 3))), (1, aI a)]) rfl rfl ?_
          refine g_lload rfl rfl ?_
          refine g_lstore (l1 := [(4, aJ ((((x % (b : Int)).toNat : Nat) : Int))), (2, aJ ((b : Int))), (7, aJ ((((x % (b : Int)).toNat : Nat) : Int))), (6, aI ((t : Int))), (0, aO (some (c + 3))), (1, aI a)]) rfl rfl ?_
          refine g_iinc (l1 := [(6, aI ((t : Int) + 1)), (4, aJ ((((x % (b : Int)).toNat : Nat) : Int))), (2, aJ ((b : Int))), (7, aJ ((((x % (b : Int)).toNat : Nat) : Int))), (0, aO (some (c + 3))), (1, aI a)]) rfl rfl (by omega) (by omega) rfl ?_
          refine g_goto rfl ?_
          refine g_ls [0, 1, 2, 4, 5] rfl rfl ?_
          exact ih28 (t + 1) (x % (b : Int)).toNat (b : Int) (by rw [cfW_s x (show b ≠ 0 by omega)] at hlen; simp only [List.length_cons] at hlen; omega) (by have := emod_lt_nat x (show b ≠ 0 by omega); omega) (by omega) (by exact ht.next (by omega) hb) (by have := emod_lt_nat x (show b ≠ 0 by omega); omega)
  refine g_aload_n rfl rfl ?_
  refine g_iload_n rfl rfl ?_
  refine g_callVJ [aI a] [] rfl rfl rfl rfl (Nat.le_of_ble_eq_true rfl) (cs.kd 3 (by omega) rfl) (x_upS (by omega) cs V xn ok a (by omega)) ?_
  rintro _ _ ⟨rfl, rfl⟩
  refine g_lstore_n (l1 := [(2, aJ ((sNu S (a).toNat).1)), (0, aO (some (c + 3))), (1, aI a)]) rfl rfl ?_
  refine g_aload_n rfl rfl ?_
  refine g_iload_n rfl rfl ?_
  refine g_callVI [aI a] [] rfl rfl rfl rfl (Nat.le_of_ble_eq_true rfl) (cs.kd 3 (by omega) rfl) (x_has1 (by omega) cs V xn ok a (by omega)) ?_
  rintro _ _ ⟨rfl, rfl⟩
  refine g_if_eq_f rfl (by omega) ?_
  refine g_aload_n rfl rfl ?_
  refine g_iload_n rfl rfl ?_
  refine g_callVJ [aI a] [] rfl rfl rfl rfl (Nat.le_of_ble_eq_true rfl) (cs.kd 3 (by omega) rfl) (x_downN (by omega) cs V xn ok a (by omega) b0 hb0) ?_
  rintro _ _ ⟨rfl, rfl⟩
  refine g_goto rfl ?_
  refine g_lstore (l1 := [(4, aJ ((b0 : Int))), (2, aJ ((sNu S (a).toNat).1)), (0, aO (some (c + 3))), (1, aI a)]) rfl rfl ?_
  refine g_iconst rfl ?_
  refine g_istore (l1 := [(6, aI 0), (4, aJ ((b0 : Int))), (2, aJ ((sNu S (a).toNat).1)), (0, aO (some (c + 3))), (1, aI a)]) rfl rfl ?_
  exact l28 _ 0 b0 (sNu S a.toNat).1 (by rfl) (by omega) (by omega) (by exact Or.inl rfl) (Nat.lt_succ_self _)
theorem x_many0 {w : aW} {d : Nat} (hd : 4 ≤ d) {h : aH} {c : Nat} (cs : CS h c) (V : Nat → Nat → Int) {S : aS} (xn : XN V c S) (ok : OkN S) (a : Int) (ha : ¬(0 ≤ a ∧ a < sN S)) : WP w d 35 [aO (some (c + 3)), aI a] (hw h V) (RI (fun r h1 => h1 = hw h V ∧ r = 0)) := by
  obtain ⟨d, rfl⟩ : ∃ d1, d = d1 + 1 := ⟨d - 1, by omega⟩
  refine WP.enter (cd := cd_X1_howManyTerms) rfl ?_
  have hls : largs 0 [aO (some (c + 3)), aI a] = [(0, aO (some (c + 3))), (1, aI a)] := rfl
  rw [hls]
  clear hls
  refine g_aload_n rfl rfl ?_
  refine g_iload_n rfl rfl ?_
  refine g_callVJ [aI a] [] rfl rfl rfl rfl (Nat.le_of_ble_eq_true rfl) (cs.kd 3 (by omega) rfl) (x_up0 (by omega) cs V xn ok a (by omega)) ?_
  rintro _ _ ⟨rfl, rfl⟩
  refine g_lstore_n (l1 := [(2, aJ ((0 : Int))), (0, aO (some (c + 3))), (1, aI a)]) rfl rfl ?_
  refine g_aload_n rfl rfl ?_
  refine g_iload_n rfl rfl ?_
  refine g_callVI [aI a] [] rfl rfl rfl rfl (Nat.le_of_ble_eq_true rfl) (cs.kd 3 (by omega) rfl) (x_has0 (by omega) cs V xn ok a (by omega)) ?_
  rintro _ _ ⟨rfl, rfl⟩
  refine g_if_eq_t rfl (by omega) ?_
  refine g_lconst0 rfl ?_
  refine g_lstore (l1 := [(4, aJ 0), (2, aJ ((0 : Int))), (0, aO (some (c + 3))), (1, aI a)]) rfl rfl ?_
  refine g_iconst rfl ?_
  refine g_istore (l1 := [(6, aI 0), (4, aJ 0), (2, aJ ((0 : Int))), (0, aO (some (c + 3))), (1, aI a)]) rfl rfl ?_
  refine g_iload rfl rfl ?_
  refine g_bipush rfl ?_
  refine g_icmp_ge_f rfl (by omega) ?_
  refine g_lload rfl rfl ?_
  refine g_lconst0 rfl ?_
  refine g_lc_eq_t rfl rfl (by omega) ?_
  refine g_iload rfl rfl ?_
  refine g_iret rfl ?_
  exact ⟨rfl, rfl⟩
