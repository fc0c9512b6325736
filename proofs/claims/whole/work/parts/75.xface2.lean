/-! the class's face: compare, numberOf: printed by wip/whole/s75.py -/
def spCmp (S : aS) (a b : Int) : Int := if (0 ≤ a ∧ a < sN S) ∧ (0 ≤ b ∧ b < sN S) then ordF (sNu S a.toNat) (sNu S b.toNat) else -9
def spNO (S : aS) (a k : Int) : Int := if (0 ≤ a ∧ a < sN S) ∧ 0 ≤ k then (if k = 0 then (sNu S a.toNat).1 else if k = 1 then (sNu S a.toNat).2 else if k = 2 then ((cfW (sNu S a.toNat).1 (sNu S a.toNat).2.toNat).length : Nat) else (cfW (sNu S a.toNat).1 (sNu S a.toNat).2.toNat).getD (k - 3).toNat 0) else 0
theorem x_compare {w : aW} {d : Nat} (hd : 5 ≤ d) {h : aH} {c : Nat} (cs : CS h c) (V : Nat → Nat → Int) {S : aS} (xn : XN V c S) (ok : OkN S) (a b : Int) : WP w d 202 [aO (some c), aI a, aI b] (hw h V) (RI (fun r h1 => h1 = hw h V ∧ r = spCmp S a b)) := by
  obtain ⟨d, rfl⟩ : ∃ d1, d = d1 + 1 := ⟨d - 1, by omega⟩
  refine WP.enter (cd := cd_X11_compare) rfl ?_
  have hls : largs 0 [aO (some c), aI a, aI b] = [(0, aO (some c)), (1, aI a), (2, aI b)] := rfl
  rw [hls]
  clear hls
  refine g_aload_n rfl rfl ?_
  refine g_getR rfl (cs.kd 0 (by omega) rfl) (cs.rf 4 (by omega) rfl) ?_
  refine g_iload_n rfl rfl ?_
  refine g_callVI [aI a] [] rfl rfl rfl rfl (Nat.le_of_ble_eq_true rfl) (cs.kd 3 (by omega) rfl) (x_has (by omega) cs V (sN S) xn.1 ok.1 a) ?_
  rintro _ _ ⟨rfl, rfl⟩
  refine g_b_eq rfl (fun c8 => ?_) (fun c8 => ?_)
  · skip
    refine g_bipush rfl ?_
    refine g_iret rfl ?_
    refine ⟨rfl, ?_⟩
    unfold spCmp
    first
      | (rw [if_pos (by omega)])
      | (rw [if_neg (by omega)])
  · skip
    refine g_aload_n rfl rfl ?_
    refine g_getR rfl (cs.kd 0 (by omega) rfl) (cs.rf 4 (by omega) rfl) ?_
    refine g_iload_n rfl rfl ?_
    refine g_callVI [aI b] [] rfl rfl rfl rfl (Nat.le_of_ble_eq_true rfl) (cs.kd 3 (by omega) rfl) (x_has (by omega) cs V (sN S) xn.1 ok.1 b) ?_
    rintro _ _ ⟨rfl, rfl⟩
    refine g_b_ne rfl (fun c19 => ?_) (fun c19 => ?_)
    · skip
      refine g_aload_n rfl rfl ?_
      refine g_getR rfl (cs.kd 0 (by omega) rfl) (cs.rf 4 (by omega) rfl) ?_
      refine g_iload_n rfl rfl ?_
      refine g_iload_n rfl rfl ?_
      refine g_callVI [aI a, aI b] [] rfl rfl rfl rfl (Nat.le_of_ble_eq_true rfl) (cs.kd 3 (by omega) rfl) (x_orderN (by omega) cs V xn ok a b (by omega) (by omega)) ?_
      rintro _ _ ⟨rfl, rfl⟩
      refine g_iret rfl ?_
      refine ⟨rfl, ?_⟩
      unfold spCmp
      first
        | (rw [if_pos (by omega)])
        | (rw [if_neg (by omega)])
    · skip
      refine g_bipush rfl ?_
      refine g_iret rfl ?_
      refine ⟨rfl, ?_⟩
      unfold spCmp
      first
        | (rw [if_pos (by omega)])
        | (rw [if_neg (by omega)])
theorem x_numberOf1 {w : aW} {d : Nat} (hd : 8 ≤ d) {h : aH} {c : Nat} (cs : CS h c) (V : Nat → Nat → Int) {S : aS} (xn : XN V c S) (ok : OkN S) (a : Int) (ha : 0 ≤ a ∧ a < sN S) (k : Int) (hk : -2147483648 ≤ k ∧ k < 2147483648) : WP w d 203 [aO (some c), aI a, aI k] (hw h V) (RJ (fun r h1 => h1 = hw h V ∧ r = spNO S a k)) := by
  obtain ⟨d, rfl⟩ : ∃ d1, d = d1 + 1 := ⟨d - 1, by omega⟩
  refine WP.enter (cd := cd_X11_numberOf) rfl ?_
  have hls : largs 0 [aO (some c), aI a, aI k] = [(0, aO (some c)), (1, aI a), (2, aI k)] := rfl
  rw [hls]
  clear hls
  refine g_iload_n rfl rfl ?_
  refine g_if_ne rfl (fun c1 => ?_) (fun c1 => ?_)
  · skip
    refine g_iload_n rfl rfl ?_
    refine g_iconst rfl ?_
    refine g_icmp_ne rfl (fun c15 => ?_) (fun c15 => ?_)
    · skip
      refine g_iload_n rfl rfl ?_
      refine g_iconst rfl ?_
      refine g_icmp_ne rfl (fun c44 => ?_) (fun c44 => ?_)
      · skip
        refine g_iload_n rfl rfl ?_
        refine g_if_ge rfl (fun c58 => ?_) (fun c58 => ?_)
        · skip
          refine g_aload_n rfl rfl ?_
          refine g_getR rfl (cs.kd 0 (by omega) rfl) (cs.rf 4 (by omega) rfl) ?_
          refine g_iload_n rfl rfl ?_
          refine g_iload_n rfl rfl ?_
          refine g_iconst rfl ?_
          refine g_isub rfl (by omega) (by omega) ?_
          refine g_callVJ [aI a, aI (k - 3)] [] rfl rfl rfl rfl (Nat.le_of_ble_eq_true rfl) (cs.kd 3 (by omega) rfl) (x_term1 (by omega) cs V xn ok a (by omega) (k - 3) (by omega)) ?_
          rintro _ _ ⟨rfl, rfl⟩
          refine g_lret rfl ?_
          refine ⟨rfl, ?_⟩
          unfold spNO
          first
            | (rw [if_pos (show 0 ≤ k - 3 by omega), if_pos (by omega), if_neg (by omega), if_neg (by omega), if_neg (by omega)]; done)
            | (rw [if_neg (by omega)]; done)
            | (rw [if_pos (by omega), if_pos (by omega)]; done)
            | (rw [if_pos (by omega), if_neg (by omega), if_pos (by omega)])
            | (rw [if_pos (by omega), if_neg (by omega), if_neg (by omega), if_pos (by omega)])
            | (rw [if_pos (by omega), if_neg (by omega), if_neg (by omega), if_neg (by omega)]; first | rw [if_pos (by omega)] | (rw [if_neg (by omega), Int.toNat_of_nonpos (by omega)]))
        · skip
          refine g_lconst0 rfl ?_
          refine g_goto rfl ?_
          refine g_lret rfl ?_
          refine ⟨rfl, ?_⟩
          unfold spNO
          first
            | (rw [if_pos (show 0 ≤ k - 3 by omega), if_pos (by omega), if_neg (by omega), if_neg (by omega), if_neg (by omega)]; done)
            | (rw [if_neg (by omega)]; done)
            | (rw [if_pos (by omega), if_pos (by omega)]; done)
            | (rw [if_pos (by omega), if_neg (by omega), if_pos (by omega)])
            | (rw [if_pos (by omega), if_neg (by omega), if_neg (by omega), if_pos (by omega)])
            | (rw [if_pos (by omega), if_neg (by omega), if_neg (by omega), if_neg (by omega)]; first | rw [if_pos (by omega)] | (rw [if_neg (by omega), Int.toNat_of_nonpos (by omega)]))
      · skip
        refine g_aload_n rfl rfl ?_
        refine g_getR rfl (cs.kd 0 (by omega) rfl) (cs.rf 4 (by omega) rfl) ?_
        refine g_iload_n rfl rfl ?_
        refine g_callVI [aI a] [] rfl rfl rfl rfl (Nat.le_of_ble_eq_true rfl) (cs.kd 3 (by omega) rfl) (x_many (by omega) cs V xn ok a (by omega)) ?_
        rintro _ _ ⟨rfl, rfl⟩
        refine g_i2l rfl ?_
        refine g_lret rfl ?_
        refine ⟨rfl, ?_⟩
        unfold spNO
        first
          | (rw [if_pos (show 0 ≤ k - 3 by omega), if_pos (by omega), if_neg (by omega), if_neg (by omega), if_neg (by omega)]; done)
          | (rw [if_neg (by omega)]; done)
          | (rw [if_pos (by omega), if_pos (by omega)]; done)
          | (rw [if_pos (by omega), if_neg (by omega), if_pos (by omega)])
          | (rw [if_pos (by omega), if_neg (by omega), if_neg (by omega), if_pos (by omega)])
          | (rw [if_pos (by omega), if_neg (by omega), if_neg (by omega), if_neg (by omega)]; first | rw [if_pos (by omega)] | (rw [if_neg (by omega), Int.toNat_of_nonpos (by omega)]))
    · skip
      refine g_aload_n rfl rfl ?_
      refine g_getR rfl (cs.kd 0 (by omega) rfl) (cs.rf 4 (by omega) rfl) ?_
      refine g_iload_n rfl rfl ?_
      refine g_callVI [aI a] [] rfl rfl rfl rfl (Nat.le_of_ble_eq_true rfl) (cs.kd 3 (by omega) rfl) (x_has1 (by omega) cs V xn ok a (by omega)) ?_
      rintro _ _ ⟨rfl, rfl⟩
      refine g_if_eq_f rfl (by omega) ?_
      refine g_aload_n rfl rfl ?_
      refine g_getR rfl (cs.kd 0 (by omega) rfl) (cs.rf 4 (by omega) rfl) ?_
      refine g_iload_n rfl rfl ?_
      refine g_callVJ [aI a] [] rfl rfl rfl rfl (Nat.le_of_ble_eq_true rfl) (cs.kd 3 (by omega) rfl) (x_downS (by omega) cs V xn ok a (by omega)) ?_
      rintro _ _ ⟨rfl, rfl⟩
      refine g_goto rfl ?_
      refine g_lret rfl ?_
      refine ⟨rfl, ?_⟩
      unfold spNO
      first
        | (rw [if_pos (show 0 ≤ k - 3 by omega), if_pos (by omega), if_neg (by omega), if_neg (by omega), if_neg (by omega)]; done)
        | (rw [if_neg (by omega)]; done)
        | (rw [if_pos (by omega), if_pos (by omega)]; done)
        | (rw [if_pos (by omega), if_neg (by omega), if_pos (by omega)])
        | (rw [if_pos (by omega), if_neg (by omega), if_neg (by omega), if_pos (by omega)])
        | (rw [if_pos (by omega), if_neg (by omega), if_neg (by omega), if_neg (by omega)]; first | rw [if_pos (by omega)] | (rw [if_neg (by omega), Int.toNat_of_nonpos (by omega)]))
  · skip
    refine g_aload_n rfl rfl ?_
    refine g_getR rfl (cs.kd 0 (by omega) rfl) (cs.rf 4 (by omega) rfl) ?_
    refine g_iload_n rfl rfl ?_
    refine g_callVJ [aI a] [] rfl rfl rfl rfl (Nat.le_of_ble_eq_true rfl) (cs.kd 3 (by omega) rfl) (x_upS (by omega) cs V xn ok a (by omega)) ?_
    rintro _ _ ⟨rfl, rfl⟩
    refine g_lret rfl ?_
    refine ⟨rfl, ?_⟩
    unfold spNO
    first
      | (rw [if_pos (show 0 ≤ k - 3 by omega), if_pos (by omega), if_neg (by omega), if_neg (by omega), if_neg (by omega)]; done)
      | (rw [if_neg (by omega)]; done)
      | (rw [if_pos (by omega), if_pos (by omega)]; done)
      | (rw [if_pos (by omega), if_neg (by omega), if_pos (by omega)])
      | (rw [if_pos (by omega), if_neg (by omega), if_neg (by omega), if_pos (by omega)])
      | (rw [if_pos (by omega), if_neg (by omega), if_neg (by omega), if_neg (by omega)]; first | rw [if_pos (by omega)] | (rw [if_neg (by omega), Int.toNat_of_nonpos (by omega)]))
theorem x_numberOf0 {w : aW} {d : Nat} (hd : 8 ≤ d) {h : aH} {c : Nat} (cs : CS h c) (V : Nat → Nat → Int) {S : aS} (xn : XN V c S) (ok : OkN S) (a : Int) (ha : ¬(0 ≤ a ∧ a < sN S)) (k : Int) (hk : -2147483648 ≤ k ∧ k < 2147483648) : WP w d 203 [aO (some c), aI a, aI k] (hw h V) (RJ (fun r h1 => h1 = hw h V ∧ r = spNO S a k)) := by
  obtain ⟨d, rfl⟩ : ∃ d1, d = d1 + 1 := ⟨d - 1, by omega⟩
  refine WP.enter (cd := cd_X11_numberOf) rfl ?_
  have hls : largs 0 [aO (some c), aI a, aI k] = [(0, aO (some c)), (1, aI a), (2, aI k)] := rfl
  rw [hls]
  clear hls
  refine g_iload_n rfl rfl ?_
  refine g_if_ne rfl (fun c1 => ?_) (fun c1 => ?_)
  · skip
    refine g_iload_n rfl rfl ?_
    refine g_iconst rfl ?_
    refine g_icmp_ne rfl (fun c15 => ?_) (fun c15 => ?_)
    · skip
      refine g_iload_n rfl rfl ?_
      refine g_iconst rfl ?_
      refine g_icmp_ne rfl (fun c44 => ?_) (fun c44 => ?_)
      · skip
        refine g_iload_n rfl rfl ?_
        refine g_if_ge rfl (fun c58 => ?_) (fun c58 => ?_)
        · skip
          refine g_aload_n rfl rfl ?_
          refine g_getR rfl (cs.kd 0 (by omega) rfl) (cs.rf 4 (by omega) rfl) ?_
          refine g_iload_n rfl rfl ?_
          refine g_iload_n rfl rfl ?_
          refine g_iconst rfl ?_
          refine g_isub rfl (by omega) (by omega) ?_
          refine g_callVJ [aI a, aI (k - 3)] [] rfl rfl rfl rfl (Nat.le_of_ble_eq_true rfl) (cs.kd 3 (by omega) rfl) (x_term0 (by omega) cs V xn ok a (by omega) (k - 3)) ?_
          rintro _ _ ⟨rfl, rfl⟩
          refine g_lret rfl ?_
          refine ⟨rfl, ?_⟩
          unfold spNO
          rw [if_neg (by omega)]
        · skip
          refine g_lconst0 rfl ?_
          refine g_goto rfl ?_
          refine g_lret rfl ?_
          refine ⟨rfl, ?_⟩
          unfold spNO
          rw [if_neg (by omega)]
      · skip
        refine g_aload_n rfl rfl ?_
        refine g_getR rfl (cs.kd 0 (by omega) rfl) (cs.rf 4 (by omega) rfl) ?_
        refine g_iload_n rfl rfl ?_
        refine g_callVI [aI a] [] rfl rfl rfl rfl (Nat.le_of_ble_eq_true rfl) (cs.kd 3 (by omega) rfl) (x_many0 (by omega) cs V xn ok a (by omega)) ?_
        rintro _ _ ⟨rfl, rfl⟩
        refine g_i2l rfl ?_
        refine g_lret rfl ?_
        refine ⟨rfl, ?_⟩
        unfold spNO
        rw [if_neg (by omega)]
    · skip
      refine g_aload_n rfl rfl ?_
      refine g_getR rfl (cs.kd 0 (by omega) rfl) (cs.rf 4 (by omega) rfl) ?_
      refine g_iload_n rfl rfl ?_
      refine g_callVI [aI a] [] rfl rfl rfl rfl (Nat.le_of_ble_eq_true rfl) (cs.kd 3 (by omega) rfl) (x_has0 (by omega) cs V xn ok a (by omega)) ?_
      rintro _ _ ⟨rfl, rfl⟩
      refine g_if_eq_t rfl (by omega) ?_
      refine g_lconst0 rfl ?_
      refine g_lret rfl ?_
      refine ⟨rfl, ?_⟩
      unfold spNO
      rw [if_neg (by omega)]
  · skip
    refine g_aload_n rfl rfl ?_
    refine g_getR rfl (cs.kd 0 (by omega) rfl) (cs.rf 4 (by omega) rfl) ?_
    refine g_iload_n rfl rfl ?_
    refine g_callVJ [aI a] [] rfl rfl rfl rfl (Nat.le_of_ble_eq_true rfl) (cs.kd 3 (by omega) rfl) (x_up0 (by omega) cs V xn ok a (by omega)) ?_
    rintro _ _ ⟨rfl, rfl⟩
    refine g_lret rfl ?_
    refine ⟨rfl, ?_⟩
    unfold spNO
    rw [if_neg (by omega)]
