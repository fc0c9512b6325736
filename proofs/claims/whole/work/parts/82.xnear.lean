/-! the class's near and fraction: printed by wip/whole/s82.py -/
def nearF (S : aS) (a : Int) : UInt64 := if 0 ≤ a ∧ a < sN S then FP.ddiv (FP.l2d (Int64.ofInt (sNu S a.toNat).1)) (FP.l2d (Int64.ofInt (sNu S a.toNat).2)) else FP.dconst0
theorem x_near {w : aW} {d : Nat} (hd : 3 ≤ d) {h : aH} {c : Nat} (cs : CS h c) (V : Nat → Nat → Int) {S : aS} (xn : XN V c S) (ok : OkN S) (a : Int) : WP w d 204 [aO (some c), aI a] (hw h V) (fun r h1 => h1 = hw h V ∧ r = some (aD (nearF S a))) := by
  obtain ⟨d, rfl⟩ : ∃ d1, d = d1 + 1 := ⟨d - 1, by omega⟩
  refine WP.enter (cd := cd_X11_near) rfl ?_
  have hls : largs 0 [aO (some c), aI a] = [(0, aO (some c)), (1, aI a)] := rfl
  rw [hls]
  clear hls
  refine g_aload_n rfl rfl ?_
  refine g_getR rfl (cs.kd 0 (by omega) rfl) (cs.rf 4 (by omega) rfl) ?_
  refine g_iload_n rfl rfl ?_
  refine g_callVI [aI a] [] rfl rfl rfl rfl (Nat.le_of_ble_eq_true rfl) (cs.kd 3 (by omega) rfl) (x_has (by omega) cs V (sN S) xn.1 ok.1 a) ?_
  rintro _ _ ⟨rfl, rfl⟩
  refine g_b_ne rfl (fun c8 => ?_) (fun c8 => ?_)
  · refine g_aload_n rfl rfl ?_
    refine g_getR rfl (cs.kd 0 (by omega) rfl) (cs.rf 4 (by omega) rfl) ?_
    refine g_iload_n rfl rfl ?_
    refine g_callVJ [aI a] [] rfl rfl rfl rfl (Nat.le_of_ble_eq_true rfl) (cs.kd 3 (by omega) rfl) (x_upS (by omega) cs V xn ok a c8) ?_
    rintro _ _ ⟨rfl, rfl⟩
    refine g_l2d rfl ?_
    refine g_aload_n rfl rfl ?_
    refine g_getR rfl (cs.kd 0 (by omega) rfl) (cs.rf 4 (by omega) rfl) ?_
    refine g_iload_n rfl rfl ?_
    refine g_callVJ [aI a] _ rfl rfl rfl rfl (Nat.le_of_ble_eq_true rfl) (cs.kd 3 (by omega) rfl) (x_downS (by omega) cs V xn ok a c8) ?_
    rintro _ _ ⟨rfl, rfl⟩
    refine g_l2d rfl ?_
    refine g_ddiv rfl (near_n64 (ok.2 _ (by omega))) ?_
    refine g_dret rfl ?_
    refine ⟨rfl, ?_⟩
    unfold nearF
    rw [if_pos c8]
  · refine g_dconst rfl ?_
    refine g_dret rfl ?_
    refine ⟨rfl, ?_⟩
    unfold nearF
    rw [if_neg c8]
theorem x_fraction {w : aW} {d : Nat} (hd : 6 ≤ d) {h : aH} {c : Nat} (cs : CS h c) (V : Nat → Nat → Int) {S : aS} (xn : XN V c S) (ok : OkN S) (n d1 : Int) (h0 : d1 ≠ 0) (hn : -9223372036854775808 ≤ n ∧ n < 9223372036854775808) (hd1 : -9223372036854775808 ≤ d1 ∧ d1 < 9223372036854775808) : WP w d 200 [aO (some c), aJ n, aJ d1] (hw h V) (RI (fun r h1 => ∃ V1, h1 = hw h V1 ∧ XN V1 c (spF S n d1).2 ∧ FN V V1 c ∧ r = (spF S n d1).1)) := by
  obtain ⟨d, rfl⟩ : ∃ d1, d = d1 + 1 := ⟨d - 1, by omega⟩
  refine WP.enter (cd := cd_X11_fraction) rfl ?_
  have hls : largs 0 [aO (some c), aJ n, aJ d1] = [(0, aO (some c)), (1, aJ n), (3, aJ d1)] := rfl
  rw [hls]
  clear hls
  refine g_lload_n rfl rfl ?_
  refine g_lconst0 rfl ?_
  refine g_lc_ne_t rfl rfl (by omega) ?_
  refine g_aload_n rfl rfl ?_
  refine g_getR rfl (cs.kd 0 (by omega) rfl) (cs.rf 4 (by omega) rfl) ?_
  refine g_lload_n rfl rfl ?_
  refine g_lload_n rfl rfl ?_
  refine g_callVI [aJ n, aJ d1] [] rfl rfl rfl rfl (Nat.le_of_ble_eq_true rfl) (cs.kd 3 (by omega) rfl) (x_keepS (by omega) cs V xn ok n d1 (by omega) (by omega)) ?_
  rintro _ _ ⟨W1, rfl, hx, hf, rfl⟩
  refine g_iret rfl ?_
  exact ⟨_, rfl, hx, hf, rfl⟩
