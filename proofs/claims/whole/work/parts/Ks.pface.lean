/-! the reference's faces of polygons: printed by wip/whole/go_.py -/
/-- what a look at a polygon leaves -/
def FPm (V V1 : Nat → Nat → Int) (o : Nat) : Prop := ∀ a i, ¬(a = o ∧ i = 31) → a ≠ o + 9 → a ≠ o + 10 → a ≠ o + 11 → V1 a i = V a i
/-- what a new polygon or corner leaves -/
def FNm (V V1 : Nat → Nat → Int) (o : Nat) : Prop := ∀ a i, ¬(a = o ∧ (i = 10 ∨ i = 31)) → a ≠ o + 6 → a ≠ o + 7 → a ≠ o + 8 → V1 a i = V a i
theorem FPm.own (V : Nat → Nat → Int) (o : Nat) (v : Int) : FPm V (vset V o 31 v) o := fun a i h1 _ _ _ => vset_ne _ _ _ _ (by omega)
theorem FNm.own (V : Nat → Nat → Int) (o : Nat) (v : Int) : FNm V (vset V o 31 v) o := fun a i h1 _ _ _ => vset_ne _ _ _ _ (by omega)
theorem MG.own {V : Nat → Nat → Int} {o : Nat} {S : aS} (x : MG V o S) (v : Int) : MG (vset V o 31 v) o S := x.fr (vset_ne _ _ _ _ (by omega)) (fun a h1 h2 => by funext z; exact vset_ne _ _ _ _ (by omega))
set_option maxRecDepth 100000 in
theorem m_pgIs {w : aW} {d : Nat} (hd : 3 ≤ d) {h : aH} {o : Nat} (ms : MS h o) (V : Nat → Nat → Int) {S : aS} (mg : MG V o S) (ok : OkG S) (p : Int) : WP w d 330 [aO (some o), aI p] (hw h V) (RI (fun r h1 => h1 = hw h V ∧ r = if 0 ≤ p ∧ p < sG S then 1 else 0)) := by
  obtain ⟨d, rfl⟩ : ∃ d1, d = d1 + 1 := ⟨d - 1, by omega⟩
  refine WP.enter (cd := cd_X12_isPolygon) rfl ?_
  have hok := ok.1
  have hls : largs 0 [aO (some o), aI p] = [(0, aO (some o)), (1, aI p)] := rfl
  rw [hls]
  clear hls
  refine g_iload_n rfl rfl ?_
  refine g_i2l rfl ?_
  refine g_lconst0 rfl ?_
  refine g_aload_n rfl rfl ?_
  refine g_getI rfl ms.1 ?_
  refine g_top (v2 := aI ((sG S : Int))) (congrArg aI (by exact mg.1)) ?_
  refine g_iconst rfl ?_
  refine g_isub rfl (by omega) (by omega) ?_
  refine g_i2l rfl ?_
  refine g_callSI [aJ p, aJ 0, aJ (((sG S : Int)) - 1)] [] rfl rfl rfl rfl (Nat.le_of_ble_eq_true rfl) (c_in (by omega) _ _ _ _) ?_
  rintro r1 _ ⟨rfl, rfl⟩
  refine g_zret rfl (by omega) ?_
  refine ⟨rfl, ?_⟩
  first
    | rw [if_pos (by omega), if_pos (by omega)]
    | rw [if_neg (by omega), if_neg (by omega)]
    | (split <;> split <;> omega)
set_option maxRecDepth 100000 in
theorem m_polygon {w : aW} {d : Nat} (hd : 2 ≤ d) {h : aH} {o : Nat} (ms : MS h o) (V : Nat → Nat → Int) {S : aS} (mg : MG V o S) (ok : OkG S) : WP w d 331 [aO (some o)] (hw h V) (RI (fun r h1 => ∃ V1, h1 = hw h V1 ∧ FNm V V1 o ∧ r = (begF S).1 ∧ MG V1 o (begF S).2)) := by
  obtain ⟨d, rfl⟩ : ∃ d1, d = d1 + 1 := ⟨d - 1, by omega⟩
  refine WP.enter (cd := cd_X12_polygon) rfl ?_
  have hok := ok.1
  have hls : largs 0 [aO (some o)] = [(0, aO (some o))] := rfl
  rw [hls]
  clear hls
  refine g_aload_n rfl rfl ?_
  refine g_iconst rfl ?_
  refine g_putI rfl ms.1 ?_
  refine g_hp (h2 := hw h (vset V o 31 0)) rfl ?_
  refine g_aload_n rfl rfl ?_
  refine g_getI rfl ms.1 ?_
  refine g_top (v2 := aI ((sG S : Int))) (congrArg aI (by exact (mg.own 0).1)) ?_
  refine g_bipush rfl ?_
  refine g_icmp_ne rfl (fun cq11 => ?_) (fun cq11 => ?_)
  · skip
    refine g_aload_n rfl rfl ?_
    refine g_getR rfl ms.1 (mr_corners ms) ?_
    refine g_aload_n rfl rfl ?_
    refine g_getI rfl ms.1 ?_
    refine g_top (v2 := aI ((sG S : Int))) (congrArg aI (by exact (mg.own 0).1)) ?_
    refine g_iconst rfl ?_
    refine g_iast (i := (sG S)) rfl (mt_corners ms) (by omega) (by omega) ?_
    refine g_hp (h2 := hw h (vset (vset V o 31 0) (o + 6) ((sG S)) 0)) rfl ?_
    refine g_aload_n rfl rfl ?_
    refine g_dup rfl rfl ?_
    refine g_getI rfl ms.1 ?_
    refine g_top (v2 := aI ((sG S : Int))) (congrArg aI (by change vset (vset _ _ _ _) _ _ _ _ _ = _; rw [vset_ne _ _ _ _ (by omega), vset_ne _ _ _ _ (by omega)]; exact mg.1)) ?_
    refine g_iconst rfl ?_
    refine g_iadd rfl (by omega) (by omega) ?_
    refine g_putI rfl ms.1 ?_
    refine g_hp (h2 := hw h (vset (vset (vset V o 31 0) (o + 6) ((sG S)) 0) o 10 (((sG S : Int)) + 1))) rfl ?_
    refine g_aload_n rfl rfl ?_
    refine g_getI rfl ms.1 ?_
    refine g_top (v2 := aI ((sG S : Int) + 1)) (congrArg aI (by exact vset_eq _ _ _ _)) ?_
    refine g_iconst rfl ?_
    refine g_isub rfl (by omega) (by omega) ?_
    refine g_iret rfl ?_
    have e : begF S = ((sG S : Int), addG S) := if_pos (by omega)
    rw [e]
    refine ⟨vset (vset (vset V o 31 0) (o + 6) (sG S) 0) o 10 ((sG S : Int) + 1), rfl, fun a i h1 h2 h3 h4 => by rw [vset_ne _ _ _ _ (by omega), vset_ne _ _ _ _ (by omega), vset_ne _ _ _ _ (by omega)], by omega, ⟨by rw [vset_eq]; show _ = ((sG S + 1 : Nat) : Int); omega, fun p hp => ?_⟩⟩
    have hp : p < sG S + 1 := hp
    have en : sGn (addG S) p = if p = sG S then 0 else sGn S p := rfl
    by_cases q : p = sG S
    · rw [en, if_pos q, q]
      exact ⟨by rw [vset_ne _ _ _ _ (by omega), vset_eq]; rfl, fun i hi => by omega⟩
    · rw [en, if_neg q]
      refine ⟨by rw [vset_ne _ _ _ _ (by omega), vset_ne _ _ _ _ (by omega), vset_ne _ _ _ _ (by omega)]; exact (mg.2 p (by omega)).1, fun i hi => ?_⟩
      rw [vset_ne _ _ _ _ (by omega), vset_ne _ _ _ _ (by omega), vset_ne _ _ _ _ (by omega), vset_ne _ _ _ _ (by omega), vset_ne _ _ _ _ (by omega), vset_ne _ _ _ _ (by omega)]
      exact (mg.2 p (by omega)).2 i hi
  · skip
    refine g_bipush rfl ?_
    refine g_iret rfl ?_
    have e : begF S = (-4, S) := if_neg (by omega)
    rw [e]
    exact ⟨_, rfl, FNm.own V o 0, rfl, mg.own 0⟩
set_option maxRecDepth 100000 in
theorem m_corner1 {w : aW} {d : Nat} (hd : 4 ≤ d) {h : aH} {o : Nat} (ms : MS h o) (V : Nat → Nat → Int) {S : aS} (mg : MG V o S) (ok : OkG S) (p : Nat) (hp : p < sG S) (x y : Int) : WP w d 332 [aO (some o), aI ((p : Int)), aI x, aI y] (hw h V) (RI (fun r h1 => ∃ V1, h1 = hw h V1 ∧ FNm V V1 o ∧ r = (corF S (p : Int) x y).1 ∧ MG V1 o (corF S (p : Int) x y).2)) := by
  obtain ⟨d, rfl⟩ : ∃ d1, d = d1 + 1 := ⟨d - 1, by omega⟩
  refine WP.enter (cd := cd_X12_corner) rfl ?_
  have hok := ok.1
  have hok2 := (ok.2 p hp).1
  have hls : largs 0 [aO (some o), aI ((p : Int)), aI x, aI y] = [(0, aO (some o)), (1, aI ((p : Int))), (2, aI x), (3, aI y)] := rfl
  rw [hls]
  clear hls
  refine g_aload_n rfl rfl ?_
  refine g_iconst rfl ?_
  refine g_putI rfl ms.1 ?_
  refine g_hp (h2 := hw h (vset V o 31 0)) rfl ?_
  refine g_aload_n rfl rfl ?_
  refine g_iload_n rfl rfl ?_
  refine g_callVI [aI ((p : Int))] [] rfl rfl rfl rfl (Nat.le_of_ble_eq_true rfl) ms.1 (m_pgIs (by omega) ms ((vset V o 31 0)) (mg.own 0) ok ((p : Int))) ?_
  rintro r hx ⟨ehx, rfl⟩
  rw [ehx]
  clear ehx hx
  refine g_if_ne_t rfl (by rw [if_pos (by omega)]; decide) ?_
  refine g_iload_n rfl rfl ?_
  refine g_i2l rfl ?_
  refine g_ldc2 rfl ?_
  refine g_ldc2 rfl ?_
  refine g_callSI [aJ x, aJ ((-1000)), aJ 1000] [] rfl rfl rfl rfl (Nat.le_of_ble_eq_true rfl) (c_in (by omega) _ _ _ _) ?_
  rintro r1 _ ⟨rfl, rfl⟩
  refine g_b_eq rfl (fun cq26 => ?_) (fun cq26 => ?_)
  · skip
    refine g_bipush rfl ?_
    refine g_iret rfl ?_
    have e : corF S (p : Int) x y = (-2, S) := by
      unfold corF
      rw [if_neg (by omega), if_pos (by omega)]
    rw [e]
    exact ⟨_, rfl, FNm.own V o 0, rfl, mg.own 0⟩
  · skip
    refine g_iload_n rfl rfl ?_
    refine g_i2l rfl ?_
    refine g_ldc2 rfl ?_
    refine g_ldc2 rfl ?_
    refine g_callSI [aJ y, aJ ((-1000)), aJ 1000] [] rfl rfl rfl rfl (Nat.le_of_ble_eq_true rfl) (c_in (by omega) _ _ _ _) ?_
    rintro r2 _ ⟨rfl, rfl⟩
    refine g_b_ne rfl (fun cq40 => ?_) (fun cq40 => ?_)
    · skip
      refine g_aload_n rfl rfl ?_
      refine g_getR rfl ms.1 (mr_corners ms) ?_
      refine g_iload_n rfl rfl ?_
      refine g_iald (i := p) rfl (mt_corners ms) (by omega) (by omega) ?_
      refine g_top (v2 := aI ((sGn S p : Int))) (congrArg aI (by exact ((mg.own 0).2 p hp).1)) ?_
      refine g_bipush rfl ?_
      refine g_icmp_ne rfl (fun cq54 => ?_) (fun cq54 => ?_)
      · skip
        refine g_aload_n rfl rfl ?_
        refine g_getR rfl ms.1 (mr_px ms) ?_
        refine g_bipush rfl ?_
        refine g_iload_n rfl rfl ?_
        refine g_imul rfl (by omega) (by omega) ?_
        refine g_aload_n rfl rfl ?_
        refine g_getR rfl ms.1 (mr_corners ms) ?_
        refine g_iload_n rfl rfl ?_
        refine g_iald (i := p) rfl (mt_corners ms) (by omega) (by omega) ?_
        refine g_top (v2 := aI ((sGn S p : Int))) (congrArg aI (by exact ((mg.own 0).2 p hp).1)) ?_
        refine g_iadd rfl (by omega) (by omega) ?_
        refine g_iload_n rfl rfl ?_
        refine g_iast (i := 12 * p + sGn S p) rfl (mt_px ms) (by omega) (by omega) ?_
        refine g_hp (h2 := hw h (vset (vset V o 31 0) (o + 7) (12 * p + sGn S p) x)) rfl ?_
        refine g_aload_n rfl rfl ?_
        refine g_getR rfl ms.1 (mr_py ms) ?_
        refine g_bipush rfl ?_
        refine g_iload_n rfl rfl ?_
        refine g_imul rfl (by omega) (by omega) ?_
        refine g_aload_n rfl rfl ?_
        refine g_getR rfl ms.1 (mr_corners ms) ?_
        refine g_iload_n rfl rfl ?_
        refine g_iald (i := p) rfl (mt_corners ms) (by omega) (by omega) ?_
        refine g_top (v2 := aI ((sGn S p : Int))) (congrArg aI (by change vset (vset _ _ _ _) _ _ _ _ _ = _; rw [vset_ne _ _ _ _ (by omega), vset_ne _ _ _ _ (by omega)]; exact (mg.2 p hp).1)) ?_
        refine g_iadd rfl (by omega) (by omega) ?_
        refine g_iload_n rfl rfl ?_
        refine g_iast (i := 12 * p + sGn S p) rfl (mt_py ms) (by omega) (by omega) ?_
        refine g_hp (h2 := hw h (vset (vset (vset V o 31 0) (o + 7) (12 * p + sGn S p) x) (o + 8) (12 * p + sGn S p) y)) rfl ?_
        refine g_aload_n rfl rfl ?_
        refine g_getR rfl ms.1 (mr_corners ms) ?_
        refine g_iload_n rfl rfl ?_
        refine g_dup2 rfl rfl rfl ?_
        refine g_iald (i := p) rfl (mt_corners ms) (by omega) (by omega) ?_
        refine g_top (v2 := aI ((sGn S p : Int))) (congrArg aI (by change vset (vset _ _ _ _) _ _ _ _ _ = _; rw [vset_ne _ _ _ _ (by omega), vset_ne _ _ _ _ (by omega), vset_ne _ _ _ _ (by omega)]; exact (mg.2 p hp).1)) ?_
        refine g_iconst rfl ?_
        refine g_iadd rfl (by omega) (by omega) ?_
        refine g_iast (i := p) rfl (mt_corners ms) (by omega) (by omega) ?_
        refine g_hp (h2 := hw h (vset (vset (vset (vset V o 31 0) (o + 7) (12 * p + sGn S p) x) (o + 8) (12 * p + sGn S p) y) (o + 6) p (((sGn S p : Int)) + 1))) rfl ?_
        refine g_aload_n rfl rfl ?_
        refine g_getR rfl ms.1 (mr_corners ms) ?_
        refine g_iload_n rfl rfl ?_
        refine g_iald (i := p) rfl (mt_corners ms) (by omega) (by omega) ?_
        refine g_top (v2 := aI ((sGn S p : Int) + 1)) (congrArg aI (by exact vset_eq _ _ _ _)) ?_
        refine g_iret rfl ?_
        have ec : corF S (p : Int) x y = (((sGn S p + 1 : Nat) : Int), addC S p x y) := by
          unfold corF
          rw [if_neg (by omega), if_neg (by omega)]
          exact if_pos (by show sGn S p < 12; omega)
        rw [ec]
        refine ⟨vset (vset (vset (vset V o 31 0) (o + 7) (12 * p + sGn S p) x) (o + 8) (12 * p + sGn S p) y) (o + 6) p ((sGn S p : Int) + 1), rfl, fun a i h1 h2 h3 h4 => by rw [vset_ne _ _ _ _ (by omega), vset_ne _ _ _ _ (by omega), vset_ne _ _ _ _ (by omega), vset_ne _ _ _ _ (by omega)], by omega, ⟨by rw [vset_ne _ _ _ _ (by omega), vset_ne _ _ _ _ (by omega), vset_ne _ _ _ _ (by omega), vset_ne _ _ _ _ (by omega)]; exact mg.1, fun q hq => ?_⟩⟩
        have hq : q < sG S := hq
        have en : sGn (addC S p x y) q = if q = p then sGn S p + 1 else sGn S q := rfl
        have ec2 : ∀ i, sGc (addC S p x y) q i = if q = p ∧ i = sGn S p then (x, y) else sGc S q i := fun i => rfl
        have xq := mg.2 q hq
        have okq := (ok.2 q hq).1
        refine ⟨?_, fun i hi => ?_⟩
        · by_cases z : q = p
          · rw [en, if_pos z, z, vset_eq]
            omega
          · rw [en, if_neg z, vset_ne _ _ _ _ (by omega), vset_ne _ _ _ _ (by omega), vset_ne _ _ _ _ (by omega), vset_ne _ _ _ _ (by omega)]
            exact xq.1
        · rw [en] at hi
          unfold gx gy
          rw [ec2]
          by_cases z : q = p ∧ i = sGn S p
          · obtain ⟨rfl, rfl⟩ := z
            rw [if_pos ⟨rfl, rfl⟩]
            exact ⟨by rw [vset_ne _ _ _ _ (by omega), vset_ne _ _ _ _ (by omega), vset_eq], by rw [vset_ne _ _ _ _ (by omega), vset_eq]⟩
          · rw [if_neg z]
            have hi2 : i < sGn S q := by
              by_cases z2 : q = p
              · rw [if_pos z2] at hi
                subst z2
                have : ¬ i = sGn S q := fun y => z ⟨rfl, y⟩
                omega
              · rw [if_neg z2] at hi
                exact hi
            have hne : ¬ 12 * q + i = 12 * p + sGn S p := fun y => z ⟨by omega, by
              have : q = p := by omega
              subst this
              omega⟩
            rw [vset_ne _ _ _ _ (by omega), vset_ne _ _ _ _ (by omega), vset_ne _ _ _ _ (by omega), vset_ne _ _ _ _ (by omega), vset_ne _ _ _ _ (by omega), vset_ne _ _ _ _ (by omega), vset_ne _ _ _ _ (by omega), vset_ne _ _ _ _ (by omega)]
            exact xq.2 i hi2
      · skip
        refine g_bipush rfl ?_
        refine g_iret rfl ?_
        have e : corF S (p : Int) x y = (-4, S) := by
          unfold corF
          rw [if_neg (by omega), if_neg (by omega)]
          exact if_neg (by show ¬ sGn S p < 12; omega)
        rw [e]
        exact ⟨_, rfl, FNm.own V o 0, rfl, mg.own 0⟩
    · skip
      refine g_bipush rfl ?_
      refine g_iret rfl ?_
      have e : corF S (p : Int) x y = (-2, S) := by
        unfold corF
        rw [if_neg (by omega), if_pos (by omega)]
      rw [e]
      exact ⟨_, rfl, FNm.own V o 0, rfl, mg.own 0⟩
set_option maxRecDepth 100000 in
theorem m_corner0 {w : aW} {d : Nat} (hd : 4 ≤ d) {h : aH} {o : Nat} (ms : MS h o) (V : Nat → Nat → Int) {S : aS} (mg : MG V o S) (ok : OkG S) (p x y : Int) (hp : ¬(0 ≤ p ∧ p < sG S)) : WP w d 332 [aO (some o), aI p, aI x, aI y] (hw h V) (RI (fun r h1 => ∃ V1, h1 = hw h V1 ∧ FNm V V1 o ∧ r = (corF S p x y).1 ∧ MG V1 o (corF S p x y).2)) := by
  obtain ⟨d, rfl⟩ : ∃ d1, d = d1 + 1 := ⟨d - 1, by omega⟩
  refine WP.enter (cd := cd_X12_corner) rfl ?_
  have hls : largs 0 [aO (some o), aI p, aI x, aI y] = [(0, aO (some o)), (1, aI p), (2, aI x), (3, aI y)] := rfl
  rw [hls]
  clear hls
  refine g_aload_n rfl rfl ?_
  refine g_iconst rfl ?_
  refine g_putI rfl ms.1 ?_
  refine g_hp (h2 := hw h (vset V o 31 0)) rfl ?_
  refine g_aload_n rfl rfl ?_
  refine g_iload_n rfl rfl ?_
  refine g_callVI [aI p] [] rfl rfl rfl rfl (Nat.le_of_ble_eq_true rfl) ms.1 (m_pgIs (by omega) ms ((vset V o 31 0)) (mg.own 0) ok p) ?_
  rintro r hx ⟨ehx, rfl⟩
  rw [ehx]
  clear ehx hx
  refine g_if_ne_f rfl (by exact if_neg hp) ?_
  refine g_iconst rfl ?_
  refine g_iret rfl ?_
  have e : corF S p x y = (-1, S) := if_pos hp
  rw [e]
  exact ⟨_, rfl, FNm.own V o 0, rfl, mg.own 0⟩
theorem m_corner {w : aW} {d : Nat} (hd : 4 ≤ d) {h : aH} {o : Nat} (ms : MS h o) (V : Nat → Nat → Int) {S : aS} (mg : MG V o S) (ok : OkG S) (p x y : Int) : WP w d 332 [aO (some o), aI p, aI x, aI y] (hw h V) (RI (fun r h1 => ∃ V1, h1 = hw h V1 ∧ FNm V V1 o ∧ r = (corF S p x y).1 ∧ MG V1 o (corF S p x y).2)) := by
  by_cases q : 0 ≤ p ∧ p < sG S
  · obtain ⟨k, rfl⟩ : ∃ k : Nat, p = k := ⟨p.toNat, by omega⟩
    exact m_corner1 (by omega) ms V mg ok k (by omega) x y
  · exact m_corner0 (by omega) ms V mg ok p x y q
set_option maxRecDepth 100000 in
theorem m_pgOf0 {w : aW} {d : Nat} (hd : 24 ≤ d) {h : aH} {o : Nat} (ms : MS h o) (V : Nat → Nat → Int) {S : aS} (mg : MG V o S) (ok : OkG S) (p : Nat) (hp : p < sG S) : WP w d 349 [aO (some o), aI ((p : Int)), aI 0] (hw h V) (RJ (fun r h1 => ∃ V1, h1 = hw h V1 ∧ FPm V V1 o ∧ (r = sGn S p))) := by
  obtain ⟨d, rfl⟩ : ∃ d1, d = d1 + 1 := ⟨d - 1, by omega⟩
  refine WP.enter (cd := cd_X12_polygonOf) rfl ?_
  have hok := ok.1
  have hok2 := (ok.2 p hp).1
  have hls : largs 0 [aO (some o), aI ((p : Int)), aI 0] = [(0, aO (some o)), (1, aI ((p : Int))), (2, aI 0)] := rfl
  rw [hls]
  clear hls
  refine g_aload_n rfl rfl ?_
  refine g_iconst rfl ?_
  refine g_putI rfl ms.1 ?_
  refine g_hp (h2 := hw h (vset V o 31 0)) rfl ?_
  refine g_aload_n rfl rfl ?_
  refine g_iload_n rfl rfl ?_
  refine g_callVI [aI ((p : Int))] [] rfl rfl rfl rfl (Nat.le_of_ble_eq_true rfl) ms.1 (m_pgIs (by omega) ms ((vset V o 31 0)) (mg.own 0) ok ((p : Int))) ?_
  rintro r hx ⟨ehx, rfl⟩
  rw [ehx]
  clear ehx hx
  refine g_if_ne_t rfl (by rw [if_pos (by omega)]; decide) ?_
  refine g_iload_n rfl rfl ?_
  refine g_i2l rfl ?_
  refine g_lconst0 rfl ?_
  refine g_ldc2 rfl ?_
  refine g_callSI [aJ 0, aJ 0, aJ 8] [] rfl rfl rfl rfl (Nat.le_of_ble_eq_true rfl) (c_in (by omega) _ _ _ _) ?_
  rintro r1 _ ⟨rfl, rfl⟩
  refine g_if_ne_t rfl (by rw [if_pos (by omega)]; decide) ?_
  refine g_iload_n rfl rfl ?_
  refine g_i2l rfl ?_
  refine g_ldc2 rfl ?_
  refine g_ldc2 rfl ?_
  refine g_callSI [aJ 0, aJ 5, aJ 7] [] rfl rfl rfl rfl (Nat.le_of_ble_eq_true rfl) (c_in (by omega) _ _ _ _) ?_
  rintro r2 _ ⟨rfl, rfl⟩
  refine g_if_eq_t rfl (by exact if_neg (by omega)) ?_
  refine g_iload_n rfl rfl ?_
  refine g_tsw (t := 108) rfl (by rfl) ?_
  refine g_aload_n rfl rfl ?_
  refine g_getR rfl ms.1 (mr_corners ms) ?_
  refine g_iload_n rfl rfl ?_
  refine g_iald (i := p) rfl (mt_corners ms) (by omega) (by omega) ?_
  refine g_top (v2 := aI ((sGn S p : Int))) (congrArg aI (by exact ((mg.own 0).2 p hp).1)) ?_
  refine g_i2l rfl ?_
  refine g_lret rfl ?_
  exact ⟨_, rfl, FPm.own V o 0, rfl⟩
set_option maxRecDepth 100000 in
theorem m_pgOf1 {w : aW} {d : Nat} (hd : 24 ≤ d) {h : aH} {o : Nat} (ms : MS h o) (V : Nat → Nat → Int) {S : aS} (mg : MG V o S) (ok : OkG S) (p : Nat) (hp : p < sG S) : WP w d 349 [aO (some o), aI ((p : Int)), aI 1] (hw h V) (RJ (fun r h1 => ∃ V1, h1 = hw h V1 ∧ FPm V V1 o ∧ (r = if bt (gSim S p) = true then 1 else 0))) := by
  obtain ⟨d, rfl⟩ : ∃ d1, d = d1 + 1 := ⟨d - 1, by omega⟩
  refine WP.enter (cd := cd_X12_polygonOf) rfl ?_
  have hok := ok.1
  have hok2 := (ok.2 p hp).1
  have hls : largs 0 [aO (some o), aI ((p : Int)), aI 1] = [(0, aO (some o)), (1, aI ((p : Int))), (2, aI 1)] := rfl
  rw [hls]
  clear hls
  refine g_aload_n rfl rfl ?_
  refine g_iconst rfl ?_
  refine g_putI rfl ms.1 ?_
  refine g_hp (h2 := hw h (vset V o 31 0)) rfl ?_
  refine g_aload_n rfl rfl ?_
  refine g_iload_n rfl rfl ?_
  refine g_callVI [aI ((p : Int))] [] rfl rfl rfl rfl (Nat.le_of_ble_eq_true rfl) ms.1 (m_pgIs (by omega) ms ((vset V o 31 0)) (mg.own 0) ok ((p : Int))) ?_
  rintro r hx ⟨ehx, rfl⟩
  rw [ehx]
  clear ehx hx
  refine g_if_ne_t rfl (by rw [if_pos (by omega)]; decide) ?_
  refine g_iload_n rfl rfl ?_
  refine g_i2l rfl ?_
  refine g_lconst0 rfl ?_
  refine g_ldc2 rfl ?_
  refine g_callSI [aJ 1, aJ 0, aJ 8] [] rfl rfl rfl rfl (Nat.le_of_ble_eq_true rfl) (c_in (by omega) _ _ _ _) ?_
  rintro r1 _ ⟨rfl, rfl⟩
  refine g_if_ne_t rfl (by rw [if_pos (by omega)]; decide) ?_
  refine g_iload_n rfl rfl ?_
  refine g_i2l rfl ?_
  refine g_ldc2 rfl ?_
  refine g_ldc2 rfl ?_
  refine g_callSI [aJ 1, aJ 5, aJ 7] [] rfl rfl rfl rfl (Nat.le_of_ble_eq_true rfl) (c_in (by omega) _ _ _ _) ?_
  rintro r2 _ ⟨rfl, rfl⟩
  refine g_if_eq_t rfl (by exact if_neg (by omega)) ?_
  refine g_iload_n rfl rfl ?_
  refine g_tsw (t := 116) rfl (by rfl) ?_
  refine g_aload_n rfl rfl ?_
  refine g_iload_n rfl rfl ?_
  refine g_callVI [aI ((p : Int))] [] rfl rfl rfl rfl (Nat.le_of_ble_eq_true rfl) ms.1 (m_pgSim (by omega) ms ((vset V o 31 0)) (mg.own 0) ok p (by omega)) ?_
  rintro r3 hx3 ⟨ehx3, rfl⟩
  rw [ehx3, bt_sim]
  clear ehx3 hx3
  refine g_b_eq rfl (fun cq121 => ?_) (fun cq121 => ?_)
  · skip
    refine g_lconst0 rfl ?_
    refine g_lret rfl ?_
    refine ⟨_, rfl, FPm.own V o 0, ?_⟩
    first
      | (refine (if_pos ?_).symm; exact cq121)
      | (refine (if_neg ?_).symm; exact cq121)
  · skip
    refine g_lconst1 rfl ?_
    refine g_goto rfl ?_
    refine g_lret rfl ?_
    refine ⟨_, rfl, FPm.own V o 0, ?_⟩
    first
      | (refine (if_pos ?_).symm; exact cq121)
      | (refine (if_neg ?_).symm; exact cq121)
set_option maxRecDepth 100000 in
theorem m_pgOf2 {w : aW} {d : Nat} (hd : 24 ≤ d) {h : aH} {o : Nat} (ms : MS h o) (V : Nat → Nat → Int) {S : aS} (mg : MG V o S) (ok : OkG S) (p : Nat) (hp : p < sG S) : WP w d 349 [aO (some o), aI ((p : Int)), aI 2] (hw h V) (RJ (fun r h1 => ∃ V1, h1 = hw h V1 ∧ FPm V V1 o ∧ (r = gAr S p (sGn S p)))) := by
  obtain ⟨d, rfl⟩ : ∃ d1, d = d1 + 1 := ⟨d - 1, by omega⟩
  refine WP.enter (cd := cd_X12_polygonOf) rfl ?_
  have hok := ok.1
  have hok2 := (ok.2 p hp).1
  have hls : largs 0 [aO (some o), aI ((p : Int)), aI 2] = [(0, aO (some o)), (1, aI ((p : Int))), (2, aI 2)] := rfl
  rw [hls]
  clear hls
  refine g_aload_n rfl rfl ?_
  refine g_iconst rfl ?_
  refine g_putI rfl ms.1 ?_
  refine g_hp (h2 := hw h (vset V o 31 0)) rfl ?_
  refine g_aload_n rfl rfl ?_
  refine g_iload_n rfl rfl ?_
  refine g_callVI [aI ((p : Int))] [] rfl rfl rfl rfl (Nat.le_of_ble_eq_true rfl) ms.1 (m_pgIs (by omega) ms ((vset V o 31 0)) (mg.own 0) ok ((p : Int))) ?_
  rintro r hx ⟨ehx, rfl⟩
  rw [ehx]
  clear ehx hx
  refine g_if_ne_t rfl (by rw [if_pos (by omega)]; decide) ?_
  refine g_iload_n rfl rfl ?_
  refine g_i2l rfl ?_
  refine g_lconst0 rfl ?_
  refine g_ldc2 rfl ?_
  refine g_callSI [aJ 2, aJ 0, aJ 8] [] rfl rfl rfl rfl (Nat.le_of_ble_eq_true rfl) (c_in (by omega) _ _ _ _) ?_
  rintro r1 _ ⟨rfl, rfl⟩
  refine g_if_ne_t rfl (by rw [if_pos (by omega)]; decide) ?_
  refine g_iload_n rfl rfl ?_
  refine g_i2l rfl ?_
  refine g_ldc2 rfl ?_
  refine g_ldc2 rfl ?_
  refine g_callSI [aJ 2, aJ 5, aJ 7] [] rfl rfl rfl rfl (Nat.le_of_ble_eq_true rfl) (c_in (by omega) _ _ _ _) ?_
  rintro r2 _ ⟨rfl, rfl⟩
  refine g_if_eq_t rfl (by exact if_neg (by omega)) ?_
  refine g_iload_n rfl rfl ?_
  refine g_tsw (t := 130) rfl (by rfl) ?_
  refine g_aload_n rfl rfl ?_
  refine g_iload_n rfl rfl ?_
  refine g_callVJ [aI ((p : Int))] [] rfl rfl rfl rfl (Nat.le_of_ble_eq_true rfl) ms.1 (m_pgArea (by omega) ms ((vset V o 31 0)) (mg.own 0) ok p (by omega)) ?_
  rintro r3 hx3 ⟨ehx3, rfl⟩
  rw [ehx3]
  clear ehx3 hx3
  refine g_lret rfl ?_
  exact ⟨_, rfl, FPm.own V o 0, rfl⟩
set_option maxRecDepth 100000 in
theorem m_pgOf3 {w : aW} {d : Nat} (hd : 24 ≤ d) {h : aH} {o : Nat} (ms : MS h o) (V : Nat → Nat → Int) {S : aS} (mg : MG V o S) (ok : OkG S) (p : Nat) (hp : p < sG S) : WP w d 349 [aO (some o), aI ((p : Int)), aI 3] (hw h V) (RJ (fun r h1 => ∃ V1, h1 = hw h V1 ∧ FPm V V1 o ∧ (WrH S p V1 o r))) := by
  obtain ⟨d, rfl⟩ : ∃ d1, d = d1 + 1 := ⟨d - 1, by omega⟩
  refine WP.enter (cd := cd_X12_polygonOf) rfl ?_
  have hok := ok.1
  have hok2 := (ok.2 p hp).1
  have hls : largs 0 [aO (some o), aI ((p : Int)), aI 3] = [(0, aO (some o)), (1, aI ((p : Int))), (2, aI 3)] := rfl
  rw [hls]
  clear hls
  refine g_aload_n rfl rfl ?_
  refine g_iconst rfl ?_
  refine g_putI rfl ms.1 ?_
  refine g_hp (h2 := hw h (vset V o 31 0)) rfl ?_
  refine g_aload_n rfl rfl ?_
  refine g_iload_n rfl rfl ?_
  refine g_callVI [aI ((p : Int))] [] rfl rfl rfl rfl (Nat.le_of_ble_eq_true rfl) ms.1 (m_pgIs (by omega) ms ((vset V o 31 0)) (mg.own 0) ok ((p : Int))) ?_
  rintro r hx ⟨ehx, rfl⟩
  rw [ehx]
  clear ehx hx
  refine g_if_ne_t rfl (by rw [if_pos (by omega)]; decide) ?_
  refine g_iload_n rfl rfl ?_
  refine g_i2l rfl ?_
  refine g_lconst0 rfl ?_
  refine g_ldc2 rfl ?_
  refine g_callSI [aJ 3, aJ 0, aJ 8] [] rfl rfl rfl rfl (Nat.le_of_ble_eq_true rfl) (c_in (by omega) _ _ _ _) ?_
  rintro r1 _ ⟨rfl, rfl⟩
  refine g_if_ne_t rfl (by rw [if_pos (by omega)]; decide) ?_
  refine g_iload_n rfl rfl ?_
  refine g_i2l rfl ?_
  refine g_ldc2 rfl ?_
  refine g_ldc2 rfl ?_
  refine g_callSI [aJ 3, aJ 5, aJ 7] [] rfl rfl rfl rfl (Nat.le_of_ble_eq_true rfl) (c_in (by omega) _ _ _ _) ?_
  rintro r2 _ ⟨rfl, rfl⟩
  refine g_if_eq_t rfl (by exact if_neg (by omega)) ?_
  refine g_iload_n rfl rfl ?_
  refine g_tsw (t := 136) rfl (by rfl) ?_
  refine g_aload_n rfl rfl ?_
  refine g_iload_n rfl rfl ?_
  refine g_callVI [aI ((p : Int))] [] rfl rfl rfl rfl (Nat.le_of_ble_eq_true rfl) ms.1 (m_pgWrap (by omega) ms ((vset V o 31 0)) (mg.own 0) ok p (by omega)) ?_
  rintro r _ ⟨V1, rfl, hv, hq⟩
  refine g_i2l rfl ?_
  refine g_lret rfl ?_
  exact ⟨V1, rfl, fun a i h1 h2 h3 _ => by rw [hv a h2 h3]; exact vset_ne _ _ _ _ (by omega), wr_h hok2 hq⟩
set_option maxRecDepth 100000 in
theorem m_pgOf4 {w : aW} {d : Nat} (hd : 24 ≤ d) {h : aH} {o : Nat} (ms : MS h o) (V : Nat → Nat → Int) {S : aS} (mg : MG V o S) (ok : OkG S) (p : Nat) (hp : p < sG S) : WP w d 349 [aO (some o), aI ((p : Int)), aI 4] (hw h V) (RJ (fun r h1 => ∃ V1, h1 = hw h V1 ∧ FPm V V1 o ∧ (r = if bt (gSim S p) = true ∧ ¬(gL S p (sGn S p) = true ∧ gR S p (sGn S p) = true) then 1 else 0))) := by
  obtain ⟨d, rfl⟩ : ∃ d1, d = d1 + 1 := ⟨d - 1, by omega⟩
  refine WP.enter (cd := cd_X12_polygonOf) rfl ?_
  have hok := ok.1
  have hok2 := (ok.2 p hp).1
  have hls : largs 0 [aO (some o), aI ((p : Int)), aI 4] = [(0, aO (some o)), (1, aI ((p : Int))), (2, aI 4)] := rfl
  rw [hls]
  clear hls
  refine g_aload_n rfl rfl ?_
  refine g_iconst rfl ?_
  refine g_putI rfl ms.1 ?_
  refine g_hp (h2 := hw h (vset V o 31 0)) rfl ?_
  refine g_aload_n rfl rfl ?_
  refine g_iload_n rfl rfl ?_
  refine g_callVI [aI ((p : Int))] [] rfl rfl rfl rfl (Nat.le_of_ble_eq_true rfl) ms.1 (m_pgIs (by omega) ms ((vset V o 31 0)) (mg.own 0) ok ((p : Int))) ?_
  rintro r hx ⟨ehx, rfl⟩
  rw [ehx]
  clear ehx hx
  refine g_if_ne_t rfl (by rw [if_pos (by omega)]; decide) ?_
  refine g_iload_n rfl rfl ?_
  refine g_i2l rfl ?_
  refine g_lconst0 rfl ?_
  refine g_ldc2 rfl ?_
  refine g_callSI [aJ 4, aJ 0, aJ 8] [] rfl rfl rfl rfl (Nat.le_of_ble_eq_true rfl) (c_in (by omega) _ _ _ _) ?_
  rintro r1 _ ⟨rfl, rfl⟩
  refine g_if_ne_t rfl (by rw [if_pos (by omega)]; decide) ?_
  refine g_iload_n rfl rfl ?_
  refine g_i2l rfl ?_
  refine g_ldc2 rfl ?_
  refine g_ldc2 rfl ?_
  refine g_callSI [aJ 4, aJ 5, aJ 7] [] rfl rfl rfl rfl (Nat.le_of_ble_eq_true rfl) (c_in (by omega) _ _ _ _) ?_
  rintro r2 _ ⟨rfl, rfl⟩
  refine g_if_eq_t rfl (by exact if_neg (by omega)) ?_
  refine g_iload_n rfl rfl ?_
  refine g_tsw (t := 143) rfl (by rfl) ?_
  refine g_aload_n rfl rfl ?_
  refine g_iload_n rfl rfl ?_
  refine g_callVI [aI ((p : Int))] [] rfl rfl rfl rfl (Nat.le_of_ble_eq_true rfl) ms.1 (m_pgSim (by omega) ms ((vset V o 31 0)) (mg.own 0) ok p (by omega)) ?_
  rintro r3 hx3 ⟨ehx3, rfl⟩
  rw [ehx3, bt_sim]
  clear ehx3 hx3
  refine g_b_eq rfl (fun cq148 => ?_) (fun cq148 => ?_)
  · skip
    refine g_lconst0 rfl ?_
    refine g_lret rfl ?_
    refine ⟨_, rfl, FPm.own V o 0, ?_⟩
    first
      | (refine (if_pos ?_).symm; exact ⟨cq148, cq156⟩)
      | (refine (if_neg ?_).symm; intro z; exact cq148 z.1)
      | (refine (if_neg ?_).symm; intro z; exact cq156 z.2)
  · skip
    refine g_aload_n rfl rfl ?_
    refine g_iload_n rfl rfl ?_
    refine g_callVI [aI ((p : Int))] [] rfl rfl rfl rfl (Nat.le_of_ble_eq_true rfl) ms.1 (m_pgConv (by omega) ms ((vset V o 31 0)) (mg.own 0) ok p (by omega)) ?_
    rintro r4 hx4 ⟨ehx4, rfl⟩
    rw [ehx4]
    clear ehx4 hx4
    refine g_b_eq rfl (fun cq156 => ?_) (fun cq156 => ?_)
    · skip
      refine g_lconst0 rfl ?_
      refine g_lret rfl ?_
      refine ⟨_, rfl, FPm.own V o 0, ?_⟩
      first
        | (refine (if_pos ?_).symm; exact ⟨cq148, cq156⟩)
        | (refine (if_neg ?_).symm; intro z; exact cq148 z.1)
        | (refine (if_neg ?_).symm; intro z; exact cq156 z.2)
    · skip
      refine g_lconst1 rfl ?_
      refine g_goto rfl ?_
      refine g_lret rfl ?_
      refine ⟨_, rfl, FPm.own V o 0, ?_⟩
      first
        | (refine (if_pos ?_).symm; exact ⟨cq148, cq156⟩)
        | (refine (if_neg ?_).symm; intro z; exact cq148 z.1)
        | (refine (if_neg ?_).symm; intro z; exact cq156 z.2)
set_option maxRecDepth 100000 in
theorem m_pgOf5 {w : aW} {d : Nat} (hd : 24 ≤ d) {h : aH} {o : Nat} (ms : MS h o) (V : Nat → Nat → Int) {S : aS} (mg : MG V o S) (ok : OkG S) (p : Nat) (hp : p < sG S) : WP w d 349 [aO (some o), aI ((p : Int)), aI 5] (hw h V) (RJ (fun r h1 => ∃ V1, h1 = hw h V1 ∧ FPm V V1 o ∧ (r = if bt (gSim S p) = true then w64 ((((gAr S p (sGn S p)).natAbs : Int) - gOs S p (sGn S p) + 2).tdiv 2) else -3))) := by
  obtain ⟨d, rfl⟩ : ∃ d1, d = d1 + 1 := ⟨d - 1, by omega⟩
  refine WP.enter (cd := cd_X12_polygonOf) rfl ?_
  have hok := ok.1
  have hok2 := (ok.2 p hp).1
  have hba := gAr_b ok hp (sGn S p) (Nat.le_refl _)
  have hbo := gOs_b ok hp (sGn S p) (Nat.le_refl _)
  have hls : largs 0 [aO (some o), aI ((p : Int)), aI 5] = [(0, aO (some o)), (1, aI ((p : Int))), (2, aI 5)] := rfl
  rw [hls]
  clear hls
  refine g_aload_n rfl rfl ?_
  refine g_iconst rfl ?_
  refine g_putI rfl ms.1 ?_
  refine g_hp (h2 := hw h (vset V o 31 0)) rfl ?_
  refine g_aload_n rfl rfl ?_
  refine g_iload_n rfl rfl ?_
  refine g_callVI [aI ((p : Int))] [] rfl rfl rfl rfl (Nat.le_of_ble_eq_true rfl) ms.1 (m_pgIs (by omega) ms ((vset V o 31 0)) (mg.own 0) ok ((p : Int))) ?_
  rintro r hx ⟨ehx, rfl⟩
  rw [ehx]
  clear ehx hx
  refine g_if_ne_t rfl (by rw [if_pos (by omega)]; decide) ?_
  refine g_iload_n rfl rfl ?_
  refine g_i2l rfl ?_
  refine g_lconst0 rfl ?_
  refine g_ldc2 rfl ?_
  refine g_callSI [aJ 5, aJ 0, aJ 8] [] rfl rfl rfl rfl (Nat.le_of_ble_eq_true rfl) (c_in (by omega) _ _ _ _) ?_
  rintro r1 _ ⟨rfl, rfl⟩
  refine g_if_ne_t rfl (by rw [if_pos (by omega)]; decide) ?_
  refine g_iload_n rfl rfl ?_
  refine g_i2l rfl ?_
  refine g_ldc2 rfl ?_
  refine g_ldc2 rfl ?_
  refine g_callSI [aJ 5, aJ 5, aJ 7] [] rfl rfl rfl rfl (Nat.le_of_ble_eq_true rfl) (c_in (by omega) _ _ _ _) ?_
  rintro r2 _ ⟨rfl, rfl⟩
  refine g_if_eq_f rfl (by rw [if_pos (by omega)]; decide) ?_
  refine g_aload_n rfl rfl ?_
  refine g_iload_n rfl rfl ?_
  refine g_callVI [aI ((p : Int))] [] rfl rfl rfl rfl (Nat.le_of_ble_eq_true rfl) ms.1 (m_pgSim (by omega) ms ((vset V o 31 0)) (mg.own 0) ok p (by omega)) ?_
  rintro r3 hx3 ⟨ehx3, rfl⟩
  rw [ehx3, bt_sim]
  clear ehx3 hx3
  refine g_b_ne rfl (fun cqs => ?_) (fun cqs => ?_)
  · skip
    refine g_iload_n rfl rfl ?_
    refine g_tsw (t := 165) rfl (by rfl) ?_
    refine g_aload_n rfl rfl ?_
    refine g_iload_n rfl rfl ?_
    refine g_callVJ [aI ((p : Int))] [] rfl rfl rfl rfl (Nat.le_of_ble_eq_true rfl) ms.1 (m_pgArea (by omega) ms ((vset V o 31 0)) (mg.own 0) ok p (by omega)) ?_
    rintro r4 hx4 ⟨ehx4, rfl⟩
    rw [ehx4]
    clear ehx4 hx4
    refine g_callSJ [aJ (gAr S p (sGn S p))] [] rfl rfl rfl rfl (Nat.le_of_ble_eq_true rfl) (c_size (by omega) (gAr S p (sGn S p)) (by omega) _) ?_
    rintro rs_ hxs_ ⟨ehxs_, rfl⟩
    rw [ehxs_]
    clear ehxs_ hxs_
    refine g_aload_n rfl rfl ?_
    refine g_iload_n rfl rfl ?_
    refine g_callVJ [aI ((p : Int))] [aJ (((gAr S p (sGn S p)).natAbs : Int))] rfl rfl rfl rfl (Nat.le_of_ble_eq_true rfl) ms.1 (m_pgOns (by omega) ms ((vset V o 31 0)) (mg.own 0) ok p (by omega)) ?_
    rintro r5 hx5 ⟨ehx5, rfl⟩
    rw [ehx5]
    clear ehx5 hx5
    refine g_lsub rfl (by omega) (by omega) ?_
    refine g_ldc2 rfl ?_
    refine g_ladd rfl (by omega) (by omega) ?_
    refine g_ldc2 rfl ?_
    refine g_ldiv rfl (by omega) ?_
    refine g_lret rfl ?_
    refine ⟨_, rfl, FPm.own V o 0, ?_⟩
    first
      | (refine (if_pos ?_).symm; exact cqs)
      | (refine (if_neg ?_).symm; exact cqs)
  · skip
    refine g_ldc2 rfl ?_
    refine g_lret rfl ?_
    refine ⟨_, rfl, FPm.own V o 0, ?_⟩
    first
      | (refine (if_pos ?_).symm; exact cqs)
      | (refine (if_neg ?_).symm; exact cqs)
set_option maxRecDepth 100000 in
theorem m_pgOf6 {w : aW} {d : Nat} (hd : 24 ≤ d) {h : aH} {o : Nat} (ms : MS h o) (V : Nat → Nat → Int) {S : aS} (mg : MG V o S) (ok : OkG S) (p : Nat) (hp : p < sG S) : WP w d 349 [aO (some o), aI ((p : Int)), aI 6] (hw h V) (RJ (fun r h1 => ∃ V1, h1 = hw h V1 ∧ FPm V V1 o ∧ (r = if bt (gSim S p) = true then gOs S p (sGn S p) else -3))) := by
  obtain ⟨d, rfl⟩ : ∃ d1, d = d1 + 1 := ⟨d - 1, by omega⟩
  refine WP.enter (cd := cd_X12_polygonOf) rfl ?_
  have hok := ok.1
  have hok2 := (ok.2 p hp).1
  have hls : largs 0 [aO (some o), aI ((p : Int)), aI 6] = [(0, aO (some o)), (1, aI ((p : Int))), (2, aI 6)] := rfl
  rw [hls]
  clear hls
  refine g_aload_n rfl rfl ?_
  refine g_iconst rfl ?_
  refine g_putI rfl ms.1 ?_
  refine g_hp (h2 := hw h (vset V o 31 0)) rfl ?_
  refine g_aload_n rfl rfl ?_
  refine g_iload_n rfl rfl ?_
  refine g_callVI [aI ((p : Int))] [] rfl rfl rfl rfl (Nat.le_of_ble_eq_true rfl) ms.1 (m_pgIs (by omega) ms ((vset V o 31 0)) (mg.own 0) ok ((p : Int))) ?_
  rintro r hx ⟨ehx, rfl⟩
  rw [ehx]
  clear ehx hx
  refine g_if_ne_t rfl (by rw [if_pos (by omega)]; decide) ?_
  refine g_iload_n rfl rfl ?_
  refine g_i2l rfl ?_
  refine g_lconst0 rfl ?_
  refine g_ldc2 rfl ?_
  refine g_callSI [aJ 6, aJ 0, aJ 8] [] rfl rfl rfl rfl (Nat.le_of_ble_eq_true rfl) (c_in (by omega) _ _ _ _) ?_
  rintro r1 _ ⟨rfl, rfl⟩
  refine g_if_ne_t rfl (by rw [if_pos (by omega)]; decide) ?_
  refine g_iload_n rfl rfl ?_
  refine g_i2l rfl ?_
  refine g_ldc2 rfl ?_
  refine g_ldc2 rfl ?_
  refine g_callSI [aJ 6, aJ 5, aJ 7] [] rfl rfl rfl rfl (Nat.le_of_ble_eq_true rfl) (c_in (by omega) _ _ _ _) ?_
  rintro r2 _ ⟨rfl, rfl⟩
  refine g_if_eq_f rfl (by rw [if_pos (by omega)]; decide) ?_
  refine g_aload_n rfl rfl ?_
  refine g_iload_n rfl rfl ?_
  refine g_callVI [aI ((p : Int))] [] rfl rfl rfl rfl (Nat.le_of_ble_eq_true rfl) ms.1 (m_pgSim (by omega) ms ((vset V o 31 0)) (mg.own 0) ok p (by omega)) ?_
  rintro r3 hx3 ⟨ehx3, rfl⟩
  rw [ehx3, bt_sim]
  clear ehx3 hx3
  refine g_b_ne rfl (fun cqs => ?_) (fun cqs => ?_)
  · skip
    refine g_iload_n rfl rfl ?_
    refine g_tsw (t := 188) rfl (by rfl) ?_
    refine g_aload_n rfl rfl ?_
    refine g_iload_n rfl rfl ?_
    refine g_callVJ [aI ((p : Int))] [] rfl rfl rfl rfl (Nat.le_of_ble_eq_true rfl) ms.1 (m_pgOns (by omega) ms ((vset V o 31 0)) (mg.own 0) ok p (by omega)) ?_
    rintro r4 hx4 ⟨ehx4, rfl⟩
    rw [ehx4]
    clear ehx4 hx4
    refine g_lret rfl ?_
    refine ⟨_, rfl, FPm.own V o 0, ?_⟩
    first
      | (refine (if_pos ?_).symm; exact cqs)
      | (refine (if_neg ?_).symm; exact cqs)
  · skip
    refine g_ldc2 rfl ?_
    refine g_lret rfl ?_
    refine ⟨_, rfl, FPm.own V o 0, ?_⟩
    first
      | (refine (if_pos ?_).symm; exact cqs)
      | (refine (if_neg ?_).symm; exact cqs)
set_option maxRecDepth 100000 in
theorem m_pgOf7 {w : aW} {d : Nat} (hd : 24 ≤ d) {h : aH} {o : Nat} (ms : MS h o) (V : Nat → Nat → Int) {S : aS} (mg : MG V o S) (ok : OkG S) (p : Nat) (hp : p < sG S) : WP w d 349 [aO (some o), aI ((p : Int)), aI 7] (hw h V) (RJ (fun r h1 => ∃ V1, h1 = hw h V1 ∧ FPm V V1 o ∧ (r = if bt (gSim S p) = true then gTr S p 0 (sGn S p - 1) else -3))) := by
  obtain ⟨d, rfl⟩ : ∃ d1, d = d1 + 1 := ⟨d - 1, by omega⟩
  refine WP.enter (cd := cd_X12_polygonOf) rfl ?_
  have hok := ok.1
  have hok2 := (ok.2 p hp).1
  have hls : largs 0 [aO (some o), aI ((p : Int)), aI 7] = [(0, aO (some o)), (1, aI ((p : Int))), (2, aI 7)] := rfl
  rw [hls]
  clear hls
  refine g_aload_n rfl rfl ?_
  refine g_iconst rfl ?_
  refine g_putI rfl ms.1 ?_
  refine g_hp (h2 := hw h (vset V o 31 0)) rfl ?_
  refine g_aload_n rfl rfl ?_
  refine g_iload_n rfl rfl ?_
  refine g_callVI [aI ((p : Int))] [] rfl rfl rfl rfl (Nat.le_of_ble_eq_true rfl) ms.1 (m_pgIs (by omega) ms ((vset V o 31 0)) (mg.own 0) ok ((p : Int))) ?_
  rintro r hx ⟨ehx, rfl⟩
  rw [ehx]
  clear ehx hx
  refine g_if_ne_t rfl (by rw [if_pos (by omega)]; decide) ?_
  refine g_iload_n rfl rfl ?_
  refine g_i2l rfl ?_
  refine g_lconst0 rfl ?_
  refine g_ldc2 rfl ?_
  refine g_callSI [aJ 7, aJ 0, aJ 8] [] rfl rfl rfl rfl (Nat.le_of_ble_eq_true rfl) (c_in (by omega) _ _ _ _) ?_
  rintro r1 _ ⟨rfl, rfl⟩
  refine g_if_ne_t rfl (by rw [if_pos (by omega)]; decide) ?_
  refine g_iload_n rfl rfl ?_
  refine g_i2l rfl ?_
  refine g_ldc2 rfl ?_
  refine g_ldc2 rfl ?_
  refine g_callSI [aJ 7, aJ 5, aJ 7] [] rfl rfl rfl rfl (Nat.le_of_ble_eq_true rfl) (c_in (by omega) _ _ _ _) ?_
  rintro r2 _ ⟨rfl, rfl⟩
  refine g_if_eq_f rfl (by rw [if_pos (by omega)]; decide) ?_
  refine g_aload_n rfl rfl ?_
  refine g_iload_n rfl rfl ?_
  refine g_callVI [aI ((p : Int))] [] rfl rfl rfl rfl (Nat.le_of_ble_eq_true rfl) ms.1 (m_pgSim (by omega) ms ((vset V o 31 0)) (mg.own 0) ok p (by omega)) ?_
  rintro r3 hx3 ⟨ehx3, rfl⟩
  rw [ehx3, bt_sim]
  clear ehx3 hx3
  refine g_b_ne rfl (fun cqs => ?_) (fun cqs => ?_)
  · skip
    refine g_iload_n rfl rfl ?_
    refine g_tsw (t := 194) rfl (by rfl) ?_
    refine g_aload_n rfl rfl ?_
    refine g_iload_n rfl rfl ?_
    refine g_callVJ [aI ((p : Int))] [] rfl rfl rfl rfl (Nat.le_of_ble_eq_true rfl) ms.1 (m_pgTri (by omega) ms ((vset V o 31 0)) (mg.own 0) ok p (by omega) (bt_iff.mp cqs).1) ?_
    rintro _ _ ⟨V1, rfl, hv, rfl⟩
    refine g_lret rfl ?_
    refine ⟨V1, by first | rfl | rw [eV1], fun a i h1 h2 h3 h4 => by rw [hv a h4]; exact vset_ne _ _ _ _ (by omega), ?_⟩
    first
      | (refine (if_pos ?_).symm; exact cqs)
      | (refine (if_neg ?_).symm; exact cqs)
  · skip
    obtain ⟨V1, eV1⟩ : ∃ W, W = vset V o 31 0 := ⟨_, rfl⟩
    have hv : ∀ q, q ≠ o + 11 → V1 q = (vset V o 31 0) q := fun _ _ => by rw [eV1]
    refine g_ldc2 rfl ?_
    refine g_lret rfl ?_
    refine ⟨V1, by first | rfl | rw [eV1], fun a i h1 h2 h3 h4 => by rw [hv a h4]; exact vset_ne _ _ _ _ (by omega), ?_⟩
    first
      | (refine (if_pos ?_).symm; exact cqs)
      | (refine (if_neg ?_).symm; exact cqs)
set_option maxRecDepth 100000 in
theorem m_pgOf8 {w : aW} {d : Nat} (hd : 24 ≤ d) {h : aH} {o : Nat} (ms : MS h o) (V : Nat → Nat → Int) {S : aS} (mg : MG V o S) (ok : OkG S) (p : Nat) (hp : p < sG S) : WP w d 349 [aO (some o), aI ((p : Int)), aI 8] (hw h V) (RJ (fun r h1 => ∃ V1, h1 = hw h V1 ∧ FPm V V1 o ∧ (gMx S p (sGn S p) (sGn S p) 0 r))) := by
  obtain ⟨d, rfl⟩ : ∃ d1, d = d1 + 1 := ⟨d - 1, by omega⟩
  refine WP.enter (cd := cd_X12_polygonOf) rfl ?_
  have hok := ok.1
  have hok2 := (ok.2 p hp).1
  have hls : largs 0 [aO (some o), aI ((p : Int)), aI 8] = [(0, aO (some o)), (1, aI ((p : Int))), (2, aI 8)] := rfl
  rw [hls]
  clear hls
  refine g_aload_n rfl rfl ?_
  refine g_iconst rfl ?_
  refine g_putI rfl ms.1 ?_
  refine g_hp (h2 := hw h (vset V o 31 0)) rfl ?_
  refine g_aload_n rfl rfl ?_
  refine g_iload_n rfl rfl ?_
  refine g_callVI [aI ((p : Int))] [] rfl rfl rfl rfl (Nat.le_of_ble_eq_true rfl) ms.1 (m_pgIs (by omega) ms ((vset V o 31 0)) (mg.own 0) ok ((p : Int))) ?_
  rintro r hx ⟨ehx, rfl⟩
  rw [ehx]
  clear ehx hx
  refine g_if_ne_t rfl (by rw [if_pos (by omega)]; decide) ?_
  refine g_iload_n rfl rfl ?_
  refine g_i2l rfl ?_
  refine g_lconst0 rfl ?_
  refine g_ldc2 rfl ?_
  refine g_callSI [aJ 8, aJ 0, aJ 8] [] rfl rfl rfl rfl (Nat.le_of_ble_eq_true rfl) (c_in (by omega) _ _ _ _) ?_
  rintro r1 _ ⟨rfl, rfl⟩
  refine g_if_ne_t rfl (by rw [if_pos (by omega)]; decide) ?_
  refine g_iload_n rfl rfl ?_
  refine g_i2l rfl ?_
  refine g_ldc2 rfl ?_
  refine g_ldc2 rfl ?_
  refine g_callSI [aJ 8, aJ 5, aJ 7] [] rfl rfl rfl rfl (Nat.le_of_ble_eq_true rfl) (c_in (by omega) _ _ _ _) ?_
  rintro r2 _ ⟨rfl, rfl⟩
  refine g_if_eq_t rfl (by exact if_neg (by omega)) ?_
  refine g_iload_n rfl rfl ?_
  refine g_tsw (t := 200) rfl (by rfl) ?_
  refine g_aload_n rfl rfl ?_
  refine g_iload_n rfl rfl ?_
  refine g_callVJ [aI ((p : Int))] [] rfl rfl rfl rfl (Nat.le_of_ble_eq_true rfl) ms.1 (m_pgMax (by omega) ms ((vset V o 31 0)) (mg.own 0) ok p (by omega)) ?_
  rintro rg _ ⟨rfl, hg⟩
  refine g_lret rfl ?_
  exact ⟨_, rfl, FPm.own V o 0, hg⟩
set_option maxRecDepth 100000 in
theorem m_pgOfX {w : aW} {d : Nat} (hd : 7 ≤ d) {h : aH} {o : Nat} (ms : MS h o) (V : Nat → Nat → Int) {S : aS} (mg : MG V o S) (ok : OkG S) (p k : Int) (hp : ¬(0 ≤ p ∧ p < sG S) ∨ ¬(0 ≤ k ∧ k ≤ 8)) : WP w d 349 [aO (some o), aI p, aI k] (hw h V) (RJ (fun r h1 => ∃ V1, h1 = hw h V1 ∧ FPm V V1 o ∧ r = if 0 ≤ p ∧ p < sG S then -2 else -1)) := by
  obtain ⟨d, rfl⟩ : ∃ d1, d = d1 + 1 := ⟨d - 1, by omega⟩
  refine WP.enter (cd := cd_X12_polygonOf) rfl ?_
  have hls : largs 0 [aO (some o), aI p, aI k] = [(0, aO (some o)), (1, aI p), (2, aI k)] := rfl
  rw [hls]
  clear hls
  refine g_aload_n rfl rfl ?_
  refine g_iconst rfl ?_
  refine g_putI rfl ms.1 ?_
  refine g_hp (h2 := hw h (vset V o 31 0)) rfl ?_
  refine g_aload_n rfl rfl ?_
  refine g_iload_n rfl rfl ?_
  refine g_callVI [aI p] [] rfl rfl rfl rfl (Nat.le_of_ble_eq_true rfl) ms.1 (m_pgIs (by omega) ms ((vset V o 31 0)) (mg.own 0) ok p) ?_
  rintro r hx ⟨ehx, rfl⟩
  rw [ehx]
  clear ehx hx
  refine g_b_ne rfl (fun cq10 => ?_) (fun cq10 => ?_)
  · skip
    refine g_iload_n rfl rfl ?_
    refine g_i2l rfl ?_
    refine g_lconst0 rfl ?_
    refine g_ldc2 rfl ?_
    refine g_callSI [aJ k, aJ 0, aJ 8] [] rfl rfl rfl rfl (Nat.le_of_ble_eq_true rfl) (c_in (by omega) _ _ _ _) ?_
    rintro r1 _ ⟨rfl, rfl⟩
    refine g_if_ne_f rfl (by exact if_neg (by omega)) ?_
    refine g_ldc2 rfl ?_
    refine g_lret rfl ?_
    refine ⟨_, rfl, FPm.own V o 0, ?_⟩
    first
      | (rw [if_pos (by omega)]; done)
      | (rw [if_neg (by omega)]; done)
  · skip
    refine g_ldc2 rfl ?_
    refine g_lret rfl ?_
    refine ⟨_, rfl, FPm.own V o 0, ?_⟩
    first
      | (rw [if_pos (by omega)]; done)
      | (rw [if_neg (by omega)]; done)
set_option maxRecDepth 100000 in
theorem x_pgWat {w : aW} {d : Nat} (hd : 2 ≤ d) {h : aH} {c : Nat} (cs : CS h c) (V : Nat → Nat → Int) (i : Nat) (hi : i < 12) : WP w d 117 [aO (some (c + 11)), aI ((i : Int))] (hw h V) (RI (fun r h1 => h1 = hw h V ∧ r = V (c + 15) i)) := by
  obtain ⟨d, rfl⟩ : ∃ d1, d = d1 + 1 := ⟨d - 1, by omega⟩
  refine WP.enter (cd := cd_X3_wrapAt) rfl ?_
  have hls : largs 0 [aO (some (c + 11)), aI ((i : Int))] = [(0, aO (some (c + 11))), (1, aI ((i : Int)))] := rfl
  rw [hls]
  clear hls
  refine g_iload_n rfl rfl ?_
  refine g_if_lt_f rfl (by omega) ?_
  refine g_iload_n rfl rfl ?_
  refine g_aload_n rfl rfl ?_
  refine g_getR rfl (cs.kd 11 (by omega) rfl) (cs.rf 19 (by omega) rfl) ?_
  refine g_alen rfl (cs.ar 15 (by omega) rfl) (by decide) ?_
  refine g_icmp_lt_t rfl (by omega) ?_
  refine g_aload_n rfl rfl ?_
  refine g_getR rfl (cs.kd 11 (by omega) rfl) (cs.rf 19 (by omega) rfl) ?_
  refine g_iload_n rfl rfl ?_
  refine g_iald (i := i) rfl (cs.ar 15 (by omega) rfl) (by omega) (by omega) ?_
  refine g_iret rfl ?_
  exact ⟨rfl, rfl⟩
set_option maxRecDepth 100000 in
theorem x_pgXw {w : aW} {d : Nat} (hd : 3 ≤ d) {h : aH} {c : Nat} (cs : CS h c) (V : Nat → Nat → Int) {S : aS} (xg : XG V c S) (ok : OkG S) (p : Nat) (hp : p < sG S) (i : Nat) (hi : i < 12) (q : Nat) (hq : V (c + 15) i = q) (hqn : q < sGn S p) : WP w d 118 [aO (some (c + 11)), aI ((p : Int)), aI ((i : Int))] (hw h V) (RI (fun r h1 => h1 = hw h V ∧ r = gx S p q)) := by
  obtain ⟨d, rfl⟩ : ∃ d1, d = d1 + 1 := ⟨d - 1, by omega⟩
  refine WP.enter (cd := cd_X3_xOfWrap) rfl ?_
  have hls : largs 0 [aO (some (c + 11)), aI ((p : Int)), aI ((i : Int))] = [(0, aO (some (c + 11))), (1, aI ((p : Int))), (2, aI ((i : Int)))] := rfl
  rw [hls]
  clear hls
  refine g_aload_n rfl rfl ?_
  refine g_iload_n rfl rfl ?_
  refine g_aload_n rfl rfl ?_
  refine g_iload_n rfl rfl ?_
  refine g_callVI [aI ((i : Int))] [aI ((p : Int)), aO (some (c + 11))] rfl rfl rfl rfl (Nat.le_of_ble_eq_true rfl) (cs.kd 11 (by omega) rfl) (x_pgWat (by omega) cs V i hi) ?_
  rintro r1 hx1 ⟨ehx1, rfl⟩
  rw [ehx1, hq]
  clear ehx1 hx1
  refine g_callVI [aI ((p : Int)), aI ((q : Int))] [] rfl rfl rfl rfl (Nat.le_of_ble_eq_true rfl) (cs.kd 11 (by omega) rfl) (x_pgX (by omega) cs V xg ok p (by omega) q (by omega)) ?_
  rintro r1 hx1 ⟨ehx1, rfl⟩
  rw [ehx1]
  clear ehx1 hx1
  refine g_iret rfl ?_
  exact ⟨rfl, rfl⟩
set_option maxRecDepth 100000 in
theorem x_pgYw {w : aW} {d : Nat} (hd : 3 ≤ d) {h : aH} {c : Nat} (cs : CS h c) (V : Nat → Nat → Int) {S : aS} (xg : XG V c S) (ok : OkG S) (p : Nat) (hp : p < sG S) (i : Nat) (hi : i < 12) (q : Nat) (hq : V (c + 15) i = q) (hqn : q < sGn S p) : WP w d 119 [aO (some (c + 11)), aI ((p : Int)), aI ((i : Int))] (hw h V) (RI (fun r h1 => h1 = hw h V ∧ r = gy S p q)) := by
  obtain ⟨d, rfl⟩ : ∃ d1, d = d1 + 1 := ⟨d - 1, by omega⟩
  refine WP.enter (cd := cd_X3_yOfWrap) rfl ?_
  have hls : largs 0 [aO (some (c + 11)), aI ((p : Int)), aI ((i : Int))] = [(0, aO (some (c + 11))), (1, aI ((p : Int))), (2, aI ((i : Int)))] := rfl
  rw [hls]
  clear hls
  refine g_aload_n rfl rfl ?_
  refine g_iload_n rfl rfl ?_
  refine g_aload_n rfl rfl ?_
  refine g_iload_n rfl rfl ?_
  refine g_callVI [aI ((i : Int))] [aI ((p : Int)), aO (some (c + 11))] rfl rfl rfl rfl (Nat.le_of_ble_eq_true rfl) (cs.kd 11 (by omega) rfl) (x_pgWat (by omega) cs V i hi) ?_
  rintro r1 hx1 ⟨ehx1, rfl⟩
  rw [ehx1, hq]
  clear ehx1 hx1
  refine g_callVI [aI ((p : Int)), aI ((q : Int))] [] rfl rfl rfl rfl (Nat.le_of_ble_eq_true rfl) (cs.kd 11 (by omega) rfl) (x_pgY (by omega) cs V xg ok p (by omega) q (by omega)) ?_
  rintro r1 hx1 ⟨ehx1, rfl⟩
  rw [ehx1]
  clear ehx1 hx1
  refine g_iret rfl ?_
  exact ⟨rfl, rfl⟩
set_option maxRecDepth 100000 in
theorem f_aro1 {w : aW} {d : Nat} (hd : 24 ≤ d) {h : aH} {c : Nat} (cs : CS h c) (V : Nat → Nat → Int) {S : aS} (xg : XG V c S) (ok : OkG S) (p : Nat) (hp : p < sG S) (i k : Int) (hn : 0 < sGn S p) : WP w d 214 [aO (some c), aI ((p : Int)), aI i, aI k] (hw h V) (RI (fun r h1 => ∃ V1, h1 = hw h V1 ∧ FPg V V1 c ∧ ((sGn S p = 0 ∧ r = -2) ∨ ∃ t f : Nat, gLe S p f ∧ gEnd S p f t ∧ ((¬ ((0 ≤ i ∧ i < t) ∧ 0 ≤ k ∧ k ≤ 1) ∧ r = -2) ∨ (((0 ≤ i ∧ i < t) ∧ 0 ≤ k ∧ k ≤ 1) ∧ ∃ q : Nat, gIt S p f i.toNat = q ∧ q < sGn S p ∧ r = if k = 0 then gx S p q else gy S p q))))) := by
  obtain ⟨d, rfl⟩ : ∃ d1, d = d1 + 1 := ⟨d - 1, by omega⟩
  refine WP.enter (cd := cd_X11_around) rfl ?_
  have hls : largs 0 [aO (some c), aI ((p : Int)), aI i, aI k] = [(0, aO (some c)), (1, aI ((p : Int))), (2, aI i), (3, aI k)] := rfl
  rw [hls]
  clear hls
  refine g_aload_n rfl rfl ?_
  refine g_getR rfl (cs.kd 0 (by omega) rfl) (cs.rf 21 (by omega) rfl) ?_
  refine g_iload_n rfl rfl ?_
  refine g_callVI [aI ((p : Int))] [] rfl rfl rfl rfl (Nat.le_of_ble_eq_true rfl) (cs.kd 11 (by omega) rfl) (x_pgHas (by omega) cs V xg ok ((p : Int))) ?_
  rintro r hx ⟨ehx, rfl⟩
  rw [ehx]
  clear ehx hx
  refine g_if_ne_t rfl (by rw [if_pos (by omega)]; decide) ?_
  refine g_aload_n rfl rfl ?_
  refine g_getR rfl (cs.kd 0 (by omega) rfl) (cs.rf 21 (by omega) rfl) ?_
  refine g_iload_n rfl rfl ?_
  refine g_callVI [aI ((p : Int))] [] rfl rfl rfl rfl (Nat.le_of_ble_eq_true rfl) (cs.kd 11 (by omega) rfl) (x_pgWrap (by omega) cs V xg ok p (by omega) hn) ?_
  rintro _ _ ⟨V1, rfl, hv, t, f, rfl, q1, q2, q3⟩
  have xg1 : XG V1 c S := xg.fr (fun a h1 h2 => hv a (by omega))
  have q0 := q2.1
  refine g_istore (l1 := [(4, aI ((t : Int))), (0, aO (some c)), (1, aI ((p : Int))), (2, aI i), (3, aI k)]) rfl rfl ?_
  refine g_iload_n rfl rfl ?_
  refine g_if_lt rfl (fun cq24 => ?_) (fun cq24 => ?_)
  · skip
    refine g_bipush rfl ?_
    refine g_iret rfl ?_
    exact ⟨V1, rfl, fun a h1 _ => hv a h1, Or.inr ⟨t, f, q1, q2, Or.inl ⟨by omega, rfl⟩⟩⟩
  · skip
    refine g_iload_n rfl rfl ?_
    refine g_iload rfl rfl ?_
    refine g_icmp_ge rfl (fun cq30 => ?_) (fun cq30 => ?_)
    · skip
      refine g_bipush rfl ?_
      refine g_iret rfl ?_
      exact ⟨V1, rfl, fun a h1 _ => hv a h1, Or.inr ⟨t, f, q1, q2, Or.inl ⟨by omega, rfl⟩⟩⟩
    · skip
      refine g_iload_n rfl rfl ?_
      refine g_if_lt rfl (fun cq34 => ?_) (fun cq34 => ?_)
      · skip
        refine g_bipush rfl ?_
        refine g_iret rfl ?_
        exact ⟨V1, rfl, fun a h1 _ => hv a h1, Or.inr ⟨t, f, q1, q2, Or.inl ⟨by omega, rfl⟩⟩⟩
      · skip
        refine g_iload_n rfl rfl ?_
        refine g_iconst rfl ?_
        refine g_icmp_le rfl (fun cq39 => ?_) (fun cq39 => ?_)
        · skip
          obtain ⟨j, rfl⟩ : ∃ j : Nat, i = j := ⟨i.toNat, by omega⟩
          have hj0 := q2.2.1 j (by omega)
          have hjb := gIt_b q1.1 j
          obtain ⟨q, eq_⟩ : ∃ q : Nat, gIt S p f j = q := ⟨(gIt S p f j).toNat, by omega⟩
          have hqn : q < sGn S p := by omega
          refine g_iload_n rfl rfl ?_
          refine g_if_ne rfl (fun cq46 => ?_) (fun cq46 => ?_)
          · skip
            refine g_aload_n rfl rfl ?_
            refine g_getR rfl (cs.kd 0 (by omega) rfl) (cs.rf 21 (by omega) rfl) ?_
            refine g_iload_n rfl rfl ?_
            refine g_iload_n rfl rfl ?_
            refine g_callVI [aI ((p : Int)), aI ((j : Int))] [] rfl rfl rfl rfl (Nat.le_of_ble_eq_true rfl) (cs.kd 11 (by omega) rfl) (x_pgYw (by omega) cs V1 xg1 ok p (by omega) j (by omega) q (by rw [q3 j (by omega)]; exact eq_) hqn) ?_
            rintro _ _ ⟨rfl, rfl⟩
            refine g_iret rfl ?_
            refine ⟨V1, rfl, fun a h1 _ => hv a h1, Or.inr ⟨t, f, q1, q2, Or.inr ⟨by omega, q, eq_, hqn, ?_⟩⟩⟩
            first
              | (rw [if_pos (by omega)]; done)
              | (rw [if_neg (by omega)]; done)
          · skip
            refine g_aload_n rfl rfl ?_
            refine g_getR rfl (cs.kd 0 (by omega) rfl) (cs.rf 21 (by omega) rfl) ?_
            refine g_iload_n rfl rfl ?_
            refine g_iload_n rfl rfl ?_
            refine g_callVI [aI ((p : Int)), aI ((j : Int))] [] rfl rfl rfl rfl (Nat.le_of_ble_eq_true rfl) (cs.kd 11 (by omega) rfl) (x_pgXw (by omega) cs V1 xg1 ok p (by omega) j (by omega) q (by rw [q3 j (by omega)]; exact eq_) hqn) ?_
            rintro _ _ ⟨rfl, rfl⟩
            refine g_goto rfl ?_
            refine g_iret rfl ?_
            refine ⟨V1, rfl, fun a h1 _ => hv a h1, Or.inr ⟨t, f, q1, q2, Or.inr ⟨by omega, q, eq_, hqn, ?_⟩⟩⟩
            first
              | (rw [if_pos (by omega)]; done)
              | (rw [if_neg (by omega)]; done)
        · skip
          refine g_bipush rfl ?_
          refine g_iret rfl ?_
          exact ⟨V1, rfl, fun a h1 _ => hv a h1, Or.inr ⟨t, f, q1, q2, Or.inl ⟨by omega, rfl⟩⟩⟩
set_option maxRecDepth 100000 in
theorem f_aro0 {w : aW} {d : Nat} (hd : 24 ≤ d) {h : aH} {c : Nat} (cs : CS h c) (V : Nat → Nat → Int) {S : aS} (xg : XG V c S) (ok : OkG S) (p : Nat) (hp : p < sG S) (i k : Int) (hn : sGn S p = 0) : WP w d 214 [aO (some c), aI ((p : Int)), aI i, aI k] (hw h V) (RI (fun r h1 => ∃ V1, h1 = hw h V1 ∧ FPg V V1 c ∧ ((sGn S p = 0 ∧ r = -2) ∨ ∃ t f : Nat, gLe S p f ∧ gEnd S p f t ∧ ((¬ ((0 ≤ i ∧ i < t) ∧ 0 ≤ k ∧ k ≤ 1) ∧ r = -2) ∨ (((0 ≤ i ∧ i < t) ∧ 0 ≤ k ∧ k ≤ 1) ∧ ∃ q : Nat, gIt S p f i.toNat = q ∧ q < sGn S p ∧ r = if k = 0 then gx S p q else gy S p q))))) := by
  obtain ⟨d, rfl⟩ : ∃ d1, d = d1 + 1 := ⟨d - 1, by omega⟩
  refine WP.enter (cd := cd_X11_around) rfl ?_
  have hls : largs 0 [aO (some c), aI ((p : Int)), aI i, aI k] = [(0, aO (some c)), (1, aI ((p : Int))), (2, aI i), (3, aI k)] := rfl
  rw [hls]
  clear hls
  refine g_aload_n rfl rfl ?_
  refine g_getR rfl (cs.kd 0 (by omega) rfl) (cs.rf 21 (by omega) rfl) ?_
  refine g_iload_n rfl rfl ?_
  refine g_callVI [aI ((p : Int))] [] rfl rfl rfl rfl (Nat.le_of_ble_eq_true rfl) (cs.kd 11 (by omega) rfl) (x_pgHas (by omega) cs V xg ok ((p : Int))) ?_
  rintro r hx ⟨ehx, rfl⟩
  rw [ehx]
  clear ehx hx
  refine g_if_ne_t rfl (by rw [if_pos (by omega)]; decide) ?_
  refine g_aload_n rfl rfl ?_
  refine g_getR rfl (cs.kd 0 (by omega) rfl) (cs.rf 21 (by omega) rfl) ?_
  refine g_iload_n rfl rfl ?_
  refine g_callVI [aI ((p : Int))] [] rfl rfl rfl rfl (Nat.le_of_ble_eq_true rfl) (cs.kd 11 (by omega) rfl) (x_pgWrap0 (by omega) cs V xg ok p (by omega) hn) ?_
  rintro _ _ ⟨rfl, rfl⟩
  refine g_istore (l1 := [(4, aI 0), (0, aO (some c)), (1, aI ((p : Int))), (2, aI i), (3, aI k)]) rfl rfl ?_
  refine g_iload_n rfl rfl ?_
  refine g_if_lt rfl (fun cq24 => ?_) (fun cq24 => ?_)
  · skip
    refine g_bipush rfl ?_
    refine g_iret rfl ?_
    exact ⟨V, rfl, fun _ _ _ => rfl, Or.inl ⟨hn, rfl⟩⟩
  · skip
    refine g_iload_n rfl rfl ?_
    refine g_iload rfl rfl ?_
    refine g_icmp_ge_t rfl (by omega) ?_
    refine g_bipush rfl ?_
    refine g_iret rfl ?_
    exact ⟨V, rfl, fun _ _ _ => rfl, Or.inl ⟨hn, rfl⟩⟩
theorem f_around {w : aW} {d : Nat} (hd : 24 ≤ d) {h : aH} {c : Nat} (cs : CS h c) (V : Nat → Nat → Int) {S : aS} (xg : XG V c S) (ok : OkG S) (p : Nat) (hp : p < sG S) (i k : Int) : WP w d 214 [aO (some c), aI ((p : Int)), aI i, aI k] (hw h V) (RI (fun r h1 => ∃ V1, h1 = hw h V1 ∧ FPg V V1 c ∧ ((sGn S p = 0 ∧ r = -2) ∨ ∃ t f : Nat, gLe S p f ∧ gEnd S p f t ∧ ((¬ ((0 ≤ i ∧ i < t) ∧ 0 ≤ k ∧ k ≤ 1) ∧ r = -2) ∨ (((0 ≤ i ∧ i < t) ∧ 0 ≤ k ∧ k ≤ 1) ∧ ∃ q : Nat, gIt S p f i.toNat = q ∧ q < sGn S p ∧ r = if k = 0 then gx S p q else gy S p q))))) := by
  by_cases q : sGn S p = 0
  · exact f_aro0 (by omega) cs V xg ok p hp i k q
  · exact f_aro1 (by omega) cs V xg ok p hp i k (by omega)
set_option maxRecDepth 100000 in
theorem f_aroundX {w : aW} {d : Nat} (hd : 24 ≤ d) {h : aH} {c : Nat} (cs : CS h c) (V : Nat → Nat → Int) {S : aS} (xg : XG V c S) (ok : OkG S) (p i k : Int) (hp : ¬(0 ≤ p ∧ p < sG S)) : WP w d 214 [aO (some c), aI p, aI i, aI k] (hw h V) (RI (fun r h1 => h1 = hw h V ∧ r = -1)) := by
  obtain ⟨d, rfl⟩ : ∃ d1, d = d1 + 1 := ⟨d - 1, by omega⟩
  refine WP.enter (cd := cd_X11_around) rfl ?_
  have hls : largs 0 [aO (some c), aI p, aI i, aI k] = [(0, aO (some c)), (1, aI p), (2, aI i), (3, aI k)] := rfl
  rw [hls]
  clear hls
  refine g_aload_n rfl rfl ?_
  refine g_getR rfl (cs.kd 0 (by omega) rfl) (cs.rf 21 (by omega) rfl) ?_
  refine g_iload_n rfl rfl ?_
  refine g_callVI [aI p] [] rfl rfl rfl rfl (Nat.le_of_ble_eq_true rfl) (cs.kd 11 (by omega) rfl) (x_pgHas (by omega) cs V xg ok p) ?_
  rintro r hx ⟨ehx, rfl⟩
  rw [ehx]
  clear ehx hx
  refine g_if_ne_f rfl (by exact if_neg hp) ?_
  refine g_iconst rfl ?_
  refine g_iret rfl ?_
  exact ⟨rfl, rfl⟩
theorem WrH.b {S : aS} {p : Nat} {V1 : Nat → Nat → Int} {o : Nat} {r : Int} (h : WrH S p V1 o r) : 0 ≤ r ∧ r ≤ 12 := by
  obtain ⟨H, m, hr, -, ⟨h0, -⟩ | ⟨h0, -⟩ | h0⟩ := h
  · omega
  · omega
  · have := h0.1
    omega
theorem WrH.at {S : aS} {p : Nat} {V1 : Nat → Nat → Int} {o : Nat} {r : Int} (h : WrH S p V1 o r) (j : Nat) (hj : (j : Int) < r) : ∃ q : Nat, V1 (o + 9) j = ((12 * p + q : Nat) : Int) ∧ q < sGn S p := by
  obtain ⟨H, m, hr, hv, -⟩ := h
  exact ⟨H j, hv j (by omega)⟩
set_option maxRecDepth 100000 in
theorem m_pgAro {w : aW} {d : Nat} (hd : 24 ≤ d) {h : aH} {o : Nat} (ms : MS h o) (V : Nat → Nat → Int) {S : aS} (mg : MG V o S) (ok : OkG S) (p : Nat) (hp : p < sG S) (i k : Int) : WP w d 351 [aO (some o), aI ((p : Int)), aI i, aI k] (hw h V) (RI (fun r h1 => ∃ V1, h1 = hw h V1 ∧ FPm V V1 o ∧ (∃ n : Int, WrH S p V1 o n ∧ ((¬ ((0 ≤ i ∧ i < n) ∧ 0 ≤ k ∧ k ≤ 1) ∧ r = -2) ∨ (((0 ≤ i ∧ i < n) ∧ 0 ≤ k ∧ k ≤ 1) ∧ ∃ q : Nat, V1 (o + 9) i.toNat = ((12 * p + q : Nat) : Int) ∧ q < sGn S p ∧ r = if k = 0 then gx S p q else gy S p q))))) := by
  obtain ⟨d, rfl⟩ : ∃ d1, d = d1 + 1 := ⟨d - 1, by omega⟩
  refine WP.enter (cd := cd_X12_around_) rfl ?_
  have hok := ok.1
  have hok2 := (ok.2 p hp).1
  have hls : largs 0 [aO (some o), aI ((p : Int)), aI i, aI k] = [(0, aO (some o)), (1, aI ((p : Int))), (2, aI i), (3, aI k)] := rfl
  rw [hls]
  clear hls
  refine g_aload_n rfl rfl ?_
  refine g_iconst rfl ?_
  refine g_putI rfl ms.1 ?_
  refine g_hp (h2 := hw h (vset V o 31 0)) rfl ?_
  refine g_aload_n rfl rfl ?_
  refine g_iload_n rfl rfl ?_
  refine g_callVI [aI ((p : Int))] [] rfl rfl rfl rfl (Nat.le_of_ble_eq_true rfl) ms.1 (m_pgIs (by omega) ms ((vset V o 31 0)) (mg.own 0) ok ((p : Int))) ?_
  rintro r hx ⟨ehx, rfl⟩
  rw [ehx]
  clear ehx hx
  refine g_if_ne_t rfl (by rw [if_pos (by omega)]; decide) ?_
  refine g_aload_n rfl rfl ?_
  refine g_iload_n rfl rfl ?_
  refine g_callVI [aI ((p : Int))] [] rfl rfl rfl rfl (Nat.le_of_ble_eq_true rfl) ms.1 (m_pgWrap (by omega) ms ((vset V o 31 0)) (mg.own 0) ok p (by omega)) ?_
  rintro n _ ⟨V1, rfl, hv, hq0⟩
  have hq := wr_h hok2 hq0
  clear hq0
  have hn0 : 0 ≤ n ∧ n ≤ 12 := hq.b
  have mg1 : MG V1 o S := (mg.own 0).fr (by rw [hv o (by omega) (by omega)]) (fun q h1 h2 => hv q (by omega) (by omega))
  refine g_istore (l1 := [(4, aI n), (0, aO (some o)), (1, aI ((p : Int))), (2, aI i), (3, aI k)]) rfl rfl ?_
  refine g_iload_n rfl rfl ?_
  refine g_i2l rfl ?_
  refine g_lconst0 rfl ?_
  refine g_iload rfl rfl ?_
  refine g_iconst rfl ?_
  refine g_isub rfl (by omega) (by omega) ?_
  refine g_i2l rfl ?_
  refine g_callSI [aJ i, aJ 0, aJ (n - 1)] [] rfl rfl rfl rfl (Nat.le_of_ble_eq_true rfl) (c_in (by omega) _ _ _ _) ?_
  rintro r1 _ ⟨rfl, rfl⟩
  refine g_b_eq rfl (fun cq33 => ?_) (fun cq33 => ?_)
  · skip
    refine g_bipush rfl ?_
    refine g_iret rfl ?_
    exact ⟨V1, rfl, fun a i h1 h2 h3 _ => by rw [hv a h2 h3]; exact vset_ne _ _ _ _ (by omega), n, hq, Or.inl ⟨by omega, rfl⟩⟩
  · skip
    refine g_iload_n rfl rfl ?_
    refine g_i2l rfl ?_
    refine g_lconst0 rfl ?_
    refine g_lconst1 rfl ?_
    refine g_callSI [aJ k, aJ 0, aJ 1] [] rfl rfl rfl rfl (Nat.le_of_ble_eq_true rfl) (c_in (by omega) _ _ _ _) ?_
    rintro r2 _ ⟨rfl, rfl⟩
    refine g_b_ne rfl (fun cq43 => ?_) (fun cq43 => ?_)
    · skip
      obtain ⟨j, rfl⟩ : ∃ j : Nat, i = j := ⟨i.toNat, by omega⟩
      obtain ⟨q, eq_, hqn⟩ := hq.at j (by omega)
      refine g_iload_n rfl rfl ?_
      refine g_if_ne rfl (fun cq50 => ?_) (fun cq50 => ?_)
      · skip
        refine g_aload_n rfl rfl ?_
        refine g_getR rfl ms.1 (mr_py ms) ?_
        refine g_aload_n rfl rfl ?_
        refine g_getR rfl ms.1 (mr_hull ms) ?_
        refine g_iload_n rfl rfl ?_
        refine g_iald (i := j) rfl (mt_hull ms) (by omega) (by omega) ?_
        refine g_top (v2 := aI (((12 * p + q : Nat) : Int))) (congrArg aI (by exact eq_)) ?_
        refine g_iald (i := 12 * p + q) rfl (mt_py ms) (by omega) (by omega) ?_
        refine g_top (v2 := aI (gy S p q)) (congrArg aI (by exact ((mg1.2 p hp).2 q (by omega)).2)) ?_
        refine g_iret rfl ?_
        refine ⟨V1, rfl, fun a i h1 h2 h3 _ => by rw [hv a h2 h3]; exact vset_ne _ _ _ _ (by omega), n, hq, Or.inr ⟨by omega, q, eq_, hqn, ?_⟩⟩
        first
          | (rw [if_pos (by omega)]; done)
          | (rw [if_neg (by omega)]; done)
      · skip
        refine g_aload_n rfl rfl ?_
        refine g_getR rfl ms.1 (mr_px ms) ?_
        refine g_aload_n rfl rfl ?_
        refine g_getR rfl ms.1 (mr_hull ms) ?_
        refine g_iload_n rfl rfl ?_
        refine g_iald (i := j) rfl (mt_hull ms) (by omega) (by omega) ?_
        refine g_top (v2 := aI (((12 * p + q : Nat) : Int))) (congrArg aI (by exact eq_)) ?_
        refine g_iald (i := 12 * p + q) rfl (mt_px ms) (by omega) (by omega) ?_
        refine g_top (v2 := aI (gx S p q)) (congrArg aI (by exact ((mg1.2 p hp).2 q (by omega)).1)) ?_
        refine g_goto rfl ?_
        refine g_iret rfl ?_
        refine ⟨V1, rfl, fun a i h1 h2 h3 _ => by rw [hv a h2 h3]; exact vset_ne _ _ _ _ (by omega), n, hq, Or.inr ⟨by omega, q, eq_, hqn, ?_⟩⟩
        first
          | (rw [if_pos (by omega)]; done)
          | (rw [if_neg (by omega)]; done)
    · skip
      refine g_bipush rfl ?_
      refine g_iret rfl ?_
      exact ⟨V1, rfl, fun a i h1 h2 h3 _ => by rw [hv a h2 h3]; exact vset_ne _ _ _ _ (by omega), n, hq, Or.inl ⟨by omega, rfl⟩⟩
set_option maxRecDepth 100000 in
theorem m_aroundX {w : aW} {d : Nat} (hd : 24 ≤ d) {h : aH} {o : Nat} (ms : MS h o) (V : Nat → Nat → Int) {S : aS} (mg : MG V o S) (ok : OkG S) (p i k : Int) (hp : ¬(0 ≤ p ∧ p < sG S)) : WP w d 351 [aO (some o), aI p, aI i, aI k] (hw h V) (RI (fun r h1 => ∃ V1, h1 = hw h V1 ∧ FPm V V1 o ∧ r = -1)) := by
  obtain ⟨d, rfl⟩ : ∃ d1, d = d1 + 1 := ⟨d - 1, by omega⟩
  refine WP.enter (cd := cd_X12_around_) rfl ?_
  have hls : largs 0 [aO (some o), aI p, aI i, aI k] = [(0, aO (some o)), (1, aI p), (2, aI i), (3, aI k)] := rfl
  rw [hls]
  clear hls
  refine g_aload_n rfl rfl ?_
  refine g_iconst rfl ?_
  refine g_putI rfl ms.1 ?_
  refine g_hp (h2 := hw h (vset V o 31 0)) rfl ?_
  refine g_aload_n rfl rfl ?_
  refine g_iload_n rfl rfl ?_
  refine g_callVI [aI p] [] rfl rfl rfl rfl (Nat.le_of_ble_eq_true rfl) ms.1 (m_pgIs (by omega) ms ((vset V o 31 0)) (mg.own 0) ok p) ?_
  rintro r hx ⟨ehx, rfl⟩
  rw [ehx]
  clear ehx hx
  refine g_if_ne_f rfl (by exact if_neg hp) ?_
  refine g_iconst rfl ?_
  refine g_iret rfl ?_
  exact ⟨_, rfl, FPm.own V o 0, rfl⟩
set_option maxRecDepth 100000 in
theorem f_place {w : aW} {d : Nat} (hd : 24 ≤ d) {h : aH} {c : Nat} (cs : CS h c) (V : Nat → Nat → Int) (ci : CI (hw h V) c) {S : aS} (xg : XG V c S) (ok : OkG S) (xt : XT (hw h V) c S) (okt : OkT S) (p t : Int) (hw0 : isS S t 0 → 0 ≤ sTp S t.toNat 2) : WP w d 213 [aO (some c), aI p, aI t] (hw h V) (RI (fun r h1 => h1 = hw h V ∧ r = if ¬((0 ≤ p ∧ p < sG S) ∧ isS S t 0) then -1 else if sTp S t.toNat 2 = 0 ∨ ¬ bt (gSim S p.toNat) = true then -3 else gWh S p.toNat (sTp S t.toNat 0) (sTp S t.toNat 1) (sTp S t.toNat 2))) := by
  obtain ⟨d, rfl⟩ : ∃ d1, d = d1 + 1 := ⟨d - 1, by omega⟩
  refine WP.enter (cd := cd_X11_place) rfl ?_
  obtain ⟨so, eso⟩ : ∃ z : Int, z = if 0 ≤ t ∧ t < sT S then sTs S t.toNat else -1 := ⟨_, rfl⟩
  have hso : isS S t 0 ↔ so = 0 := by
    unfold isS
    rw [eso]
    split <;> omega
  have hls : largs 0 [aO (some c), aI p, aI t] = [(0, aO (some c)), (1, aI p), (2, aI t)] := rfl
  rw [hls]
  clear hls
  refine g_aload_n rfl rfl ?_
  refine g_getR rfl (cs.kd 0 (by omega) rfl) (cs.rf 21 (by omega) rfl) ?_
  refine g_iload_n rfl rfl ?_
  refine g_callVI [aI p] [] rfl rfl rfl rfl (Nat.le_of_ble_eq_true rfl) (cs.kd 11 (by omega) rfl) (x_pgHas (by omega) cs V xg ok p) ?_
  rintro r hx ⟨ehx, rfl⟩
  rw [ehx]
  clear ehx hx
  refine g_b_eq rfl (fun cq8 => ?_) (fun cq8 => ?_)
  · skip
    refine g_iconst rfl ?_
    refine g_iret rfl ?_
    refine ⟨rfl, (if_pos ?_).symm⟩
    intro z
    have z1 := z.1
    have z2 := hso.mp z.2
    omega
  · skip
    refine g_aload_n rfl rfl ?_
    refine g_getR rfl (cs.kd 0 (by omega) rfl) (cs.rf 11 (by omega) rfl) ?_
    refine g_iload_n rfl rfl ?_
    refine g_callVI [aI t] [] rfl rfl rfl rfl (Nat.le_of_ble_eq_true rfl) (cs.kd 7 (by omega) rfl) (t_sortOf (by omega) ci xt okt t) ?_
    rintro r2 hx2 ⟨ehx2, rfl⟩
    rw [ehx2]
    clear ehx2 hx2
    rw [← eso]
    refine g_if_eq rfl (fun cq19 => ?_) (fun cq19 => ?_)
    · skip
      have ht : isS S t 0 := hso.mpr (by omega)
      have ht1 : 0 ≤ t ∧ t < sT S := ht.1
      have hb0 := okt.p ht.1 (k := 0) (by omega)
      have hb1 := okt.p ht.1 (k := 1) (by omega)
      have hb2 := okt.p ht.1 (k := 2) (by omega)
      have hb3 := hw0 ht
      refine g_aload_n rfl rfl ?_
      refine g_getR rfl (cs.kd 0 (by omega) rfl) (cs.rf 11 (by omega) rfl) ?_
      refine g_iload_n rfl rfl ?_
      refine g_iconst rfl ?_
      refine g_callVJ [aI t, aI 2] [] rfl rfl rfl rfl (Nat.le_of_ble_eq_true rfl) (cs.kd 7 (by omega) rfl) (t_partOf (by omega) ci xt okt t ht.1 2 (by omega)) ?_
      rintro r_ hx_ ⟨ehx_, rfl⟩
      rw [ehx_]
      clear ehx_ hx_
      refine g_lstore_n (l1 := [(3, aJ (sTp S t.toNat 2)), (0, aO (some c)), (1, aI p), (2, aI t)]) rfl rfl ?_
      refine g_lload_n rfl rfl ?_
      refine g_lconst0 rfl ?_
      refine g_lc_eq rfl rfl (fun cq36 => ?_) (fun cq36 => ?_)
      · skip
        refine g_bipush rfl ?_
        refine g_iret rfl ?_
        refine ⟨rfl, ?_⟩
        refine Eq.symm ((if_neg ?_).trans ?_)
        · exact fun z => z ⟨by omega, ht⟩
        refine if_pos ?_
        first
          | (refine Or.inl ?_; omega)
          | (refine Or.inr ?_; exact cq48)
      · skip
        obtain ⟨q, rfl⟩ : ∃ q : Nat, p = q := ⟨p.toNat, by omega⟩
        refine g_aload_n rfl rfl ?_
        refine g_getR rfl (cs.kd 0 (by omega) rfl) (cs.rf 21 (by omega) rfl) ?_
        refine g_iload_n rfl rfl ?_
        refine g_callVI [aI ((q : Int))] [] rfl rfl rfl rfl (Nat.le_of_ble_eq_true rfl) (cs.kd 11 (by omega) rfl) (x_pgSim (by omega) cs V xg ok q (by omega)) ?_
        rintro r5 hx5 ⟨ehx5, rfl⟩
        rw [ehx5]
        clear ehx5 hx5
        refine g_b_ne rfl (fun cq48 => ?_) (fun cq48 => ?_)
        · skip
          refine g_aload_n rfl rfl ?_
          refine g_getR rfl (cs.kd 0 (by omega) rfl) (cs.rf 21 (by omega) rfl) ?_
          refine g_iload_n rfl rfl ?_
          refine g_aload_n rfl rfl ?_
          refine g_getR rfl (cs.kd 0 (by omega) rfl) (cs.rf 11 (by omega) rfl) ?_
          refine g_iload_n rfl rfl ?_
          refine g_iconst rfl ?_
          refine g_callVJ [aI t, aI 0] [aI ((q : Int)), aO (some (c + 11))] rfl rfl rfl rfl (Nat.le_of_ble_eq_true rfl) (cs.kd 7 (by omega) rfl) (t_partOf (by omega) ci xt okt t ht.1 0 (by omega)) ?_
          rintro r_ hx_ ⟨ehx_, rfl⟩
          rw [ehx_]
          clear ehx_ hx_
          refine g_aload_n rfl rfl ?_
          refine g_getR rfl (cs.kd 0 (by omega) rfl) (cs.rf 11 (by omega) rfl) ?_
          refine g_iload_n rfl rfl ?_
          refine g_iconst rfl ?_
          refine g_callVJ [aI t, aI 1] [aJ (sTp S t.toNat 0), aI ((q : Int)), aO (some (c + 11))] rfl rfl rfl rfl (Nat.le_of_ble_eq_true rfl) (cs.kd 7 (by omega) rfl) (t_partOf (by omega) ci xt okt t ht.1 1 (by omega)) ?_
          rintro r_ hx_ ⟨ehx_, rfl⟩
          rw [ehx_]
          clear ehx_ hx_
          refine g_lload_n rfl rfl ?_
          refine g_callVI [aI ((q : Int)), aJ (sTp S t.toNat 0), aJ (sTp S t.toNat 1), aJ (sTp S t.toNat 2)] [] rfl rfl rfl rfl (Nat.le_of_ble_eq_true rfl) (cs.kd 11 (by omega) rfl) (x_pgWhere (by omega) cs V xg ok q (by omega) _ _ _ hb0 hb1 ⟨by omega, hb2.2⟩) ?_
          rintro r6 hx6 ⟨ehx6, rfl⟩
          rw [ehx6]
          clear ehx6 hx6
          refine g_iret rfl ?_
          refine ⟨rfl, ?_⟩
          refine Eq.symm ((if_neg ?_).trans ?_)
          · exact fun z => z ⟨by omega, ht⟩
          refine if_neg ?_
          intro z
          rcases z with z | z
          · omega
          · exact z cq48
        · skip
          refine g_bipush rfl ?_
          refine g_iret rfl ?_
          refine ⟨rfl, ?_⟩
          refine Eq.symm ((if_neg ?_).trans ?_)
          · exact fun z => z ⟨by omega, ht⟩
          refine if_pos ?_
          first
            | (refine Or.inl ?_; omega)
            | (refine Or.inr ?_; exact cq48)
    · skip
      refine g_iconst rfl ?_
      refine g_iret rfl ?_
      refine ⟨rfl, (if_pos ?_).symm⟩
      intro z
      have z1 := z.1
      have z2 := hso.mp z.2
      omega
set_option maxRecDepth 100000 in
theorem m_place {w : aW} {d : Nat} (hd : 24 ≤ d) {h : aH} {o : Nat} (ms : MS h o) (V : Nat → Nat → Int) {S : aS} (mg : MG V o S) (ok : OkG S) (okt : OkT S) (mt : MT V o S) (p t : Int) (hw0 : isS S t 0 → 0 ≤ sTp S t.toNat 2) : WP w d 350 [aO (some o), aI p, aI t] (hw h V) (RI (fun r h1 => ∃ V1, h1 = hw h V1 ∧ FPm V V1 o ∧ r = if ¬((0 ≤ p ∧ p < sG S) ∧ isS S t 0) then -1 else if sTp S t.toNat 2 = 0 ∨ ¬ bt (gSim S p.toNat) = true then -3 else gWh S p.toNat (sTp S t.toNat 0) (sTp S t.toNat 1) (sTp S t.toNat 2))) := by
  obtain ⟨d, rfl⟩ : ∃ d1, d = d1 + 1 := ⟨d - 1, by omega⟩
  refine WP.enter (cd := cd_X12_place) rfl ?_
  have mt0 : MT (vset V o 31 0) o S := by
    unfold MT
    rw [vset_ne _ _ _ _ (by omega)]
    exact ⟨mt.1, fun i hi => ⟨by rw [vset_ne _ _ _ _ (by omega)]; exact (mt.2 i hi).1, fun k hk => by rw [vset_ne _ _ _ _ (by omega)]; exact (mt.2 i hi).2 k hk⟩⟩
  have hn := okt.1
  have hls : largs 0 [aO (some o), aI p, aI t] = [(0, aO (some o)), (1, aI p), (2, aI t)] := rfl
  rw [hls]
  clear hls
  refine g_aload_n rfl rfl ?_
  refine g_iconst rfl ?_
  refine g_putI rfl ms.1 ?_
  refine g_hp (h2 := hw h (vset V o 31 0)) rfl ?_
  refine g_aload_n rfl rfl ?_
  refine g_iload_n rfl rfl ?_
  refine g_callVI [aI p] [] rfl rfl rfl rfl (Nat.le_of_ble_eq_true rfl) ms.1 (m_pgIs (by omega) ms ((vset V o 31 0)) (mg.own 0) ok p) ?_
  rintro r hx ⟨ehx, rfl⟩
  rw [ehx]
  clear ehx hx
  refine g_b_eq rfl (fun cq10 => ?_) (fun cq10 => ?_)
  · skip
    refine g_iconst rfl ?_
    refine g_iret rfl ?_
    refine ⟨_, rfl, FPm.own V o 0, ?_⟩
    refine (if_pos ?_).symm
    intro z
    have z1 := z.1
    have z2 : 0 ≤ t ∧ t < sT S := z.2.1
    have z3 : sTs S t.toNat = 0 := z.2.2
    omega
  · skip
    refine g_aload_n rfl rfl ?_
    refine g_iload_n rfl rfl ?_
    refine g_iconst rfl ?_
    refine g_callVI [aI t, aI 0] [] rfl rfl rfl rfl (Nat.le_of_ble_eq_true rfl) ms.1 (m_is (by omega) ms ((vset V o 31 0)) okt mt0 t 0) ?_
    rintro r2 hx2 ⟨ehx2, rfl⟩
    rw [ehx2]
    clear ehx2 hx2
    refine g_b_ne rfl (fun cq19 => ?_) (fun cq19 => ?_)
    · skip
      have ht : isS S t 0 := cq19
      have ht1 : 0 ≤ t ∧ t < sT S := ht.1
      have hb0 := okt.p ht.1 (k := 0) (by omega)
      have hb1 := okt.p ht.1 (k := 1) (by omega)
      have hb2 := okt.p ht.1 (k := 2) (by omega)
      have hb3 := hw0 ht
      refine g_aload_n rfl rfl ?_
      refine g_iload_n rfl rfl ?_
      refine g_callVI [aI t] [] rfl rfl rfl rfl (Nat.le_of_ble_eq_true rfl) ms.1 (m_isFar (by omega) ms ((vset V o 31 0)) okt mt0 t ht.1) ?_
      rintro r3 hx3 ⟨ehx3, rfl⟩
      rw [ehx3]
      clear ehx3 hx3
      refine g_b_ne rfl (fun cq29 => ?_) (fun cq29 => ?_)
      · skip
        refine g_bipush rfl ?_
        refine g_iret rfl ?_
        refine ⟨_, rfl, FPm.own V o 0, ?_⟩
        refine Eq.symm ((if_neg ?_).trans ?_)
        · exact fun z => z ⟨by omega, ht⟩
        refine if_pos ?_
        first
          | (refine Or.inl ?_; omega)
          | (refine Or.inr ?_; exact cq37)
      · skip
        obtain ⟨q, rfl⟩ : ∃ q : Nat, p = q := ⟨p.toNat, by omega⟩
        refine g_aload_n rfl rfl ?_
        refine g_iload_n rfl rfl ?_
        refine g_callVI [aI ((q : Int))] [] rfl rfl rfl rfl (Nat.le_of_ble_eq_true rfl) ms.1 (m_pgSim (by omega) ms ((vset V o 31 0)) (mg.own 0) ok q (by omega)) ?_
        rintro r5 hx5 ⟨ehx5, rfl⟩
        rw [ehx5, bt_sim]
        clear ehx5 hx5
        refine g_b_ne rfl (fun cq37 => ?_) (fun cq37 => ?_)
        · skip
          refine g_aload_n rfl rfl ?_
          refine g_iload_n rfl rfl ?_
          refine g_aload_n rfl rfl ?_
          refine g_getR rfl ms.1 (mr_part ms) ?_
          refine g_iconst rfl ?_
          refine g_iload_n rfl rfl ?_
          refine g_imul rfl (by omega) (by omega) ?_
          refine g_iald (i := (4 * t.toNat)) rfl (mt_part ms) (by omega) (by omega) ?_
          refine g_top (v2 := aI (sTp S t.toNat 0)) (congrArg aI (by exact (mt0.2 t.toNat (by omega)).2 0 (by omega))) ?_
          refine g_i2l rfl ?_
          refine g_aload_n rfl rfl ?_
          refine g_getR rfl ms.1 (mr_part ms) ?_
          refine g_iconst rfl ?_
          refine g_iload_n rfl rfl ?_
          refine g_imul rfl (by omega) (by omega) ?_
          refine g_iconst rfl ?_
          refine g_iadd rfl (by omega) (by omega) ?_
          refine g_iald (i := (4 * t.toNat + 1)) rfl (mt_part ms) (by omega) (by omega) ?_
          refine g_top (v2 := aI (sTp S t.toNat 1)) (congrArg aI (by exact (mt0.2 t.toNat (by omega)).2 1 (by omega))) ?_
          refine g_i2l rfl ?_
          refine g_aload_n rfl rfl ?_
          refine g_getR rfl ms.1 (mr_part ms) ?_
          refine g_iconst rfl ?_
          refine g_iload_n rfl rfl ?_
          refine g_imul rfl (by omega) (by omega) ?_
          refine g_iconst rfl ?_
          refine g_iadd rfl (by omega) (by omega) ?_
          refine g_iald (i := (4 * t.toNat + 2)) rfl (mt_part ms) (by omega) (by omega) ?_
          refine g_top (v2 := aI (sTp S t.toNat 2)) (congrArg aI (by exact (mt0.2 t.toNat (by omega)).2 2 (by omega))) ?_
          refine g_i2l rfl ?_
          refine g_callVI [aI ((q : Int)), aJ (sTp S t.toNat 0), aJ (sTp S t.toNat 1), aJ (sTp S t.toNat 2)] [] rfl rfl rfl rfl (Nat.le_of_ble_eq_true rfl) ms.1 (m_pgWhere (by omega) ms ((vset V o 31 0)) (mg.own 0) ok q (by omega) _ _ _ hb0 hb1 ⟨by omega, hb2.2⟩) ?_
          rintro r6 hx6 ⟨ehx6, rfl⟩
          rw [ehx6]
          clear ehx6 hx6
          refine g_iret rfl ?_
          refine ⟨_, rfl, FPm.own V o 0, ?_⟩
          refine Eq.symm ((if_neg ?_).trans ?_)
          · exact fun z => z ⟨by omega, ht⟩
          refine if_neg ?_
          intro z
          rcases z with z | z
          · omega
          · exact z cq37
        · skip
          refine g_bipush rfl ?_
          refine g_iret rfl ?_
          refine ⟨_, rfl, FPm.own V o 0, ?_⟩
          refine Eq.symm ((if_neg ?_).trans ?_)
          · exact fun z => z ⟨by omega, ht⟩
          refine if_pos ?_
          first
            | (refine Or.inl ?_; omega)
            | (refine Or.inr ?_; exact cq37)
    · skip
      refine g_iconst rfl ?_
      refine g_iret rfl ?_
      refine ⟨_, rfl, FPm.own V o 0, ?_⟩
      refine (if_pos ?_).symm
      intro z
      have z1 := z.1
      have z2 : 0 ≤ t ∧ t < sT S := z.2.1
      have z3 : sTs S t.toNat = 0 := z.2.2
      omega
