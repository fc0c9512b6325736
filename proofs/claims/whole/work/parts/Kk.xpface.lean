/-! the class's faces of polygons: printed by wip/whole/gl_.py -/
/-- what a look at a polygon leaves -/
def FPg (V V1 : Nat → Nat → Int) (c : Nat) : Prop := ∀ a, a ≠ c + 15 → a ≠ c + 16 → V1 a = V a
def addG (S : aS) : aS := (S.1, S.2.1, (sG S + 1, fun p => if p = sG S then 0 else sGn S p, sGc S), S.2.2.2)
def addC (S : aS) (p : Nat) (x y : Int) : aS := (S.1, S.2.1, (sG S, fun q => if q = p then sGn S p + 1 else sGn S q, fun q i => if q = p ∧ i = sGn S p then (x, y) else sGc S q i), S.2.2.2)
def begF (S : aS) : Int × aS := if sG S < 12 then ((sG S : Int), addG S) else (-4, S)
def corF (S : aS) (p x y : Int) : Int × aS := if ¬(0 ≤ p ∧ p < sG S) then (-1, S) else if ¬((-1000 ≤ x ∧ x ≤ 1000) ∧ (-1000 ≤ y ∧ y ≤ 1000)) then (-2, S) else if sGn S p.toNat < 12 then (((sGn S p.toNat + 1 : Nat) : Int), addC S p.toNat x y) else (-4, S)
theorem begF_ok {S : aS} (ok : OkG S) : OkG (begF S).2 := by
  unfold begF
  split
  · refine ⟨by show sG S + 1 ≤ 12; omega, fun p hp => ?_⟩
    have hp : p < sG S + 1 := hp
    have e : sGn (addG S) p = if p = sG S then 0 else sGn S p := rfl
    by_cases q : p = sG S
    · rw [e, if_pos q]
      exact ⟨by omega, fun i hi => by omega⟩
    · rw [e, if_neg q]
      exact ok.2 p (by omega)
  · exact ok
theorem corF_ok {S : aS} (ok : OkG S) (p x y : Int) : OkG (corF S p x y).2 := by
  unfold corF
  split
  · exact ok
  · split
    · exact ok
    · split
      · next h1 h2 h3 =>
        refine ⟨ok.1, fun q hq => ?_⟩
        have e : sGn (addC S p.toNat x y) q = if q = p.toNat then sGn S p.toNat + 1 else sGn S q := rfl
        have ec : ∀ i, sGc (addC S p.toNat x y) q i = if q = p.toNat ∧ i = sGn S p.toNat then (x, y) else sGc S q i := fun i => rfl
        have hq : q < sG S := hq
        have o := ok.2 q hq
        refine ⟨?_, fun i hi => ?_⟩
        · rw [e]
          split <;> omega
        · rw [e] at hi
          unfold gx gy
          rw [ec]
          by_cases z : q = p.toNat ∧ i = sGn S p.toNat
          · rw [if_pos z]
            omega
          · rw [if_neg z]
            have hi2 : i < sGn S q := by
              by_cases z2 : q = p.toNat
              · rw [if_pos z2] at hi
                rw [z2]
                have : ¬ i = sGn S p.toNat := fun y => z ⟨z2, y⟩
                omega
              · rw [if_neg z2] at hi
                exact hi
            exact o.2 i hi2
      · exact ok
set_option maxRecDepth 100000 in
theorem x_pgBegin {w : aW} {d : Nat} (hd : 2 ≤ d) {h : aH} {c : Nat} (cs : CS h c) (V : Nat → Nat → Int) {S : aS} (xg : XG V c S) (ok : OkG S) : WP w d 92 [aO (some (c + 11))] (hw h V) (RI (fun r h1 => ∃ V1, h1 = hw h V1 ∧ (∀ a, a ≠ c + 11 → a ≠ c + 14 → V1 a = V a) ∧ r = (begF S).1 ∧ XG V1 c (begF S).2)) := by
  obtain ⟨d, rfl⟩ : ∃ d1, d = d1 + 1 := ⟨d - 1, by omega⟩
  refine WP.enter (cd := cd_X3_begin) rfl ?_
  have hok := ok.1
  have hls : largs 0 [aO (some (c + 11))] = [(0, aO (some (c + 11)))] := rfl
  rw [hls]
  clear hls
  refine g_aload_n rfl rfl ?_
  refine g_getI rfl (cs.kd 11 (by omega) rfl) ?_
  refine g_top (v2 := aI ((sG S : Int))) (congrArg aI (by exact xg.1)) ?_
  refine g_if_lt_f rfl (by omega) ?_
  refine g_aload_n rfl rfl ?_
  refine g_getI rfl (cs.kd 11 (by omega) rfl) ?_
  refine g_top (v2 := aI ((sG S : Int))) (congrArg aI (by exact xg.1)) ?_
  refine g_bipush rfl ?_
  refine g_icmp_lt rfl (fun cq13 => ?_) (fun cq13 => ?_)
  · skip
    refine g_aload_n rfl rfl ?_
    refine g_getR rfl (cs.kd 11 (by omega) rfl) (cs.rf 18 (by omega) rfl) ?_
    refine g_aload_n rfl rfl ?_
    refine g_getI rfl (cs.kd 11 (by omega) rfl) ?_
    refine g_top (v2 := aI ((sG S : Int))) (congrArg aI (by exact xg.1)) ?_
    refine g_iconst rfl ?_
    refine g_iast (i := (sG S)) rfl (cs.ar 14 (by omega) rfl) (by omega) (by omega) ?_
    refine g_hp (h2 := hw h (vset V (c + 14) ((sG S)) 0)) rfl ?_
    refine g_aload_n rfl rfl ?_
    refine g_dup rfl rfl ?_
    refine g_getI rfl (cs.kd 11 (by omega) rfl) ?_
    refine g_top (v2 := aI (sG S : Int)) (congrArg aI (by show (vset V (c + 14) (sG S) 0) (c + 11) 5 = (sG S : Int); rw [vset_ne _ _ _ _ (by omega)]; exact xg.1)) ?_
    refine g_iconst rfl ?_
    refine g_iadd rfl (by omega) (by omega) ?_
    refine g_putI rfl (cs.kd 11 (by omega) rfl) ?_
    refine g_hp (h2 := hw h (vset (vset V (c + 14) ((sG S)) 0) (c + 11) 5 (((sG S : Int)) + 1))) rfl ?_
    refine g_aload_n rfl rfl ?_
    refine g_getI rfl (cs.kd 11 (by omega) rfl) ?_
    refine g_top (v2 := aI ((sG S : Int) + 1)) (congrArg aI (by exact vset_eq _ _ _ _)) ?_
    refine g_iconst rfl ?_
    refine g_isub rfl (by omega) (by omega) ?_
    refine g_iret rfl ?_
    have e : begF S = ((sG S : Int), addG S) := if_pos (by omega)
    rw [e]
    refine ⟨vset (vset V (c + 14) (sG S) 0) (c + 11) 5 ((sG S : Int) + 1), rfl, fun a h1 h2 => by funext z; rw [vset_ne _ _ _ _ (by omega), vset_ne _ _ _ _ (by omega)], by omega, ⟨by rw [vset_eq]; show _ = ((sG S + 1 : Nat) : Int); omega, fun p hp => ?_⟩⟩
    have hp : p < sG S + 1 := hp
    have en : sGn (addG S) p = if p = sG S then 0 else sGn S p := rfl
    by_cases q : p = sG S
    · rw [en, if_pos q, q]
      exact ⟨by rw [vset_ne _ _ _ _ (by omega), vset_eq]; rfl, fun i hi => by omega⟩
    · rw [en, if_neg q]
      refine ⟨by rw [vset_ne _ _ _ _ (by omega), vset_ne _ _ _ _ (by omega)]; exact (xg.2 p (by omega)).1, fun i hi => ?_⟩
      rw [vset_ne _ _ _ _ (by omega), vset_ne _ _ _ _ (by omega), vset_ne _ _ _ _ (by omega), vset_ne _ _ _ _ (by omega)]
      exact (xg.2 p (by omega)).2 i hi
  · skip
    refine g_bipush rfl ?_
    refine g_iret rfl ?_
    have e : begF S = (-4, S) := if_neg (by omega)
    rw [e]
    exact ⟨V, rfl, fun _ _ _ => rfl, rfl, xg⟩
set_option maxRecDepth 100000 in
theorem x_pgAdd {w : aW} {d : Nat} (hd : 3 ≤ d) {h : aH} {c : Nat} (cs : CS h c) (V : Nat → Nat → Int) {S : aS} (xg : XG V c S) (ok : OkG S) (p : Nat) (hp : p < sG S) (x y : Int) : WP w d 93 [aO (some (c + 11)), aI ((p : Int)), aI x, aI y] (hw h V) (RI (fun r h1 => ∃ V1, h1 = hw h V1 ∧ (∀ a, a ≠ c + 12 → a ≠ c + 13 → a ≠ c + 14 → V1 a = V a) ∧ r = (corF S (p : Int) x y).1 ∧ XG V1 c (corF S (p : Int) x y).2)) := by
  obtain ⟨d, rfl⟩ : ∃ d1, d = d1 + 1 := ⟨d - 1, by omega⟩
  refine WP.enter (cd := cd_X3_add) rfl ?_
  have hok := ok.1
  have hok2 := (ok.2 p hp).1
  have hls : largs 0 [aO (some (c + 11)), aI ((p : Int)), aI x, aI y] = [(0, aO (some (c + 11))), (1, aI ((p : Int))), (2, aI x), (3, aI y)] := rfl
  rw [hls]
  clear hls
  refine g_aload_n rfl rfl ?_
  refine g_iload_n rfl rfl ?_
  refine g_callVI [aI ((p : Int))] [] rfl rfl rfl rfl (Nat.le_of_ble_eq_true rfl) (cs.kd 11 (by omega) rfl) (x_pgHas (by omega) cs V xg ok ((p : Int))) ?_
  rintro r hx ⟨ehx, rfl⟩
  rw [ehx]
  clear ehx hx
  refine g_if_ne_t rfl (by rw [if_pos (by omega)]; decide) ?_
  refine g_iload_n rfl rfl ?_
  refine g_sipush rfl ?_
  refine g_icmp_lt rfl (fun cq14 => ?_) (fun cq14 => ?_)
  · skip
    refine g_bipush rfl ?_
    refine g_iret rfl ?_
    have e : corF S (p : Int) x y = (-2, S) := by
      unfold corF
      rw [if_neg (by omega), if_pos (by omega)]
    rw [e]
    exact ⟨V, rfl, fun _ _ _ _ => rfl, rfl, xg⟩
  · skip
    refine g_iload_n rfl rfl ?_
    refine g_sipush rfl ?_
    refine g_icmp_gt rfl (fun cq21 => ?_) (fun cq21 => ?_)
    · skip
      refine g_bipush rfl ?_
      refine g_iret rfl ?_
      have e : corF S (p : Int) x y = (-2, S) := by
        unfold corF
        rw [if_neg (by omega), if_pos (by omega)]
      rw [e]
      exact ⟨V, rfl, fun _ _ _ _ => rfl, rfl, xg⟩
    · skip
      refine g_iload_n rfl rfl ?_
      refine g_sipush rfl ?_
      refine g_icmp_lt rfl (fun cq28 => ?_) (fun cq28 => ?_)
      · skip
        refine g_bipush rfl ?_
        refine g_iret rfl ?_
        have e : corF S (p : Int) x y = (-2, S) := by
          unfold corF
          rw [if_neg (by omega), if_pos (by omega)]
        rw [e]
        exact ⟨V, rfl, fun _ _ _ _ => rfl, rfl, xg⟩
      · skip
        refine g_iload_n rfl rfl ?_
        refine g_sipush rfl ?_
        refine g_icmp_le rfl (fun cq35 => ?_) (fun cq35 => ?_)
        · skip
          refine g_aload_n rfl rfl ?_
          refine g_getR rfl (cs.kd 11 (by omega) rfl) (cs.rf 18 (by omega) rfl) ?_
          refine g_iload_n rfl rfl ?_
          refine g_iald (i := p) rfl (cs.ar 14 (by omega) rfl) (by omega) (by omega) ?_
          refine g_top (v2 := aI ((sGn S p : Int))) (congrArg aI (by exact (xg.2 p hp).1)) ?_
          refine g_istore (l1 := [(4, aI ((sGn S p : Int))), (0, aO (some (c + 11))), (1, aI ((p : Int))), (2, aI x), (3, aI y)]) rfl rfl ?_
          refine g_iload rfl rfl ?_
          refine g_if_lt_f rfl (by omega) ?_
          refine g_iload rfl rfl ?_
          refine g_bipush rfl ?_
          refine g_icmp_lt rfl (fun cq58 => ?_) (fun cq58 => ?_)
          · skip
            refine g_aload_n rfl rfl ?_
            refine g_getR rfl (cs.kd 11 (by omega) rfl) (cs.rf 16 (by omega) rfl) ?_
            refine g_iload_n rfl rfl ?_
            refine g_bipush rfl ?_
            refine g_imul rfl (by omega) (by omega) ?_
            refine g_iload rfl rfl ?_
            refine g_iadd rfl (by omega) (by omega) ?_
            refine g_iload_n rfl rfl ?_
            refine g_iast (i := 12 * p + sGn S p) rfl (cs.ar 12 (by omega) rfl) (by omega) (by omega) ?_
            refine g_hp (h2 := hw h (vset V (c + 12) (12 * p + sGn S p) x)) rfl ?_
            refine g_aload_n rfl rfl ?_
            refine g_getR rfl (cs.kd 11 (by omega) rfl) (cs.rf 17 (by omega) rfl) ?_
            refine g_iload_n rfl rfl ?_
            refine g_bipush rfl ?_
            refine g_imul rfl (by omega) (by omega) ?_
            refine g_iload rfl rfl ?_
            refine g_iadd rfl (by omega) (by omega) ?_
            refine g_iload_n rfl rfl ?_
            refine g_iast (i := 12 * p + sGn S p) rfl (cs.ar 13 (by omega) rfl) (by omega) (by omega) ?_
            refine g_hp (h2 := hw h (vset (vset V (c + 12) (12 * p + sGn S p) x) (c + 13) (12 * p + sGn S p) y)) rfl ?_
            refine g_aload_n rfl rfl ?_
            refine g_getR rfl (cs.kd 11 (by omega) rfl) (cs.rf 18 (by omega) rfl) ?_
            refine g_iload_n rfl rfl ?_
            refine g_iload rfl rfl ?_
            refine g_iconst rfl ?_
            refine g_iadd rfl (by omega) (by omega) ?_
            refine g_iast (i := p) rfl (cs.ar 14 (by omega) rfl) (by omega) (by omega) ?_
            refine g_hp (h2 := hw h (vset (vset (vset V (c + 12) (12 * p + sGn S p) x) (c + 13) (12 * p + sGn S p) y) (c + 14) p (((sGn S p : Int)) + 1))) rfl ?_
            refine g_iload rfl rfl ?_
            refine g_iconst rfl ?_
            refine g_iadd rfl (by omega) (by omega) ?_
            refine g_iret rfl ?_
            have ec : corF S (p : Int) x y = (((sGn S p + 1 : Nat) : Int), addC S p x y) := by
              unfold corF
              rw [if_neg (by omega), if_neg (by omega)]
              exact if_pos (by show sGn S p < 12; omega)
            rw [ec]
            refine ⟨vset (vset (vset V (c + 12) (12 * p + sGn S p) x) (c + 13) (12 * p + sGn S p) y) (c + 14) p ((sGn S p : Int) + 1), rfl, fun a h1 h2 h3 => by funext z; rw [vset_ne _ _ _ _ (by omega), vset_ne _ _ _ _ (by omega), vset_ne _ _ _ _ (by omega)], by omega, ⟨by rw [vset_ne _ _ _ _ (by omega), vset_ne _ _ _ _ (by omega), vset_ne _ _ _ _ (by omega)]; exact xg.1, fun q hq => ?_⟩⟩
            have hq : q < sG S := hq
            have en : sGn (addC S p x y) q = if q = p then sGn S p + 1 else sGn S q := rfl
            have ec2 : ∀ i, sGc (addC S p x y) q i = if q = p ∧ i = sGn S p then (x, y) else sGc S q i := fun i => rfl
            have xq := xg.2 q hq
            have okq := (ok.2 q hq).1
            refine ⟨?_, fun i hi => ?_⟩
            · by_cases z : q = p
              · rw [en, if_pos z, z, vset_eq]
                omega
              · rw [en, if_neg z, vset_ne _ _ _ _ (by omega), vset_ne _ _ _ _ (by omega), vset_ne _ _ _ _ (by omega)]
                exact xq.1
            · rw [en] at hi
              unfold gx gy
              rw [ec2]
              by_cases z : q = p ∧ i = sGn S p
              · obtain ⟨rfl, rfl⟩ := z
                rw [if_pos ⟨rfl, rfl⟩]
                exact ⟨by rw [vset_ne _ _ _ _ (by omega), vset_ne _ _ _ _ (by omega), vset_eq], by rw [vset_ne _ _ _ _ (by omega), vset_eq]⟩
              · rw [if_neg z]
                have hi2 : i < sGn S q := by
                  by_cases z2 : q = p
                  · rw [if_pos z2] at hi
                    subst z2
                    have : ¬ i = sGn S q := fun y => z ⟨rfl, y⟩
                    omega
                  · rw [if_neg z2] at hi
                    exact hi
                have hne : ¬ 12 * q + i = 12 * p + sGn S p := fun y => z ⟨by omega, by
                  have : q = p := by omega
                  subst this
                  omega⟩
                rw [vset_ne _ _ _ _ (by omega), vset_ne _ _ _ _ (by omega), vset_ne _ _ _ _ (by omega), vset_ne _ _ _ _ (by omega), vset_ne _ _ _ _ (by omega), vset_ne _ _ _ _ (by omega)]
                exact xq.2 i hi2
          · skip
            refine g_bipush rfl ?_
            refine g_iret rfl ?_
            have e : corF S (p : Int) x y = (-4, S) := by
              unfold corF
              rw [if_neg (by omega), if_neg (by omega)]
              exact if_neg (by show ¬ sGn S p < 12; omega)
            rw [e]
            exact ⟨V, rfl, fun _ _ _ _ => rfl, rfl, xg⟩
        · skip
          refine g_bipush rfl ?_
          refine g_iret rfl ?_
          have e : corF S (p : Int) x y = (-2, S) := by
            unfold corF
            rw [if_neg (by omega), if_pos (by omega)]
          rw [e]
          exact ⟨V, rfl, fun _ _ _ _ => rfl, rfl, xg⟩
set_option maxRecDepth 100000 in
theorem x_pgAdd0 {w : aW} {d : Nat} (hd : 3 ≤ d) {h : aH} {c : Nat} (cs : CS h c) (V : Nat → Nat → Int) {S : aS} (xg : XG V c S) (ok : OkG S) (p x y : Int) (hp : ¬(0 ≤ p ∧ p < sG S)) : WP w d 93 [aO (some (c + 11)), aI p, aI x, aI y] (hw h V) (RI (fun r h1 => ∃ V1, h1 = hw h V1 ∧ (∀ a, a ≠ c + 12 → a ≠ c + 13 → a ≠ c + 14 → V1 a = V a) ∧ r = (corF S p x y).1 ∧ XG V1 c (corF S p x y).2)) := by
  obtain ⟨d, rfl⟩ : ∃ d1, d = d1 + 1 := ⟨d - 1, by omega⟩
  refine WP.enter (cd := cd_X3_add) rfl ?_
  have hls : largs 0 [aO (some (c + 11)), aI p, aI x, aI y] = [(0, aO (some (c + 11))), (1, aI p), (2, aI x), (3, aI y)] := rfl
  rw [hls]
  clear hls
  refine g_aload_n rfl rfl ?_
  refine g_iload_n rfl rfl ?_
  refine g_callVI [aI p] [] rfl rfl rfl rfl (Nat.le_of_ble_eq_true rfl) (cs.kd 11 (by omega) rfl) (x_pgHas (by omega) cs V xg ok p) ?_
  rintro r hx ⟨ehx, rfl⟩
  rw [ehx]
  clear ehx hx
  refine g_if_ne_f rfl (by rw [if_neg hp]) ?_
  refine g_iconst rfl ?_
  refine g_iret rfl ?_
  have e : corF S p x y = (-1, S) := if_pos hp
  rw [e]
  exact ⟨V, rfl, fun _ _ _ _ => rfl, rfl, xg⟩
set_option maxRecDepth 100000 in
theorem f_polygon {w : aW} {d : Nat} (hd : 3 ≤ d) {h : aH} {c : Nat} (cs : CS h c) (V : Nat → Nat → Int) {S : aS} (xg : XG V c S) (ok : OkG S) : WP w d 210 [aO (some c)] (hw h V) (RI (fun r h1 => ∃ V1, h1 = hw h V1 ∧ (∀ a, a ≠ c + 11 → a ≠ c + 14 → V1 a = V a) ∧ r = (begF S).1 ∧ XG V1 c (begF S).2)) := by
  obtain ⟨d, rfl⟩ : ∃ d1, d = d1 + 1 := ⟨d - 1, by omega⟩
  refine WP.enter (cd := cd_X11_polygon) rfl ?_
  have hls : largs 0 [aO (some c)] = [(0, aO (some c))] := rfl
  rw [hls]
  clear hls
  refine g_aload_n rfl rfl ?_
  refine g_getR rfl (cs.kd 0 (by omega) rfl) (cs.rf 21 (by omega) rfl) ?_
  refine g_callVI [] [] rfl rfl rfl rfl (Nat.le_of_ble_eq_true rfl) (cs.kd 11 (by omega) rfl) (x_pgBegin (by omega) cs V xg ok) ?_
  rintro r _ ⟨V1, rfl, q⟩
  refine g_iret rfl ?_
  exact ⟨V1, rfl, q⟩
theorem x_pgAddA {w : aW} {d : Nat} (hd : 3 ≤ d) {h : aH} {c : Nat} (cs : CS h c) (V : Nat → Nat → Int) {S : aS} (xg : XG V c S) (ok : OkG S) (p x y : Int) : WP w d 93 [aO (some (c + 11)), aI p, aI x, aI y] (hw h V) (RI (fun r h1 => ∃ V1, h1 = hw h V1 ∧ (∀ a, a ≠ c + 12 → a ≠ c + 13 → a ≠ c + 14 → V1 a = V a) ∧ r = (corF S p x y).1 ∧ XG V1 c (corF S p x y).2)) := by
  by_cases q : 0 ≤ p ∧ p < sG S
  · obtain ⟨k, rfl⟩ : ∃ k : Nat, p = k := ⟨p.toNat, by omega⟩
    exact x_pgAdd hd cs V xg ok k (by omega) x y
  · exact x_pgAdd0 hd cs V xg ok p x y q
set_option maxRecDepth 100000 in
theorem f_corner {w : aW} {d : Nat} (hd : 4 ≤ d) {h : aH} {c : Nat} (cs : CS h c) (V : Nat → Nat → Int) {S : aS} (xg : XG V c S) (ok : OkG S) (p x y : Int) : WP w d 211 [aO (some c), aI p, aI x, aI y] (hw h V) (RI (fun r h1 => ∃ V1, h1 = hw h V1 ∧ (∀ a, a ≠ c + 12 → a ≠ c + 13 → a ≠ c + 14 → V1 a = V a) ∧ r = (corF S p x y).1 ∧ XG V1 c (corF S p x y).2)) := by
  obtain ⟨d, rfl⟩ : ∃ d1, d = d1 + 1 := ⟨d - 1, by omega⟩
  refine WP.enter (cd := cd_X11_corner) rfl ?_
  have hls : largs 0 [aO (some c), aI p, aI x, aI y] = [(0, aO (some c)), (1, aI p), (2, aI x), (3, aI y)] := rfl
  rw [hls]
  clear hls
  refine g_aload_n rfl rfl ?_
  refine g_getR rfl (cs.kd 0 (by omega) rfl) (cs.rf 21 (by omega) rfl) ?_
  refine g_iload_n rfl rfl ?_
  refine g_iload_n rfl rfl ?_
  refine g_iload_n rfl rfl ?_
  refine g_callVI [aI p, aI x, aI y] [] rfl rfl rfl rfl (Nat.le_of_ble_eq_true rfl) (cs.kd 11 (by omega) rfl) (x_pgAddA (by omega) cs V xg ok p x y) ?_
  rintro r _ ⟨V1, rfl, q⟩
  refine g_iret rfl ?_
  exact ⟨V1, rfl, q⟩
set_option maxRecDepth 100000 in
theorem x_tell0 {w : aW} {d : Nat} (hd : 8 ≤ d) {h : aH} {c : Nat} (cs : CS h c) (V : Nat → Nat → Int) {S : aS} (xg : XG V c S) (ok : OkG S) (p : Nat) (hp : p < sG S) : WP w d 94 [aO (some (c + 11)), aI ((p : Int)), aI 0] (hw h V) (RJ (fun r h1 => ∃ V1, h1 = hw h V1 ∧ FPg V V1 c ∧ (r = sGn S p))) := by
  obtain ⟨d, rfl⟩ : ∃ d1, d = d1 + 1 := ⟨d - 1, by omega⟩
  refine WP.enter (cd := cd_X3_tell) rfl ?_
  have hls : largs 0 [aO (some (c + 11)), aI ((p : Int)), aI 0] = [(0, aO (some (c + 11))), (1, aI ((p : Int))), (2, aI 0)] := rfl
  rw [hls]
  clear hls
  refine g_iload_n rfl rfl ?_
  refine g_tsw (t := 48) rfl (by rfl) ?_
  refine g_aload_n rfl rfl ?_
  refine g_iload_n rfl rfl ?_
  refine g_callVI [aI ((p : Int))] [] rfl rfl rfl rfl (Nat.le_of_ble_eq_true rfl) (cs.kd 11 (by omega) rfl) (x_pgSize (by omega) cs V xg ok p (by omega)) ?_
  rintro r1 hx1 ⟨ehx1, rfl⟩
  rw [ehx1]
  clear ehx1 hx1
  refine g_i2l rfl ?_
  refine g_lret rfl ?_
  exact ⟨V, rfl, fun _ _ _ => rfl, rfl⟩
set_option maxRecDepth 100000 in
theorem x_tell1 {w : aW} {d : Nat} (hd : 8 ≤ d) {h : aH} {c : Nat} (cs : CS h c) (V : Nat → Nat → Int) {S : aS} (xg : XG V c S) (ok : OkG S) (p : Nat) (hp : p < sG S) : WP w d 94 [aO (some (c + 11)), aI ((p : Int)), aI 1] (hw h V) (RJ (fun r h1 => ∃ V1, h1 = hw h V1 ∧ FPg V V1 c ∧ (r = if bt (gSim S p) = true then 1 else 0))) := by
  obtain ⟨d, rfl⟩ : ∃ d1, d = d1 + 1 := ⟨d - 1, by omega⟩
  refine WP.enter (cd := cd_X3_tell) rfl ?_
  have hls : largs 0 [aO (some (c + 11)), aI ((p : Int)), aI 1] = [(0, aO (some (c + 11))), (1, aI ((p : Int))), (2, aI 1)] := rfl
  rw [hls]
  clear hls
  refine g_iload_n rfl rfl ?_
  refine g_tsw (t := 55) rfl (by rfl) ?_
  refine g_aload_n rfl rfl ?_
  refine g_iload_n rfl rfl ?_
  refine g_callVI [aI ((p : Int))] [] rfl rfl rfl rfl (Nat.le_of_ble_eq_true rfl) (cs.kd 11 (by omega) rfl) (x_pgSim (by omega) cs V xg ok p (by omega)) ?_
  rintro r1 hx1 ⟨ehx1, rfl⟩
  rw [ehx1]
  clear ehx1 hx1
  refine g_b_eq rfl (fun cq60 => ?_) (fun cq60 => ?_)
  · skip
    refine g_lconst0 rfl ?_
    refine g_lret rfl ?_
    refine ⟨V, rfl, fun _ _ _ => rfl, ?_⟩
    first
      | (refine (if_pos ?_).symm; exact cq60)
      | (refine (if_neg ?_).symm; exact cq60)
  · skip
    refine g_lconst1 rfl ?_
    refine g_goto rfl ?_
    refine g_lret rfl ?_
    refine ⟨V, rfl, fun _ _ _ => rfl, ?_⟩
    first
      | (refine (if_pos ?_).symm; exact cq60)
      | (refine (if_neg ?_).symm; exact cq60)
set_option maxRecDepth 100000 in
theorem x_tell2 {w : aW} {d : Nat} (hd : 8 ≤ d) {h : aH} {c : Nat} (cs : CS h c) (V : Nat → Nat → Int) {S : aS} (xg : XG V c S) (ok : OkG S) (p : Nat) (hp : p < sG S) : WP w d 94 [aO (some (c + 11)), aI ((p : Int)), aI 2] (hw h V) (RJ (fun r h1 => ∃ V1, h1 = hw h V1 ∧ FPg V V1 c ∧ (r = gAr S p (sGn S p)))) := by
  obtain ⟨d, rfl⟩ : ∃ d1, d = d1 + 1 := ⟨d - 1, by omega⟩
  refine WP.enter (cd := cd_X3_tell) rfl ?_
  have hls : largs 0 [aO (some (c + 11)), aI ((p : Int)), aI 2] = [(0, aO (some (c + 11))), (1, aI ((p : Int))), (2, aI 2)] := rfl
  rw [hls]
  clear hls
  refine g_iload_n rfl rfl ?_
  refine g_tsw (t := 69) rfl (by rfl) ?_
  refine g_aload_n rfl rfl ?_
  refine g_iload_n rfl rfl ?_
  refine g_callVJ [aI ((p : Int))] [] rfl rfl rfl rfl (Nat.le_of_ble_eq_true rfl) (cs.kd 11 (by omega) rfl) (x_pgArea (by omega) cs V xg ok p (by omega)) ?_
  rintro r1 hx1 ⟨ehx1, rfl⟩
  rw [ehx1]
  clear ehx1 hx1
  refine g_lret rfl ?_
  exact ⟨V, rfl, fun _ _ _ => rfl, rfl⟩
set_option maxRecDepth 100000 in
theorem x_tell3a {w : aW} {d : Nat} (hd : 8 ≤ d) {h : aH} {c : Nat} (cs : CS h c) (V : Nat → Nat → Int) {S : aS} (xg : XG V c S) (ok : OkG S) (p : Nat) (hp : p < sG S) (hn : 0 < sGn S p) : WP w d 94 [aO (some (c + 11)), aI ((p : Int)), aI 3] (hw h V) (RJ (fun r h1 => ∃ V1, h1 = hw h V1 ∧ FPg V V1 c ∧ ((sGn S p = 0 ∧ r = 0) ∨ ∃ t f : Nat, r = t ∧ gLe S p f ∧ gEnd S p f t))) := by
  obtain ⟨d, rfl⟩ : ∃ d1, d = d1 + 1 := ⟨d - 1, by omega⟩
  refine WP.enter (cd := cd_X3_tell) rfl ?_
  have hls : largs 0 [aO (some (c + 11)), aI ((p : Int)), aI 3] = [(0, aO (some (c + 11))), (1, aI ((p : Int))), (2, aI 3)] := rfl
  rw [hls]
  clear hls
  refine g_iload_n rfl rfl ?_
  refine g_tsw (t := 75) rfl (by rfl) ?_
  refine g_aload_n rfl rfl ?_
  refine g_iload_n rfl rfl ?_
  refine g_callVI [aI ((p : Int))] [] rfl rfl rfl rfl (Nat.le_of_ble_eq_true rfl) (cs.kd 11 (by omega) rfl) (x_pgWrap (by omega) cs V xg ok p (by omega) hn) ?_
  rintro _ _ ⟨V1, rfl, hv, t, f, rfl, q1, q2, q3⟩
  refine g_i2l rfl ?_
  refine g_lret rfl ?_
  exact ⟨V1, rfl, fun a h1 _ => hv a h1, Or.inr ⟨t, f, rfl, q1, q2⟩⟩
set_option maxRecDepth 100000 in
theorem x_tell3b {w : aW} {d : Nat} (hd : 8 ≤ d) {h : aH} {c : Nat} (cs : CS h c) (V : Nat → Nat → Int) {S : aS} (xg : XG V c S) (ok : OkG S) (p : Nat) (hp : p < sG S) (hn : sGn S p = 0) : WP w d 94 [aO (some (c + 11)), aI ((p : Int)), aI 3] (hw h V) (RJ (fun r h1 => ∃ V1, h1 = hw h V1 ∧ FPg V V1 c ∧ ((sGn S p = 0 ∧ r = 0) ∨ ∃ t f : Nat, r = t ∧ gLe S p f ∧ gEnd S p f t))) := by
  obtain ⟨d, rfl⟩ : ∃ d1, d = d1 + 1 := ⟨d - 1, by omega⟩
  refine WP.enter (cd := cd_X3_tell) rfl ?_
  have hls : largs 0 [aO (some (c + 11)), aI ((p : Int)), aI 3] = [(0, aO (some (c + 11))), (1, aI ((p : Int))), (2, aI 3)] := rfl
  rw [hls]
  clear hls
  refine g_iload_n rfl rfl ?_
  refine g_tsw (t := 75) rfl (by rfl) ?_
  refine g_aload_n rfl rfl ?_
  refine g_iload_n rfl rfl ?_
  refine g_callVI [aI ((p : Int))] [] rfl rfl rfl rfl (Nat.le_of_ble_eq_true rfl) (cs.kd 11 (by omega) rfl) (x_pgWrap0 (by omega) cs V xg ok p (by omega) hn) ?_
  rintro _ _ ⟨rfl, rfl⟩
  refine g_i2l rfl ?_
  refine g_lret rfl ?_
  exact ⟨V, rfl, fun _ _ _ => rfl, Or.inl ⟨hn, rfl⟩⟩
theorem x_tell3 {w : aW} {d : Nat} (hd : 20 ≤ d) {h : aH} {c : Nat} (cs : CS h c) (V : Nat → Nat → Int) {S : aS} (xg : XG V c S) (ok : OkG S) (p : Nat) (hp : p < sG S) : WP w d 94 [aO (some (c + 11)), aI ((p : Int)), aI 3] (hw h V) (RJ (fun r h1 => ∃ V1, h1 = hw h V1 ∧ FPg V V1 c ∧ ((sGn S p = 0 ∧ r = 0) ∨ ∃ t f : Nat, r = t ∧ gLe S p f ∧ gEnd S p f t))) := by
  by_cases q : sGn S p = 0
  · exact x_tell3b (by omega) cs V xg ok p hp q
  · exact x_tell3a (by omega) cs V xg ok p hp (by omega)
set_option maxRecDepth 100000 in
theorem x_tell4 {w : aW} {d : Nat} (hd : 8 ≤ d) {h : aH} {c : Nat} (cs : CS h c) (V : Nat → Nat → Int) {S : aS} (xg : XG V c S) (ok : OkG S) (p : Nat) (hp : p < sG S) : WP w d 94 [aO (some (c + 11)), aI ((p : Int)), aI 4] (hw h V) (RJ (fun r h1 => ∃ V1, h1 = hw h V1 ∧ FPg V V1 c ∧ (r = if bt (gSim S p) = true ∧ ¬(gL S p (sGn S p) = true ∧ gR S p (sGn S p) = true) then 1 else 0))) := by
  obtain ⟨d, rfl⟩ : ∃ d1, d = d1 + 1 := ⟨d - 1, by omega⟩
  refine WP.enter (cd := cd_X3_tell) rfl ?_
  have hls : largs 0 [aO (some (c + 11)), aI ((p : Int)), aI 4] = [(0, aO (some (c + 11))), (1, aI ((p : Int))), (2, aI 4)] := rfl
  rw [hls]
  clear hls
  refine g_iload_n rfl rfl ?_
  refine g_tsw (t := 82) rfl (by rfl) ?_
  refine g_aload_n rfl rfl ?_
  refine g_iload_n rfl rfl ?_
  refine g_callVI [aI ((p : Int))] [] rfl rfl rfl rfl (Nat.le_of_ble_eq_true rfl) (cs.kd 11 (by omega) rfl) (x_pgSim (by omega) cs V xg ok p (by omega)) ?_
  rintro r1 hx1 ⟨ehx1, rfl⟩
  rw [ehx1]
  clear ehx1 hx1
  refine g_b_eq rfl (fun cq87 => ?_) (fun cq87 => ?_)
  · skip
    refine g_lconst0 rfl ?_
    refine g_lret rfl ?_
    refine ⟨V, rfl, fun _ _ _ => rfl, ?_⟩
    first
      | (refine (if_pos ?_).symm; exact ⟨cq87, cq95⟩)
      | (refine (if_neg ?_).symm; intro z; exact cq87 z.1)
      | (refine (if_neg ?_).symm; intro z; exact cq95 z.2)
  · skip
    refine g_aload_n rfl rfl ?_
    refine g_iload_n rfl rfl ?_
    refine g_callVI [aI ((p : Int))] [] rfl rfl rfl rfl (Nat.le_of_ble_eq_true rfl) (cs.kd 11 (by omega) rfl) (x_pgConv (by omega) cs V xg ok p (by omega)) ?_
    rintro r2 hx2 ⟨ehx2, rfl⟩
    rw [ehx2]
    clear ehx2 hx2
    refine g_b_eq rfl (fun cq95 => ?_) (fun cq95 => ?_)
    · skip
      refine g_lconst0 rfl ?_
      refine g_lret rfl ?_
      refine ⟨V, rfl, fun _ _ _ => rfl, ?_⟩
      first
        | (refine (if_pos ?_).symm; exact ⟨cq87, cq95⟩)
        | (refine (if_neg ?_).symm; intro z; exact cq87 z.1)
        | (refine (if_neg ?_).symm; intro z; exact cq95 z.2)
    · skip
      refine g_lconst1 rfl ?_
      refine g_goto rfl ?_
      refine g_lret rfl ?_
      refine ⟨V, rfl, fun _ _ _ => rfl, ?_⟩
      first
        | (refine (if_pos ?_).symm; exact ⟨cq87, cq95⟩)
        | (refine (if_neg ?_).symm; intro z; exact cq87 z.1)
        | (refine (if_neg ?_).symm; intro z; exact cq95 z.2)
set_option maxRecDepth 100000 in
theorem x_tell5 {w : aW} {d : Nat} (hd : 8 ≤ d) {h : aH} {c : Nat} (cs : CS h c) (V : Nat → Nat → Int) {S : aS} (xg : XG V c S) (ok : OkG S) (p : Nat) (hp : p < sG S) : WP w d 94 [aO (some (c + 11)), aI ((p : Int)), aI 5] (hw h V) (RJ (fun r h1 => ∃ V1, h1 = hw h V1 ∧ FPg V V1 c ∧ (r = if bt (gSim S p) = true then w64 ((((gAr S p (sGn S p)).natAbs : Int) - gOs S p (sGn S p) + 2).tdiv 2) else -3))) := by
  obtain ⟨d, rfl⟩ : ∃ d1, d = d1 + 1 := ⟨d - 1, by omega⟩
  refine WP.enter (cd := cd_X3_tell) rfl ?_
  have hls : largs 0 [aO (some (c + 11)), aI ((p : Int)), aI 5] = [(0, aO (some (c + 11))), (1, aI ((p : Int))), (2, aI 5)] := rfl
  rw [hls]
  clear hls
  refine g_iload_n rfl rfl ?_
  refine g_tsw (t := 104) rfl (by rfl) ?_
  refine g_aload_n rfl rfl ?_
  refine g_iload_n rfl rfl ?_
  refine g_callVI [aI ((p : Int))] [] rfl rfl rfl rfl (Nat.le_of_ble_eq_true rfl) (cs.kd 11 (by omega) rfl) (x_pgSim (by omega) cs V xg ok p (by omega)) ?_
  rintro r1 hx1 ⟨ehx1, rfl⟩
  rw [ehx1]
  clear ehx1 hx1
  refine g_b_eq rfl (fun cq109 => ?_) (fun cq109 => ?_)
  · skip
    refine g_ldc2 rfl ?_
    refine g_lret rfl ?_
    refine ⟨V, rfl, fun _ _ _ => rfl, ?_⟩
    first
      | (refine (if_pos ?_).symm; exact cq109)
      | (refine (if_neg ?_).symm; exact cq109)
  · skip
    refine g_aload_n rfl rfl ?_
    refine g_iload_n rfl rfl ?_
    refine g_callVJ [aI ((p : Int))] [] rfl rfl rfl rfl (Nat.le_of_ble_eq_true rfl) (cs.kd 11 (by omega) rfl) (x_pgIns (by omega) cs V xg ok p (by omega)) ?_
    rintro r2 hx2 ⟨ehx2, rfl⟩
    rw [ehx2]
    clear ehx2 hx2
    refine g_goto rfl ?_
    refine g_lret rfl ?_
    refine ⟨V, rfl, fun _ _ _ => rfl, ?_⟩
    first
      | (refine (if_pos ?_).symm; exact cq109)
      | (refine (if_neg ?_).symm; exact cq109)
set_option maxRecDepth 100000 in
theorem x_tell6 {w : aW} {d : Nat} (hd : 8 ≤ d) {h : aH} {c : Nat} (cs : CS h c) (V : Nat → Nat → Int) {S : aS} (xg : XG V c S) (ok : OkG S) (p : Nat) (hp : p < sG S) : WP w d 94 [aO (some (c + 11)), aI ((p : Int)), aI 6] (hw h V) (RJ (fun r h1 => ∃ V1, h1 = hw h V1 ∧ FPg V V1 c ∧ (r = if bt (gSim S p) = true then gOs S p (sGn S p) else -3))) := by
  obtain ⟨d, rfl⟩ : ∃ d1, d = d1 + 1 := ⟨d - 1, by omega⟩
  refine WP.enter (cd := cd_X3_tell) rfl ?_
  have hls : largs 0 [aO (some (c + 11)), aI ((p : Int)), aI 6] = [(0, aO (some (c + 11))), (1, aI ((p : Int))), (2, aI 6)] := rfl
  rw [hls]
  clear hls
  refine g_iload_n rfl rfl ?_
  refine g_tsw (t := 124) rfl (by rfl) ?_
  refine g_aload_n rfl rfl ?_
  refine g_iload_n rfl rfl ?_
  refine g_callVI [aI ((p : Int))] [] rfl rfl rfl rfl (Nat.le_of_ble_eq_true rfl) (cs.kd 11 (by omega) rfl) (x_pgSim (by omega) cs V xg ok p (by omega)) ?_
  rintro r1 hx1 ⟨ehx1, rfl⟩
  rw [ehx1]
  clear ehx1 hx1
  refine g_b_eq rfl (fun cq129 => ?_) (fun cq129 => ?_)
  · skip
    refine g_ldc2 rfl ?_
    refine g_lret rfl ?_
    refine ⟨V, rfl, fun _ _ _ => rfl, ?_⟩
    first
      | (refine (if_pos ?_).symm; exact cq129)
      | (refine (if_neg ?_).symm; exact cq129)
  · skip
    refine g_aload_n rfl rfl ?_
    refine g_iload_n rfl rfl ?_
    refine g_callVJ [aI ((p : Int))] [] rfl rfl rfl rfl (Nat.le_of_ble_eq_true rfl) (cs.kd 11 (by omega) rfl) (x_pgOns (by omega) cs V xg ok p (by omega)) ?_
    rintro r2 hx2 ⟨ehx2, rfl⟩
    rw [ehx2]
    clear ehx2 hx2
    refine g_goto rfl ?_
    refine g_lret rfl ?_
    refine ⟨V, rfl, fun _ _ _ => rfl, ?_⟩
    first
      | (refine (if_pos ?_).symm; exact cq129)
      | (refine (if_neg ?_).symm; exact cq129)
set_option maxRecDepth 100000 in
theorem x_tell7 {w : aW} {d : Nat} (hd : 8 ≤ d) {h : aH} {c : Nat} (cs : CS h c) (V : Nat → Nat → Int) {S : aS} (xg : XG V c S) (ok : OkG S) (p : Nat) (hp : p < sG S) : WP w d 94 [aO (some (c + 11)), aI ((p : Int)), aI 7] (hw h V) (RJ (fun r h1 => ∃ V1, h1 = hw h V1 ∧ FPg V V1 c ∧ (r = if bt (gSim S p) = true then gTr S p 0 (sGn S p - 1) else -3))) := by
  obtain ⟨d, rfl⟩ : ∃ d1, d = d1 + 1 := ⟨d - 1, by omega⟩
  refine WP.enter (cd := cd_X3_tell) rfl ?_
  have hls : largs 0 [aO (some (c + 11)), aI ((p : Int)), aI 7] = [(0, aO (some (c + 11))), (1, aI ((p : Int))), (2, aI 7)] := rfl
  rw [hls]
  clear hls
  refine g_iload_n rfl rfl ?_
  refine g_tsw (t := 144) rfl (by rfl) ?_
  refine g_aload_n rfl rfl ?_
  refine g_iload_n rfl rfl ?_
  refine g_callVI [aI ((p : Int))] [] rfl rfl rfl rfl (Nat.le_of_ble_eq_true rfl) (cs.kd 11 (by omega) rfl) (x_pgSim (by omega) cs V xg ok p (by omega)) ?_
  rintro r1 hx1 ⟨ehx1, rfl⟩
  rw [ehx1]
  clear ehx1 hx1
  refine g_b_eq rfl (fun cq149 => ?_) (fun cq149 => ?_)
  · skip
    obtain ⟨V1, eV1⟩ : ∃ W, W = V := ⟨_, rfl⟩
    have hv : ∀ a, a ≠ c + 16 → V1 a = V a := fun _ _ => by rw [eV1]
    refine g_ldc2 rfl ?_
    refine g_lret rfl ?_
    refine ⟨V1, by first | rfl | rw [eV1], fun a _ h2 => hv a h2, ?_⟩
    first
      | (refine (if_pos ?_).symm; exact cq149)
      | (refine (if_neg ?_).symm; exact cq149)
  · skip
    refine g_aload_n rfl rfl ?_
    refine g_iload_n rfl rfl ?_
    refine g_callVJ [aI ((p : Int))] [] rfl rfl rfl rfl (Nat.le_of_ble_eq_true rfl) (cs.kd 11 (by omega) rfl) (x_pgTri (by omega) cs V xg ok p (by omega) (bt_iff.mp cq149).1) ?_
    rintro _ _ ⟨V1, rfl, hv, rfl⟩
    refine g_goto rfl ?_
    refine g_lret rfl ?_
    refine ⟨V1, by first | rfl | rw [eV1], fun a _ h2 => hv a h2, ?_⟩
    first
      | (refine (if_pos ?_).symm; exact cq149)
      | (refine (if_neg ?_).symm; exact cq149)
set_option maxRecDepth 100000 in
theorem x_tell8 {w : aW} {d : Nat} (hd : 8 ≤ d) {h : aH} {c : Nat} (cs : CS h c) (V : Nat → Nat → Int) {S : aS} (xg : XG V c S) (ok : OkG S) (p : Nat) (hp : p < sG S) : WP w d 94 [aO (some (c + 11)), aI ((p : Int)), aI 8] (hw h V) (RJ (fun r h1 => ∃ V1, h1 = hw h V1 ∧ FPg V V1 c ∧ (gMx S p (sGn S p) (sGn S p) 0 r))) := by
  obtain ⟨d, rfl⟩ : ∃ d1, d = d1 + 1 := ⟨d - 1, by omega⟩
  refine WP.enter (cd := cd_X3_tell) rfl ?_
  have hls : largs 0 [aO (some (c + 11)), aI ((p : Int)), aI 8] = [(0, aO (some (c + 11))), (1, aI ((p : Int))), (2, aI 8)] := rfl
  rw [hls]
  clear hls
  refine g_iload_n rfl rfl ?_
  refine g_tsw (t := 164) rfl (by rfl) ?_
  refine g_aload_n rfl rfl ?_
  refine g_iload_n rfl rfl ?_
  refine g_callVJ [aI ((p : Int))] [] rfl rfl rfl rfl (Nat.le_of_ble_eq_true rfl) (cs.kd 11 (by omega) rfl) (x_pgMax (by omega) cs V xg ok p (by omega)) ?_
  rintro rg _ ⟨rfl, hg⟩
  refine g_lret rfl ?_
  exact ⟨V, rfl, fun _ _ _ => rfl, hg⟩
set_option maxRecDepth 100000 in
theorem f_pgOf0 {w : aW} {d : Nat} (hd : 24 ≤ d) {h : aH} {c : Nat} (cs : CS h c) (V : Nat → Nat → Int) {S : aS} (xg : XG V c S) (ok : OkG S) (p : Nat) (hp : p < sG S) : WP w d 212 [aO (some c), aI ((p : Int)), aI 0] (hw h V) (RJ (fun r h1 => ∃ V1, h1 = hw h V1 ∧ FPg V V1 c ∧ (r = sGn S p))) := by
  obtain ⟨d, rfl⟩ : ∃ d1, d = d1 + 1 := ⟨d - 1, by omega⟩
  refine WP.enter (cd := cd_X11_polygonOf) rfl ?_
  have hls : largs 0 [aO (some c), aI ((p : Int)), aI 0] = [(0, aO (some c)), (1, aI ((p : Int))), (2, aI 0)] := rfl
  rw [hls]
  clear hls
  refine g_aload_n rfl rfl ?_
  refine g_getR rfl (cs.kd 0 (by omega) rfl) (cs.rf 21 (by omega) rfl) ?_
  refine g_iload_n rfl rfl ?_
  refine g_callVI [aI ((p : Int))] [] rfl rfl rfl rfl (Nat.le_of_ble_eq_true rfl) (cs.kd 11 (by omega) rfl) (x_pgHas (by omega) cs V xg ok ((p : Int))) ?_
  rintro r hx ⟨ehx, rfl⟩
  rw [ehx]
  clear ehx hx
  refine g_if_ne_t rfl (by rw [if_pos (by omega)]; decide) ?_
  refine g_iload_n rfl rfl ?_
  refine g_if_lt_f rfl (by omega) ?_
  refine g_iload_n rfl rfl ?_
  refine g_bipush rfl ?_
  refine g_icmp_le_t rfl (by omega) ?_
  refine g_aload_n rfl rfl ?_
  refine g_getR rfl (cs.kd 0 (by omega) rfl) (cs.rf 21 (by omega) rfl) ?_
  refine g_iload_n rfl rfl ?_
  refine g_iload_n rfl rfl ?_
  refine g_callVJ [aI ((p : Int)), aI 0] [] rfl rfl rfl rfl (Nat.le_of_ble_eq_true rfl) (cs.kd 11 (by omega) rfl) (x_tell0 (by omega) cs V xg ok p (by omega)) ?_
  rintro r _ ⟨V1, rfl, q⟩
  refine g_lret rfl ?_
  exact ⟨V1, rfl, q⟩
set_option maxRecDepth 100000 in
theorem f_pgOf1 {w : aW} {d : Nat} (hd : 24 ≤ d) {h : aH} {c : Nat} (cs : CS h c) (V : Nat → Nat → Int) {S : aS} (xg : XG V c S) (ok : OkG S) (p : Nat) (hp : p < sG S) : WP w d 212 [aO (some c), aI ((p : Int)), aI 1] (hw h V) (RJ (fun r h1 => ∃ V1, h1 = hw h V1 ∧ FPg V V1 c ∧ (r = if bt (gSim S p) = true then 1 else 0))) := by
  obtain ⟨d, rfl⟩ : ∃ d1, d = d1 + 1 := ⟨d - 1, by omega⟩
  refine WP.enter (cd := cd_X11_polygonOf) rfl ?_
  have hls : largs 0 [aO (some c), aI ((p : Int)), aI 1] = [(0, aO (some c)), (1, aI ((p : Int))), (2, aI 1)] := rfl
  rw [hls]
  clear hls
  refine g_aload_n rfl rfl ?_
  refine g_getR rfl (cs.kd 0 (by omega) rfl) (cs.rf 21 (by omega) rfl) ?_
  refine g_iload_n rfl rfl ?_
  refine g_callVI [aI ((p : Int))] [] rfl rfl rfl rfl (Nat.le_of_ble_eq_true rfl) (cs.kd 11 (by omega) rfl) (x_pgHas (by omega) cs V xg ok ((p : Int))) ?_
  rintro r hx ⟨ehx, rfl⟩
  rw [ehx]
  clear ehx hx
  refine g_if_ne_t rfl (by rw [if_pos (by omega)]; decide) ?_
  refine g_iload_n rfl rfl ?_
  refine g_if_lt_f rfl (by omega) ?_
  refine g_iload_n rfl rfl ?_
  refine g_bipush rfl ?_
  refine g_icmp_le_t rfl (by omega) ?_
  refine g_aload_n rfl rfl ?_
  refine g_getR rfl (cs.kd 0 (by omega) rfl) (cs.rf 21 (by omega) rfl) ?_
  refine g_iload_n rfl rfl ?_
  refine g_iload_n rfl rfl ?_
  refine g_callVJ [aI ((p : Int)), aI 1] [] rfl rfl rfl rfl (Nat.le_of_ble_eq_true rfl) (cs.kd 11 (by omega) rfl) (x_tell1 (by omega) cs V xg ok p (by omega)) ?_
  rintro r _ ⟨V1, rfl, q⟩
  refine g_lret rfl ?_
  exact ⟨V1, rfl, q⟩
set_option maxRecDepth 100000 in
theorem f_pgOf2 {w : aW} {d : Nat} (hd : 24 ≤ d) {h : aH} {c : Nat} (cs : CS h c) (V : Nat → Nat → Int) {S : aS} (xg : XG V c S) (ok : OkG S) (p : Nat) (hp : p < sG S) : WP w d 212 [aO (some c), aI ((p : Int)), aI 2] (hw h V) (RJ (fun r h1 => ∃ V1, h1 = hw h V1 ∧ FPg V V1 c ∧ (r = gAr S p (sGn S p)))) := by
  obtain ⟨d, rfl⟩ : ∃ d1, d = d1 + 1 := ⟨d - 1, by omega⟩
  refine WP.enter (cd := cd_X11_polygonOf) rfl ?_
  have hls : largs 0 [aO (some c), aI ((p : Int)), aI 2] = [(0, aO (some c)), (1, aI ((p : Int))), (2, aI 2)] := rfl
  rw [hls]
  clear hls
  refine g_aload_n rfl rfl ?_
  refine g_getR rfl (cs.kd 0 (by omega) rfl) (cs.rf 21 (by omega) rfl) ?_
  refine g_iload_n rfl rfl ?_
  refine g_callVI [aI ((p : Int))] [] rfl rfl rfl rfl (Nat.le_of_ble_eq_true rfl) (cs.kd 11 (by omega) rfl) (x_pgHas (by omega) cs V xg ok ((p : Int))) ?_
  rintro r hx ⟨ehx, rfl⟩
  rw [ehx]
  clear ehx hx
  refine g_if_ne_t rfl (by rw [if_pos (by omega)]; decide) ?_
  refine g_iload_n rfl rfl ?_
  refine g_if_lt_f rfl (by omega) ?_
  refine g_iload_n rfl rfl ?_
  refine g_bipush rfl ?_
  refine g_icmp_le_t rfl (by omega) ?_
  refine g_aload_n rfl rfl ?_
  refine g_getR rfl (cs.kd 0 (by omega) rfl) (cs.rf 21 (by omega) rfl) ?_
  refine g_iload_n rfl rfl ?_
  refine g_iload_n rfl rfl ?_
  refine g_callVJ [aI ((p : Int)), aI 2] [] rfl rfl rfl rfl (Nat.le_of_ble_eq_true rfl) (cs.kd 11 (by omega) rfl) (x_tell2 (by omega) cs V xg ok p (by omega)) ?_
  rintro r _ ⟨V1, rfl, q⟩
  refine g_lret rfl ?_
  exact ⟨V1, rfl, q⟩
set_option maxRecDepth 100000 in
theorem f_pgOf3 {w : aW} {d : Nat} (hd : 24 ≤ d) {h : aH} {c : Nat} (cs : CS h c) (V : Nat → Nat → Int) {S : aS} (xg : XG V c S) (ok : OkG S) (p : Nat) (hp : p < sG S) : WP w d 212 [aO (some c), aI ((p : Int)), aI 3] (hw h V) (RJ (fun r h1 => ∃ V1, h1 = hw h V1 ∧ FPg V V1 c ∧ ((sGn S p = 0 ∧ r = 0) ∨ ∃ t f : Nat, r = t ∧ gLe S p f ∧ gEnd S p f t))) := by
  obtain ⟨d, rfl⟩ : ∃ d1, d = d1 + 1 := ⟨d - 1, by omega⟩
  refine WP.enter (cd := cd_X11_polygonOf) rfl ?_
  have hls : largs 0 [aO (some c), aI ((p : Int)), aI 3] = [(0, aO (some c)), (1, aI ((p : Int))), (2, aI 3)] := rfl
  rw [hls]
  clear hls
  refine g_aload_n rfl rfl ?_
  refine g_getR rfl (cs.kd 0 (by omega) rfl) (cs.rf 21 (by omega) rfl) ?_
  refine g_iload_n rfl rfl ?_
  refine g_callVI [aI ((p : Int))] [] rfl rfl rfl rfl (Nat.le_of_ble_eq_true rfl) (cs.kd 11 (by omega) rfl) (x_pgHas (by omega) cs V xg ok ((p : Int))) ?_
  rintro r hx ⟨ehx, rfl⟩
  rw [ehx]
  clear ehx hx
  refine g_if_ne_t rfl (by rw [if_pos (by omega)]; decide) ?_
  refine g_iload_n rfl rfl ?_
  refine g_if_lt_f rfl (by omega) ?_
  refine g_iload_n rfl rfl ?_
  refine g_bipush rfl ?_
  refine g_icmp_le_t rfl (by omega) ?_
  refine g_aload_n rfl rfl ?_
  refine g_getR rfl (cs.kd 0 (by omega) rfl) (cs.rf 21 (by omega) rfl) ?_
  refine g_iload_n rfl rfl ?_
  refine g_iload_n rfl rfl ?_
  refine g_callVJ [aI ((p : Int)), aI 3] [] rfl rfl rfl rfl (Nat.le_of_ble_eq_true rfl) (cs.kd 11 (by omega) rfl) (x_tell3 (by omega) cs V xg ok p (by omega)) ?_
  rintro r _ ⟨V1, rfl, q⟩
  refine g_lret rfl ?_
  exact ⟨V1, rfl, q⟩
set_option maxRecDepth 100000 in
theorem f_pgOf4 {w : aW} {d : Nat} (hd : 24 ≤ d) {h : aH} {c : Nat} (cs : CS h c) (V : Nat → Nat → Int) {S : aS} (xg : XG V c S) (ok : OkG S) (p : Nat) (hp : p < sG S) : WP w d 212 [aO (some c), aI ((p : Int)), aI 4] (hw h V) (RJ (fun r h1 => ∃ V1, h1 = hw h V1 ∧ FPg V V1 c ∧ (r = if bt (gSim S p) = true ∧ ¬(gL S p (sGn S p) = true ∧ gR S p (sGn S p) = true) then 1 else 0))) := by
  obtain ⟨d, rfl⟩ : ∃ d1, d = d1 + 1 := ⟨d - 1, by omega⟩
  refine WP.enter (cd := cd_X11_polygonOf) rfl ?_
  have hls : largs 0 [aO (some c), aI ((p : Int)), aI 4] = [(0, aO (some c)), (1, aI ((p : Int))), (2, aI 4)] := rfl
  rw [hls]
  clear hls
  refine g_aload_n rfl rfl ?_
  refine g_getR rfl (cs.kd 0 (by omega) rfl) (cs.rf 21 (by omega) rfl) ?_
  refine g_iload_n rfl rfl ?_
  refine g_callVI [aI ((p : Int))] [] rfl rfl rfl rfl (Nat.le_of_ble_eq_true rfl) (cs.kd 11 (by omega) rfl) (x_pgHas (by omega) cs V xg ok ((p : Int))) ?_
  rintro r hx ⟨ehx, rfl⟩
  rw [ehx]
  clear ehx hx
  refine g_if_ne_t rfl (by rw [if_pos (by omega)]; decide) ?_
  refine g_iload_n rfl rfl ?_
  refine g_if_lt_f rfl (by omega) ?_
  refine g_iload_n rfl rfl ?_
  refine g_bipush rfl ?_
  refine g_icmp_le_t rfl (by omega) ?_
  refine g_aload_n rfl rfl ?_
  refine g_getR rfl (cs.kd 0 (by omega) rfl) (cs.rf 21 (by omega) rfl) ?_
  refine g_iload_n rfl rfl ?_
  refine g_iload_n rfl rfl ?_
  refine g_callVJ [aI ((p : Int)), aI 4] [] rfl rfl rfl rfl (Nat.le_of_ble_eq_true rfl) (cs.kd 11 (by omega) rfl) (x_tell4 (by omega) cs V xg ok p (by omega)) ?_
  rintro r _ ⟨V1, rfl, q⟩
  refine g_lret rfl ?_
  exact ⟨V1, rfl, q⟩
set_option maxRecDepth 100000 in
theorem f_pgOf5 {w : aW} {d : Nat} (hd : 24 ≤ d) {h : aH} {c : Nat} (cs : CS h c) (V : Nat → Nat → Int) {S : aS} (xg : XG V c S) (ok : OkG S) (p : Nat) (hp : p < sG S) : WP w d 212 [aO (some c), aI ((p : Int)), aI 5] (hw h V) (RJ (fun r h1 => ∃ V1, h1 = hw h V1 ∧ FPg V V1 c ∧ (r = if bt (gSim S p) = true then w64 ((((gAr S p (sGn S p)).natAbs : Int) - gOs S p (sGn S p) + 2).tdiv 2) else -3))) := by
  obtain ⟨d, rfl⟩ : ∃ d1, d = d1 + 1 := ⟨d - 1, by omega⟩
  refine WP.enter (cd := cd_X11_polygonOf) rfl ?_
  have hls : largs 0 [aO (some c), aI ((p : Int)), aI 5] = [(0, aO (some c)), (1, aI ((p : Int))), (2, aI 5)] := rfl
  rw [hls]
  clear hls
  refine g_aload_n rfl rfl ?_
  refine g_getR rfl (cs.kd 0 (by omega) rfl) (cs.rf 21 (by omega) rfl) ?_
  refine g_iload_n rfl rfl ?_
  refine g_callVI [aI ((p : Int))] [] rfl rfl rfl rfl (Nat.le_of_ble_eq_true rfl) (cs.kd 11 (by omega) rfl) (x_pgHas (by omega) cs V xg ok ((p : Int))) ?_
  rintro r hx ⟨ehx, rfl⟩
  rw [ehx]
  clear ehx hx
  refine g_if_ne_t rfl (by rw [if_pos (by omega)]; decide) ?_
  refine g_iload_n rfl rfl ?_
  refine g_if_lt_f rfl (by omega) ?_
  refine g_iload_n rfl rfl ?_
  refine g_bipush rfl ?_
  refine g_icmp_le_t rfl (by omega) ?_
  refine g_aload_n rfl rfl ?_
  refine g_getR rfl (cs.kd 0 (by omega) rfl) (cs.rf 21 (by omega) rfl) ?_
  refine g_iload_n rfl rfl ?_
  refine g_iload_n rfl rfl ?_
  refine g_callVJ [aI ((p : Int)), aI 5] [] rfl rfl rfl rfl (Nat.le_of_ble_eq_true rfl) (cs.kd 11 (by omega) rfl) (x_tell5 (by omega) cs V xg ok p (by omega)) ?_
  rintro r _ ⟨V1, rfl, q⟩
  refine g_lret rfl ?_
  exact ⟨V1, rfl, q⟩
set_option maxRecDepth 100000 in
theorem f_pgOf6 {w : aW} {d : Nat} (hd : 24 ≤ d) {h : aH} {c : Nat} (cs : CS h c) (V : Nat → Nat → Int) {S : aS} (xg : XG V c S) (ok : OkG S) (p : Nat) (hp : p < sG S) : WP w d 212 [aO (some c), aI ((p : Int)), aI 6] (hw h V) (RJ (fun r h1 => ∃ V1, h1 = hw h V1 ∧ FPg V V1 c ∧ (r = if bt (gSim S p) = true then gOs S p (sGn S p) else -3))) := by
  obtain ⟨d, rfl⟩ : ∃ d1, d = d1 + 1 := ⟨d - 1, by omega⟩
  refine WP.enter (cd := cd_X11_polygonOf) rfl ?_
  have hls : largs 0 [aO (some c), aI ((p : Int)), aI 6] = [(0, aO (some c)), (1, aI ((p : Int))), (2, aI 6)] := rfl
  rw [hls]
  clear hls
  refine g_aload_n rfl rfl ?_
  refine g_getR rfl (cs.kd 0 (by omega) rfl) (cs.rf 21 (by omega) rfl) ?_
  refine g_iload_n rfl rfl ?_
  refine g_callVI [aI ((p : Int))] [] rfl rfl rfl rfl (Nat.le_of_ble_eq_true rfl) (cs.kd 11 (by omega) rfl) (x_pgHas (by omega) cs V xg ok ((p : Int))) ?_
  rintro r hx ⟨ehx, rfl⟩
  rw [ehx]
  clear ehx hx
  refine g_if_ne_t rfl (by rw [if_pos (by omega)]; decide) ?_
  refine g_iload_n rfl rfl ?_
  refine g_if_lt_f rfl (by omega) ?_
  refine g_iload_n rfl rfl ?_
  refine g_bipush rfl ?_
  refine g_icmp_le_t rfl (by omega) ?_
  refine g_aload_n rfl rfl ?_
  refine g_getR rfl (cs.kd 0 (by omega) rfl) (cs.rf 21 (by omega) rfl) ?_
  refine g_iload_n rfl rfl ?_
  refine g_iload_n rfl rfl ?_
  refine g_callVJ [aI ((p : Int)), aI 6] [] rfl rfl rfl rfl (Nat.le_of_ble_eq_true rfl) (cs.kd 11 (by omega) rfl) (x_tell6 (by omega) cs V xg ok p (by omega)) ?_
  rintro r _ ⟨V1, rfl, q⟩
  refine g_lret rfl ?_
  exact ⟨V1, rfl, q⟩
set_option maxRecDepth 100000 in
theorem f_pgOf7 {w : aW} {d : Nat} (hd : 24 ≤ d) {h : aH} {c : Nat} (cs : CS h c) (V : Nat → Nat → Int) {S : aS} (xg : XG V c S) (ok : OkG S) (p : Nat) (hp : p < sG S) : WP w d 212 [aO (some c), aI ((p : Int)), aI 7] (hw h V) (RJ (fun r h1 => ∃ V1, h1 = hw h V1 ∧ FPg V V1 c ∧ (r = if bt (gSim S p) = true then gTr S p 0 (sGn S p - 1) else -3))) := by
  obtain ⟨d, rfl⟩ : ∃ d1, d = d1 + 1 := ⟨d - 1, by omega⟩
  refine WP.enter (cd := cd_X11_polygonOf) rfl ?_
  have hls : largs 0 [aO (some c), aI ((p : Int)), aI 7] = [(0, aO (some c)), (1, aI ((p : Int))), (2, aI 7)] := rfl
  rw [hls]
  clear hls
  refine g_aload_n rfl rfl ?_
  refine g_getR rfl (cs.kd 0 (by omega) rfl) (cs.rf 21 (by omega) rfl) ?_
  refine g_iload_n rfl rfl ?_
  refine g_callVI [aI ((p : Int))] [] rfl rfl rfl rfl (Nat.le_of_ble_eq_true rfl) (cs.kd 11 (by omega) rfl) (x_pgHas (by omega) cs V xg ok ((p : Int))) ?_
  rintro r hx ⟨ehx, rfl⟩
  rw [ehx]
  clear ehx hx
  refine g_if_ne_t rfl (by rw [if_pos (by omega)]; decide) ?_
  refine g_iload_n rfl rfl ?_
  refine g_if_lt_f rfl (by omega) ?_
  refine g_iload_n rfl rfl ?_
  refine g_bipush rfl ?_
  refine g_icmp_le_t rfl (by omega) ?_
  refine g_aload_n rfl rfl ?_
  refine g_getR rfl (cs.kd 0 (by omega) rfl) (cs.rf 21 (by omega) rfl) ?_
  refine g_iload_n rfl rfl ?_
  refine g_iload_n rfl rfl ?_
  refine g_callVJ [aI ((p : Int)), aI 7] [] rfl rfl rfl rfl (Nat.le_of_ble_eq_true rfl) (cs.kd 11 (by omega) rfl) (x_tell7 (by omega) cs V xg ok p (by omega)) ?_
  rintro r _ ⟨V1, rfl, q⟩
  refine g_lret rfl ?_
  exact ⟨V1, rfl, q⟩
set_option maxRecDepth 100000 in
theorem f_pgOf8 {w : aW} {d : Nat} (hd : 24 ≤ d) {h : aH} {c : Nat} (cs : CS h c) (V : Nat → Nat → Int) {S : aS} (xg : XG V c S) (ok : OkG S) (p : Nat) (hp : p < sG S) : WP w d 212 [aO (some c), aI ((p : Int)), aI 8] (hw h V) (RJ (fun r h1 => ∃ V1, h1 = hw h V1 ∧ FPg V V1 c ∧ (gMx S p (sGn S p) (sGn S p) 0 r))) := by
  obtain ⟨d, rfl⟩ : ∃ d1, d = d1 + 1 := ⟨d - 1, by omega⟩
  refine WP.enter (cd := cd_X11_polygonOf) rfl ?_
  have hls : largs 0 [aO (some c), aI ((p : Int)), aI 8] = [(0, aO (some c)), (1, aI ((p : Int))), (2, aI 8)] := rfl
  rw [hls]
  clear hls
  refine g_aload_n rfl rfl ?_
  refine g_getR rfl (cs.kd 0 (by omega) rfl) (cs.rf 21 (by omega) rfl) ?_
  refine g_iload_n rfl rfl ?_
  refine g_callVI [aI ((p : Int))] [] rfl rfl rfl rfl (Nat.le_of_ble_eq_true rfl) (cs.kd 11 (by omega) rfl) (x_pgHas (by omega) cs V xg ok ((p : Int))) ?_
  rintro r hx ⟨ehx, rfl⟩
  rw [ehx]
  clear ehx hx
  refine g_if_ne_t rfl (by rw [if_pos (by omega)]; decide) ?_
  refine g_iload_n rfl rfl ?_
  refine g_if_lt_f rfl (by omega) ?_
  refine g_iload_n rfl rfl ?_
  refine g_bipush rfl ?_
  refine g_icmp_le_t rfl (by omega) ?_
  refine g_aload_n rfl rfl ?_
  refine g_getR rfl (cs.kd 0 (by omega) rfl) (cs.rf 21 (by omega) rfl) ?_
  refine g_iload_n rfl rfl ?_
  refine g_iload_n rfl rfl ?_
  refine g_callVJ [aI ((p : Int)), aI 8] [] rfl rfl rfl rfl (Nat.le_of_ble_eq_true rfl) (cs.kd 11 (by omega) rfl) (x_tell8 (by omega) cs V xg ok p (by omega)) ?_
  rintro r _ ⟨V1, rfl, q⟩
  refine g_lret rfl ?_
  exact ⟨V1, rfl, q⟩
set_option maxRecDepth 100000 in
theorem f_pgOfX {w : aW} {d : Nat} (hd : 9 ≤ d) {h : aH} {c : Nat} (cs : CS h c) (V : Nat → Nat → Int) {S : aS} (xg : XG V c S) (ok : OkG S) (p k : Int) (hp : ¬(0 ≤ p ∧ p < sG S) ∨ ¬(0 ≤ k ∧ k ≤ 8)) : WP w d 212 [aO (some c), aI p, aI k] (hw h V) (RJ (fun r h1 => h1 = hw h V ∧ r = if 0 ≤ p ∧ p < sG S then -2 else -1)) := by
  obtain ⟨d, rfl⟩ : ∃ d1, d = d1 + 1 := ⟨d - 1, by omega⟩
  refine WP.enter (cd := cd_X11_polygonOf) rfl ?_
  have hls : largs 0 [aO (some c), aI p, aI k] = [(0, aO (some c)), (1, aI p), (2, aI k)] := rfl
  rw [hls]
  clear hls
  refine g_aload_n rfl rfl ?_
  refine g_getR rfl (cs.kd 0 (by omega) rfl) (cs.rf 21 (by omega) rfl) ?_
  refine g_iload_n rfl rfl ?_
  refine g_callVI [aI p] [] rfl rfl rfl rfl (Nat.le_of_ble_eq_true rfl) (cs.kd 11 (by omega) rfl) (x_pgHas (by omega) cs V xg ok p) ?_
  rintro r hx ⟨ehx, rfl⟩
  rw [ehx]
  clear ehx hx
  refine g_b_ne rfl (fun cq8 => ?_) (fun cq8 => ?_)
  · skip
    refine g_iload_n rfl rfl ?_
    refine g_if_lt rfl (fun cq16 => ?_) (fun cq16 => ?_)
    · skip
      refine g_ldc2 rfl ?_
      refine g_lret rfl ?_
      refine ⟨rfl, ?_⟩
      first
        | (rw [if_pos (by omega)]; done)
        | (rw [if_neg (by omega)]; done)
    · skip
      refine g_iload_n rfl rfl ?_
      refine g_bipush rfl ?_
      refine g_icmp_le_f rfl (by omega) ?_
      refine g_ldc2 rfl ?_
      refine g_lret rfl ?_
      refine ⟨rfl, ?_⟩
      first
        | (rw [if_pos (by omega)]; done)
        | (rw [if_neg (by omega)]; done)
  · skip
    refine g_ldc2 rfl ?_
    refine g_lret rfl ?_
    refine ⟨rfl, ?_⟩
    first
      | (rw [if_pos (by omega)]; done)
      | (rw [if_neg (by omega)]; done)
