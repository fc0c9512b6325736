/-! the reference's polynomials, faces: printed by wip/whole/hf.py -/
theorem big_at {f : Nat → Int} {i j k : Nat} (hi : i ≤ 10) (hj : j ≤ 10) (hk : k ≤ 10) : big f (121 * i + 11 * j + k) = if i + j + k ≤ 10 then f (pI i j k) else 0 := by
  have e1 : (121 * i + 11 * j + k) / 121 = i := by omega
  have e2 : (121 * i + 11 * j + k) / 11 % 11 = j := by omega
  have e3 : (121 * i + 11 * j + k) % 11 = k := by omega
  unfold big pG pK
  rw [e1, e2, e3]
/-- what a look at a polynomial leaves -/
def FPo (V V1 : Nat → Nat → Int) (o : Nat) : Prop := V1 = vset V o 31 0
set_option maxRecDepth 100000 in
theorem m_pIsP {w : aW} {d : Nat} (hd : 3 ≤ d) {h : aH} {o : Nat} (ms : MS h o) (V : Nat → Nat → Int) {S : aS} (mp : MP V o S) (ok : OkP S) (a : Int) : WP w d 352 [aO (some o), aI a] (hw h V) (RI (fun r h1 => h1 = hw h V ∧ r = if 0 ≤ a ∧ a < sPn S then 1 else 0)) := by
  obtain ⟨d, rfl⟩ : ∃ d1, d = d1 + 1 := ⟨d - 1, by omega⟩
  refine WP.enter (cd := cd_X12_isPolynomial) rfl ?_
  have hok := ok.1
  have hls : largs 0 [aO (some o), aI a] = [(0, aO (some o)), (1, aI a)] := rfl
  rw [hls]
  clear hls
  refine g_iload_n rfl rfl ?_
  refine g_i2l rfl ?_
  refine g_lconst0 rfl ?_
  refine g_aload_n rfl rfl ?_
  refine g_getI rfl ms.1 ?_
  refine g_top (v2 := aI ((sPn S : Int))) (congrArg aI (by exact mp.1)) ?_
  refine g_iconst rfl ?_
  refine g_isub rfl (by omega) (by omega) ?_
  refine g_i2l rfl ?_
  refine g_callSI [aJ a, aJ 0, aJ (((sPn S : Int)) - 1)] [] rfl rfl rfl rfl (Nat.le_of_ble_eq_true rfl) (c_in (by omega) _ _ _ _) ?_
  rintro r1 _ ⟨rfl, rfl⟩
  refine g_zret rfl (by omega) ?_
  refine ⟨rfl, ?_⟩
  split <;> split <;> omega
set_option maxRecDepth 100000 in
theorem m_coef {w : aW} {d : Nat} (hd : 24 ≤ d) {h : aH} {o : Nat} (ms : MS h o) (V : Nat → Nat → Int) {S : aS} (mp : MP V o S) (ok : OkP S) (a i j k : Int) : WP w d 361 [aO (some o), aI a, aI i, aI j, aI k] (hw h V) (RJ (fun r h1 => h1 = hw h (vset V o 31 0) ∧ r = if (0 ≤ a ∧ a < sPn S) ∧ 0 ≤ i ∧ 0 ≤ j ∧ 0 ≤ k ∧ i + j + k ≤ 10 then sPc S a.toNat (pI i.toNat j.toNat k.toNat) else 0)) := by
  obtain ⟨d, rfl⟩ : ∃ d1, d = d1 + 1 := ⟨d - 1, by omega⟩
  refine WP.enter (cd := cd_X12_coefficient) rfl ?_
  have hok := ok.1
  have hls : largs 0 [aO (some o), aI a, aI i, aI j, aI k] = [(0, aO (some o)), (1, aI a), (2, aI i), (3, aI j), (4, aI k)] := rfl
  rw [hls]
  clear hls
  refine g_aload_n rfl rfl ?_
  refine g_iconst rfl ?_
  refine g_putI rfl ms.1 ?_
  refine g_hp (h2 := hw h (vset V o 31 0)) rfl ?_
  refine g_aload_n rfl rfl ?_
  refine g_iload_n rfl rfl ?_
  refine g_callVI [aI a] [] rfl rfl rfl rfl (Nat.le_of_ble_eq_true rfl) ms.1 (m_pIsP (by omega) ms ((vset V o 31 0)) (mp.own 0) ok a) ?_
  rintro r hx ⟨ehx, rfl⟩
  rw [ehx]
  clear ehx hx
  refine g_b_eq rfl (fun cq10 => ?_) (fun cq10 => ?_)
  · skip
    refine g_iconst rfl ?_
    refine g_istore (l1 := [(5, aI 0), (0, aO (some o)), (1, aI a), (2, aI i), (3, aI j), (4, aI k)]) rfl rfl ?_
    refine g_iload rfl rfl ?_
    refine g_if_eq_t rfl (by omega) ?_
    refine g_lconst0 rfl ?_
    refine g_lret rfl ?_
    refine ⟨rfl, ?_⟩
    first
      | (refine Eq.symm (if_neg ?_); intro z; omega)
      | (rw [big_at (by omega) (by omega) (by omega)]; split <;> split <;> first | rfl | (exfalso; omega))
  · skip
    refine g_iload_n rfl rfl ?_
    refine g_i2l rfl ?_
    refine g_lconst0 rfl ?_
    refine g_ldc2 rfl ?_
    refine g_callSI [aJ i, aJ 0, aJ 10] [] rfl rfl rfl rfl (Nat.le_of_ble_eq_true rfl) (c_in (by omega) _ _ _ _) ?_
    rintro r1 _ ⟨rfl, rfl⟩
    refine g_b_eq rfl (fun cq22 => ?_) (fun cq22 => ?_)
    · skip
      refine g_iconst rfl ?_
      refine g_istore (l1 := [(5, aI 0), (0, aO (some o)), (1, aI a), (2, aI i), (3, aI j), (4, aI k)]) rfl rfl ?_
      refine g_iload rfl rfl ?_
      refine g_if_eq_t rfl (by omega) ?_
      refine g_lconst0 rfl ?_
      refine g_lret rfl ?_
      refine ⟨rfl, ?_⟩
      first
        | (refine Eq.symm (if_neg ?_); intro z; omega)
        | (rw [big_at (by omega) (by omega) (by omega)]; split <;> split <;> first | rfl | (exfalso; omega))
    · skip
      refine g_iload_n rfl rfl ?_
      refine g_i2l rfl ?_
      refine g_lconst0 rfl ?_
      refine g_ldc2 rfl ?_
      refine g_callSI [aJ j, aJ 0, aJ 10] [] rfl rfl rfl rfl (Nat.le_of_ble_eq_true rfl) (c_in (by omega) _ _ _ _) ?_
      rintro r2 _ ⟨rfl, rfl⟩
      refine g_b_eq rfl (fun cq34 => ?_) (fun cq34 => ?_)
      · skip
        refine g_iconst rfl ?_
        refine g_istore (l1 := [(5, aI 0), (0, aO (some o)), (1, aI a), (2, aI i), (3, aI j), (4, aI k)]) rfl rfl ?_
        refine g_iload rfl rfl ?_
        refine g_if_eq_t rfl (by omega) ?_
        refine g_lconst0 rfl ?_
        refine g_lret rfl ?_
        refine ⟨rfl, ?_⟩
        first
          | (refine Eq.symm (if_neg ?_); intro z; omega)
          | (rw [big_at (by omega) (by omega) (by omega)]; split <;> split <;> first | rfl | (exfalso; omega))
      · skip
        refine g_iload rfl rfl ?_
        refine g_i2l rfl ?_
        refine g_lconst0 rfl ?_
        refine g_ldc2 rfl ?_
        refine g_callSI [aJ k, aJ 0, aJ 10] [] rfl rfl rfl rfl (Nat.le_of_ble_eq_true rfl) (c_in (by omega) _ _ _ _) ?_
        rintro r3 _ ⟨rfl, rfl⟩
        refine g_b_eq rfl (fun cq47 => ?_) (fun cq47 => ?_)
        · skip
          refine g_iconst rfl ?_
          refine g_istore (l1 := [(5, aI 0), (0, aO (some o)), (1, aI a), (2, aI i), (3, aI j), (4, aI k)]) rfl rfl ?_
          refine g_iload rfl rfl ?_
          refine g_if_eq_t rfl (by omega) ?_
          refine g_lconst0 rfl ?_
          refine g_lret rfl ?_
          refine ⟨rfl, ?_⟩
          first
            | (refine Eq.symm (if_neg ?_); intro z; omega)
            | (rw [big_at (by omega) (by omega) (by omega)]; split <;> split <;> first | rfl | (exfalso; omega))
        · skip
          refine g_iconst rfl ?_
          refine g_goto rfl ?_
          refine g_istore (l1 := [(5, aI 1), (0, aO (some o)), (1, aI a), (2, aI i), (3, aI j), (4, aI k)]) rfl rfl ?_
          refine g_iload rfl rfl ?_
          refine g_if_eq_f rfl (by omega) ?_
          refine g_aload_n rfl rfl ?_
          refine g_getR rfl ms.1 (mr_coefs ms) ?_
          refine g_sipush rfl ?_
          refine g_iload_n rfl rfl ?_
          refine g_imul rfl (by omega) (by omega) ?_
          refine g_bipush rfl ?_
          refine g_iload_n rfl rfl ?_
          refine g_imul rfl (by omega) (by omega) ?_
          refine g_iadd rfl (by omega) (by omega) ?_
          refine g_bipush rfl ?_
          refine g_iload_n rfl rfl ?_
          refine g_imul rfl (by omega) (by omega) ?_
          refine g_iadd rfl (by omega) (by omega) ?_
          refine g_iload rfl rfl ?_
          refine g_iadd rfl (by omega) (by omega) ?_
          refine g_lald (i := 1331 * a.toNat + (121 * i.toNat + 11 * j.toNat + k.toNat)) rfl (mt_coefs ms) (by omega) (by omega) ?_
          refine g_top (v2 := aJ (big (sPc S a.toNat) (121 * i.toNat + 11 * j.toNat + k.toNat))) (congrArg aJ (by exact (mp.own 0).2 a.toNat (by omega) (121 * i.toNat + 11 * j.toNat + k.toNat) (by omega))) ?_
          refine g_goto rfl ?_
          refine g_lret rfl ?_
          refine ⟨rfl, ?_⟩
          first
            | (refine Eq.symm (if_neg ?_); intro z; omega)
            | (rw [big_at (by omega) (by omega) (by omega)]; split <;> split <;> first | rfl | (exfalso; omega))
theorem big_same {f g : Nat → Int} : (∀ x < 1331, big f x = big g x) ↔ ∀ t < 286, f t = g t := by
  constructor
  · intro h t ht
    rw [← big_C (f := f) ht, ← big_C (f := g) ht]
    exact h _ (pK_C ht).2.2
  · intro h x hx
    unfold big
    by_cases z : pG x
    · rw [if_pos z, if_pos z, h _ (pK_lt z)]
    · rw [if_neg z, if_neg z]
set_option maxRecDepth 100000 in
theorem m_same1 {w : aW} {d : Nat} (hd : 24 ≤ d) {h : aH} {o : Nat} (ms : MS h o) (V : Nat → Nat → Int) {S : aS} (mp : MP V o S) (ok : OkP S) (p : Nat) (hp : p < sPn S) (q : Nat) (hq : q < sPn S) : WP w d 362 [aO (some o), aI ((p : Int)), aI ((q : Int))] (hw h V) (RI (fun r h1 => h1 = hw h (vset V o 31 0) ∧ r = if bt (∀ t < 286, sPc S p t = sPc S q t) = true then 1 else 0)) := by
  obtain ⟨d, rfl⟩ : ∃ d1, d = d1 + 1 := ⟨d - 1, by omega⟩
  refine WP.enter (cd := cd_X12_same) rfl ?_
  have hok := ok.1
  have hls : largs 0 [aO (some o), aI ((p : Int)), aI ((q : Int))] = [(0, aO (some o)), (1, aI ((p : Int))), (2, aI ((q : Int)))] := rfl
  rw [hls]
  clear hls
  have l25 : ∀ (fuel : Nat) (x : Nat), (x ≤ 1331) → (∀ y < x, big (sPc S p) y = big (sPc S q) y) → 1331 - x < fuel → Wk w d cd_X12_same 25 [(3, aI ((x : Int))), (0, aO (some o)), (1, aI ((p : Int))), (2, aI ((q : Int)))] [] (hw h (vset V o 31 0)) (RI (fun r h1 => h1 = hw h (vset V o 31 0) ∧ r = if bt (∀ t < 286, sPc S p t = sPc S q t) = true then 1 else 0)) := by
    intro fuel
    induction fuel with
    | zero => intros; omega
    | succ fuel ih25 =>
      intro x hx hs hfuel
      refine g_iload_n rfl rfl ?_
      refine g_sipush rfl ?_
      refine g_icmp_ge rfl (fun cq29 => ?_) (fun cq29 => ?_)
      · skip
        refine g_iconst rfl ?_
        refine g_iret rfl ?_
        refine ⟨rfl, (if_pos ?_).symm⟩
        exact bt_iff.mpr (big_same.mp fun y hy => hs y (by omega))
      · skip
        refine g_aload_n rfl rfl ?_
        refine g_getR rfl ms.1 (mr_coefs ms) ?_
        refine g_sipush rfl ?_
        refine g_iload_n rfl rfl ?_
        refine g_imul rfl (by omega) (by omega) ?_
        refine g_iload_n rfl rfl ?_
        refine g_iadd rfl (by omega) (by omega) ?_
        refine g_lald (i := 1331 * p + x) rfl (mt_coefs ms) (by omega) (by omega) ?_
        refine g_top (v2 := aJ (big (sPc S p) x)) (congrArg aJ (by exact (mp.own 0).2 p (by omega) x (by omega))) ?_
        refine g_aload_n rfl rfl ?_
        refine g_getR rfl ms.1 (mr_coefs ms) ?_
        refine g_sipush rfl ?_
        refine g_iload_n rfl rfl ?_
        refine g_imul rfl (by omega) (by omega) ?_
        refine g_iload_n rfl rfl ?_
        refine g_iadd rfl (by omega) (by omega) ?_
        refine g_lald (i := 1331 * q + x) rfl (mt_coefs ms) (by omega) (by omega) ?_
        refine g_top (v2 := aJ (big (sPc S q) x)) (congrArg aJ (by exact (mp.own 0).2 q (by omega) x (by omega))) ?_
        refine g_lc_eq rfl rfl (fun cq56 => ?_) (fun cq56 => ?_)
        · skip
          refine g_iinc (l1 := [(3, aI ((x : Int) + 1)), (0, aO (some o)), (1, aI ((p : Int))), (2, aI ((q : Int)))]) rfl rfl (by omega) (by omega) rfl ?_
          refine g_goto rfl ?_
          exact ih25 (x + 1) (by omega) (by exact fun y hy => if e : y = x then by (subst e; omega) else hs y (by omega)) (by omega)
        · skip
          refine g_iconst rfl ?_
          refine g_iret rfl ?_
          refine ⟨rfl, (if_neg ?_).symm⟩
          intro z
          have z1 := big_same.mpr (bt_iff.mp z) x (by omega)
          omega
  refine g_aload_n rfl rfl ?_
  refine g_iconst rfl ?_
  refine g_putI rfl ms.1 ?_
  refine g_hp (h2 := hw h (vset V o 31 0)) rfl ?_
  refine g_aload_n rfl rfl ?_
  refine g_iload_n rfl rfl ?_
  refine g_callVI [aI ((p : Int))] [] rfl rfl rfl rfl (Nat.le_of_ble_eq_true rfl) ms.1 (m_pIsP (by omega) ms ((vset V o 31 0)) (mp.own 0) ok ((p : Int))) ?_
  rintro r hx ⟨ehx, rfl⟩
  rw [ehx, if_pos (by omega)]
  clear ehx hx
  refine g_if_eq_f rfl (by omega) ?_
  refine g_aload_n rfl rfl ?_
  refine g_iload_n rfl rfl ?_
  refine g_callVI [aI ((q : Int))] [] rfl rfl rfl rfl (Nat.le_of_ble_eq_true rfl) ms.1 (m_pIsP (by omega) ms ((vset V o 31 0)) (mp.own 0) ok ((q : Int))) ?_
  rintro r hx ⟨ehx, rfl⟩
  rw [ehx, if_pos (by omega)]
  clear ehx hx
  refine g_if_ne_t rfl (by omega) ?_
  refine g_iconst rfl ?_
  refine g_istore_n (l1 := [(3, aI 0), (0, aO (some o)), (1, aI ((p : Int))), (2, aI ((q : Int)))]) rfl rfl ?_
  exact l25 _ 0 (by omega) (by exact fun y hy => by omega) (Nat.lt_succ_self _)
set_option maxRecDepth 100000 in
theorem m_same0 {w : aW} {d : Nat} (hd : 24 ≤ d) {h : aH} {o : Nat} (ms : MS h o) (V : Nat → Nat → Int) {S : aS} (mp : MP V o S) (ok : OkP S) (a b : Int) (hn : ¬((0 ≤ a ∧ a < sPn S) ∧ 0 ≤ b ∧ b < sPn S)) : WP w d 362 [aO (some o), aI a, aI b] (hw h V) (RI (fun r h1 => h1 = hw h (vset V o 31 0) ∧ r = -1)) := by
  obtain ⟨d, rfl⟩ : ∃ d1, d = d1 + 1 := ⟨d - 1, by omega⟩
  refine WP.enter (cd := cd_X12_same) rfl ?_
  have hok := ok.1
  have hls : largs 0 [aO (some o), aI a, aI b] = [(0, aO (some o)), (1, aI a), (2, aI b)] := rfl
  rw [hls]
  clear hls
  refine g_aload_n rfl rfl ?_
  refine g_iconst rfl ?_
  refine g_putI rfl ms.1 ?_
  refine g_hp (h2 := hw h (vset V o 31 0)) rfl ?_
  refine g_aload_n rfl rfl ?_
  refine g_iload_n rfl rfl ?_
  refine g_callVI [aI a] [] rfl rfl rfl rfl (Nat.le_of_ble_eq_true rfl) ms.1 (m_pIsP (by omega) ms ((vset V o 31 0)) (mp.own 0) ok a) ?_
  rintro r hx ⟨ehx, rfl⟩
  rw [ehx]
  clear ehx hx
  refine g_b_eq rfl (fun cq10 => ?_) (fun cq10 => ?_)
  · skip
    refine g_iconst rfl ?_
    refine g_iret rfl ?_
    exact ⟨rfl, rfl⟩
  · skip
    refine g_aload_n rfl rfl ?_
    refine g_iload_n rfl rfl ?_
    refine g_callVI [aI b] [] rfl rfl rfl rfl (Nat.le_of_ble_eq_true rfl) ms.1 (m_pIsP (by omega) ms ((vset V o 31 0)) (mp.own 0) ok b) ?_
    rintro r hx ⟨ehx, rfl⟩
    rw [ehx]
    clear ehx hx
    refine g_if_ne_f rfl (by exact if_neg (by omega)) ?_
    refine g_iconst rfl ?_
    refine g_iret rfl ?_
    exact ⟨rfl, rfl⟩
theorem m_same {w : aW} {d : Nat} (hd : 24 ≤ d) {h : aH} {o : Nat} (ms : MS h o) (V : Nat → Nat → Int) {S : aS} (mp : MP V o S) (ok : OkP S) (a b : Int) : WP w d 362 [aO (some o), aI a, aI b] (hw h V) (RI (fun r h1 => h1 = hw h (vset V o 31 0) ∧ r = sameF S a b)) := by
  by_cases z : (0 ≤ a ∧ a < sPn S) ∧ 0 ≤ b ∧ b < sPn S
  · obtain ⟨p, rfl⟩ : ∃ p : Nat, a = p := ⟨a.toNat, by omega⟩
    obtain ⟨q, rfl⟩ : ∃ q : Nat, b = q := ⟨b.toNat, by omega⟩
    have eF : sameF S p q = if bt (∀ t < 286, sPc S p t = sPc S q t) = true then 1 else 0 := if_neg (fun y => y z)
    rw [eF]
    exact m_same1 hd ms V mp ok p (by omega) q (by omega)
  · have eF : sameF S a b = -1 := if_pos z
    rw [eF]
    exact m_same0 hd ms V mp ok a b z
