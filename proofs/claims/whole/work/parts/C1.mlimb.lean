/-! the reference's whole numbers: registers: printed by wip/whole/c1.py -/
/-- a register's cells -/
abbrev mr (V : Nat → Nat → Int) (o a : Nat) : Nat → Int := fun k => V (o + 1) (a + k)
/-- only register r is written -/
def MF (V V1 : Nat → Nat → Int) (o r : Nat) : Prop := (∀ q, q ≠ o + 1 → V1 q = V q) ∧ ∀ x, (x < r ∨ r + 18 ≤ x) → V1 (o + 1) x = V (o + 1) x
/-- a register holds a size, and a sign beside it -/
def RC (V : Nat → Nat → Int) (o r : Nat) (u s : Int) : Prop := CN (mr V o r) u ∧ V (o + 1) (r + 16) = if u = 0 then 0 else s
theorem MF.refl (V : Nat → Nat → Int) (o r : Nat) : MF V V o r := ⟨fun _ _ => rfl, fun _ _ => rfl⟩
theorem MF.trans {V V1 V2 : Nat → Nat → Int} {o r : Nat} (a : MF V V1 o r) (b : MF V1 V2 o r) : MF V V2 o r := ⟨fun q hq => by rw [b.1 q hq, a.1 q hq], fun x hx => by rw [b.2 x hx, a.2 x hx]⟩
theorem MF.set {V : Nat → Nat → Int} {o r x : Nat} (v : Int) (hx : r ≤ x ∧ x < r + 18) : MF V (vset V (o + 1) x v) o r := ⟨fun q hq => by funext j; rw [vset_ne _ _ _ _ (by omega)], fun y hy => by rw [vset_ne _ _ _ _ (by omega)]⟩
theorem MF.row {V V1 : Nat → Nat → Int} {o r a : Nat} (m : MF V V1 o r) (h : a + 18 ≤ r ∨ r + 18 ≤ a) : ∀ k < 18, mr V1 o a k = mr V o a k := fun k hk => m.2 _ (by omega)
theorem ML.congr {f g : Nat → Int} (h : ML f) (e : ∀ k < 18, g k = f k) : ML g := fun k hk => by rw [e k (by omega)]; exact h k hk
theorem CN.congr {f g : Nat → Int} {u : Int} (h : CN f u) (e : ∀ k < 18, g k = f k) : CN g u := by
  obtain ⟨h1, h2, n, h3, h4, h5, h6⟩ := h
  refine ⟨h1.congr e, by rw [mv_congr (fun j hj => e j (by omega))]; exact h2, n, h3, by rw [e 17 (by omega)]; exact h4, fun k q1 q2 => by rw [e k (by omega)]; exact h5 k q1 q2, ?_⟩
  rcases h6 with q | q
  · exact Or.inl q
  · exact Or.inr (by rw [e _ (by omega)]; exact q)
theorem RW.congr {f g : Nat → Int} {u : Int} (h : RW f u) (e : ∀ k < 18, g k = f k) : RW g u := ⟨h.1.congr e, by rw [e 16 (by omega)]; exact h.2⟩
theorem iand_24 (x : Int) : iand x 16777215 = x % 16777216 := iand_mask x (k := 24) (by omega)
theorem land_24 (x : Int) : land x 16777215 = x % 16777216 := land_mask x (k := 24) (by omega)
theorem ishr_24 (x : Int) : ishr x 24 = x / 16777216 := rfl
theorem lshr_24 (x : Int) : lshr x 24 = x / 16777216 := lshr_nat x (y := 24) (by omega)
theorem m_trim {w : aW} {d : Nat} (hd : 1 ≤ d) {h : aH} {o : Nat} (ms : MS h o) (V : Nat → Nat → Int) (r : Nat) (hr : r + 18 ≤ 12600) (s u : Int) (ml : ML (mr V o r)) (hu : mv (mr V o r) 16 = u) : WP w d 247 [aO (some o), aI ((r : Int)), aI s] (hw h V) (RN (fun h1 => ∃ V1, h1 = hw h V1 ∧ MF V V1 o r ∧ RC V1 o r u s)) := by
  obtain ⟨d, rfl⟩ : ∃ d1, d = d1 + 1 := ⟨d - 1, by omega⟩
  refine WP.enter (cd := cd_X12_trim) rfl ?_
  have hls : largs 0 [aO (some o), aI ((r : Int)), aI s] = [(0, aO (some o)), (1, aI ((r : Int))), (2, aI s)] := rfl
  rw [hls]
  clear hls
  have j26 : ∀ (n : Nat), (n ≤ 16) → (∀ k, n ≤ k → k < 16 → V (o + 1) (r + k) = 0) → (n = 0 ∨ V (o + 1) (r + (n - 1)) ≠ 0) → Wk w d cd_X12_trim 26 [(3, aI ((n : Int))), (0, aO (some o)), (1, aI ((r : Int))), (2, aI s)] [] (hw h V) (RN (fun h1 => ∃ V1, h1 = hw h V1 ∧ MF V V1 o r ∧ RC V1 o r u s)) := by
    intro n hn hz ht
    refine g_aload_n rfl rfl ?_
    refine g_getR rfl ms.1 (mr_limb ms) ?_
    refine g_iload_n rfl rfl ?_
    refine g_bipush rfl ?_
    refine g_iadd rfl (by omega) (by omega) ?_
    refine g_iload_n rfl rfl ?_
    refine g_iast (i := r + 17) rfl (mt_limb ms) (by omega) (by omega) ?_
    refine g_hp (h2 := hw h (vset V (o + 1) (r + 17) ((n : Int)))) rfl ?_
    refine g_aload_n rfl rfl ?_
    refine g_getR rfl ms.1 (mr_limb ms) ?_
    refine g_iload_n rfl rfl ?_
    refine g_bipush rfl ?_
    refine g_iadd rfl (by omega) (by omega) ?_
    refine g_iload_n rfl rfl ?_
    refine g_if_ne rfl (fun c45 => ?_) (fun c45 => ?_)
    · skip
      refine g_iload_n rfl rfl ?_
      refine g_iast (i := r + 16) rfl (mt_limb ms) (by omega) (by omega) ?_
      refine g_hp (h2 := hw h (vset (vset V (o + 1) (r + 17) ((n : Int))) (o + 1) (r + 16) s)) rfl ?_
      refine g_vret rfl ?_
      have hu0 : u = 0 ↔ n = 0 := ⟨fun e => by
          rcases ht with q | q
          · exact q
          · refine Classical.byContradiction fun q2 => ?_
            have := mv_nz ml (show n - 1 < 16 by omega) q
            have := mp_pos (n - 1)
            omega, fun e => by rw [← hu]; exact mv_zero fun j hj => hz j (by omega) hj⟩
      refine ⟨_, rfl, (MF.set _ (by omega)).trans (MF.set _ (by omega)), ⟨fun k hk => ?_, ?_, n, hn, ?_, fun k h1 h2 => ?_, ?_⟩, ?_⟩
      · show 0 ≤ vset _ _ _ _ _ _ ∧ vset _ _ _ _ _ _ < _
        rw [vset_ne _ _ _ _ (by omega), vset_ne _ _ _ _ (by omega)]
        exact ml k hk
      · rw [← hu]
        refine mv_congr fun j hj => ?_
        show vset _ _ _ _ _ _ = _
        rw [vset_ne _ _ _ _ (by omega), vset_ne _ _ _ _ (by omega)]
      · show vset _ _ _ _ _ _ = _
        rw [vset_ne _ _ _ _ (by omega), vset_eq]
      · show vset _ _ _ _ _ _ = _
        rw [vset_ne _ _ _ _ (by omega), vset_ne _ _ _ _ (by omega)]
        exact hz k h1 h2
      · rcases ht with q | q
        · exact Or.inl q
        · refine Or.inr ?_
          show vset _ _ _ _ _ _ ≠ _
          rw [vset_ne _ _ _ _ (by omega), vset_ne _ _ _ _ (by omega)]
          exact q
      · rw [vset_eq]
        first
          | rw [if_pos (hu0.mpr (by omega))]
          | rw [if_neg (fun e => by have := hu0.mp e; omega)]
    · skip
      refine g_iconst rfl ?_
      refine g_goto rfl ?_
      refine g_iast (i := r + 16) rfl (mt_limb ms) (by omega) (by omega) ?_
      refine g_hp (h2 := hw h (vset (vset V (o + 1) (r + 17) ((n : Int))) (o + 1) (r + 16) 0)) rfl ?_
      refine g_vret rfl ?_
      have hu0 : u = 0 ↔ n = 0 := ⟨fun e => by
          rcases ht with q | q
          · exact q
          · refine Classical.byContradiction fun q2 => ?_
            have := mv_nz ml (show n - 1 < 16 by omega) q
            have := mp_pos (n - 1)
            omega, fun e => by rw [← hu]; exact mv_zero fun j hj => hz j (by omega) hj⟩
      refine ⟨_, rfl, (MF.set _ (by omega)).trans (MF.set _ (by omega)), ⟨fun k hk => ?_, ?_, n, hn, ?_, fun k h1 h2 => ?_, ?_⟩, ?_⟩
      · show 0 ≤ vset _ _ _ _ _ _ ∧ vset _ _ _ _ _ _ < _
        rw [vset_ne _ _ _ _ (by omega), vset_ne _ _ _ _ (by omega)]
        exact ml k hk
      · rw [← hu]
        refine mv_congr fun j hj => ?_
        show vset _ _ _ _ _ _ = _
        rw [vset_ne _ _ _ _ (by omega), vset_ne _ _ _ _ (by omega)]
      · show vset _ _ _ _ _ _ = _
        rw [vset_ne _ _ _ _ (by omega), vset_eq]
      · show vset _ _ _ _ _ _ = _
        rw [vset_ne _ _ _ _ (by omega), vset_ne _ _ _ _ (by omega)]
        exact hz k h1 h2
      · rcases ht with q | q
        · exact Or.inl q
        · refine Or.inr ?_
          show vset _ _ _ _ _ _ ≠ _
          rw [vset_ne _ _ _ _ (by omega), vset_ne _ _ _ _ (by omega)]
          exact q
      · rw [vset_eq]
        first
          | rw [if_pos (hu0.mpr (by omega))]
          | rw [if_neg (fun e => by have := hu0.mp e; omega)]
  have l3 : ∀ (fuel : Nat) (n : Nat), (n ≤ 16) → (∀ k, n ≤ k → k < 16 → V (o + 1) (r + k) = 0) → n < fuel → Wk w d cd_X12_trim 3 [(3, aI ((n : Int))), (0, aO (some o)), (1, aI ((r : Int))), (2, aI s)] [] (hw h V) (RN (fun h1 => ∃ V1, h1 = hw h V1 ∧ MF V V1 o r ∧ RC V1 o r u s)) := by
    intro fuel
    induction fuel with
    | zero => intros; omega
    | succ fuel ih3 =>
      intro n hn hz hfuel
      refine g_iload_n rfl rfl ?_
      refine g_if_le rfl (fun c4 => ?_) (fun c4 => ?_)
      · skip
        exact j26 n (by omega) (by exact hz) (by omega)
      · skip
        refine g_aload_n rfl rfl ?_
        refine g_getR rfl ms.1 (mr_limb ms) ?_
        refine g_iload_n rfl rfl ?_
        refine g_iload_n rfl rfl ?_
        refine g_iadd rfl (by omega) (by omega) ?_
        refine g_iconst rfl ?_
        refine g_isub rfl (by omega) (by omega) ?_
        refine g_iald (i := (r + (n - 1))) rfl (mt_limb ms) (by omega) (by omega) ?_
        refine g_top (v2 := aI (V (o + 1) (r + (n - 1)))) (congrArg aI (by rfl)) ?_
        refine g_if_ne rfl (fun c17 => ?_) (fun c17 => ?_)
        · skip
          exact j26 n (by omega) (by exact hz) (by exact Or.inr c17)
        · skip
          refine g_iinc (l1 := [(3, aI ((n : Int) + (-1))), (0, aO (some o)), (1, aI ((r : Int))), (2, aI s)]) rfl rfl (by omega) (by omega) rfl ?_
          rw [show ((n : Int) + (-1) : Int) = ((n - 1 : Nat) : Int) by omega]
          refine g_goto rfl ?_
          exact ih3 (n - 1) (by omega) (by intro k h1 h2; by_cases e : k = n - 1; (rw [e]; exact c17); (exact hz k (by omega) h2)) (by omega)
  refine g_bipush rfl ?_
  refine g_istore_n (l1 := [(3, aI 16), (0, aO (some o)), (1, aI ((r : Int))), (2, aI s)]) rfl rfl ?_
  exact l3 _ 16 (by omega) (by intro k h1 h2; omega) (Nat.lt_succ_self _)
theorem mv_set1 (V : Nat → Nat → Int) (o r i : Nat) (v : Int) : mv (mr (vset V (o + 1) (r + i) v) o r) (i + 1) = mv (mr V o r) i + v * 16777216 ^ i := by
  rw [mv_succ]
  show mv (fun k => vset V (o + 1) (r + i) v (o + 1) (r + k)) i + vset V (o + 1) (r + i) v (o + 1) (r + i) * _ = _
  rw [vset_eq, mv_congr (f := fun k => vset V (o + 1) (r + i) v (o + 1) (r + k)) (g := mr V o r) (fun j hj => vset_ne _ _ _ _ (by omega))]
theorem adds_step {V V1 : Nat → Nat → Int} {o a b r i : Nat} {k : Int} (hu : mv (mr V1 o r) i + k * 16777216 ^ i = mv (mr V o a) i + mv (mr V o b) i) : mv (mr (vset V1 (o + 1) (r + i) ((V (o + 1) (a + i) + V (o + 1) (b + i) + k) % 16777216)) o r) (i + 1) + (V (o + 1) (a + i) + V (o + 1) (b + i) + k) / 16777216 * 16777216 ^ (i + 1) = mv (mr V o a) (i + 1) + mv (mr V o b) (i + 1) := by
  rw [mv_set1, mv_succ, mv_succ, mp_succ]
  have hd := mdig (V (o + 1) (a + i) + V (o + 1) (b + i) + k) (16777216 ^ i)
  have hd2 : (V (o + 1) (a + i) + V (o + 1) (b + i) + k) * 16777216 ^ i = mr V o a i * 16777216 ^ i + mr V o b i * 16777216 ^ i + k * 16777216 ^ i := by rw [Int.add_mul, Int.add_mul]
  omega
theorem takes_step {V V1 : Nat → Nat → Int} {o a b r i : Nat} {k k2 : Int} (h2 : k2 * 16777216 = ((V (o + 1) (a + i) - V (o + 1) (b + i) - k) % 16777216) - (V (o + 1) (a + i) - V (o + 1) (b + i) - k)) (hu : mv (mr V1 o r) i - k * 16777216 ^ i = mv (mr V o a) i - mv (mr V o b) i) : mv (mr (vset V1 (o + 1) (r + i) ((V (o + 1) (a + i) - V (o + 1) (b + i) - k) % 16777216)) o r) (i + 1) - k2 * 16777216 ^ (i + 1) = mv (mr V o a) (i + 1) - mv (mr V o b) (i + 1) := by
  rw [mv_set1, mv_succ, mv_succ, mp_succ]
  have h3 : k2 * (16777216 ^ i * 16777216) = k2 * 16777216 * 16777216 ^ i := by rw [Int.mul_comm (16777216 ^ i) 16777216, Int.mul_assoc]
  rw [h3, h2, Int.sub_mul, Int.sub_mul, Int.sub_mul]
  show _ = mv (mr V o a) i + V (o + 1) (a + i) * _ - (mv (mr V o b) i + V (o + 1) (b + i) * _)
  omega
theorem m_addSizes {w : aW} {d : Nat} (hd : 2 ≤ d) {h : aH} {o : Nat} (ms : MS h o) (V : Nat → Nat → Int) (a : Nat) (b : Nat) (r : Nat) (ha : a + 18 ≤ 12600) (hb : b + 18 ≤ 12600) (hr : r + 18 ≤ 12600) (ma : ML (mr V o a)) (mb : ML (mr V o b)) (hra : r + 18 ≤ a ∨ a + 18 ≤ r) (hrb : r + 18 ≤ b ∨ b + 18 ≤ r) (s : Int) (hs : mv (mr V o a) 16 + mv (mr V o b) 16 < 16777216 ^ 16) : WP w d 248 [aO (some o), aI ((a : Int)), aI ((b : Int)), aI ((r : Int)), aI s] (hw h V) (RN (fun h1 => ∃ V1, h1 = hw h V1 ∧ MF V V1 o r ∧ RC V1 o r (mv (mr V o a) 16 + mv (mr V o b) 16) s)) := by
  obtain ⟨d, rfl⟩ : ∃ d1, d = d1 + 1 := ⟨d - 1, by omega⟩
  refine WP.enter (cd := cd_X12_addSizes) rfl ?_
  have hls : largs 0 [aO (some o), aI ((a : Int)), aI ((b : Int)), aI ((r : Int)), aI s] = [(0, aO (some o)), (1, aI ((a : Int))), (2, aI ((b : Int))), (3, aI ((r : Int))), (4, aI s)] := rfl
  rw [hls]
  clear hls
  have l6 : ∀ (fuel : Nat) (i : Nat) (k : Int) (V1 : Nat → Nat → Int), (i ≤ 16) → (k = 0 ∨ k = 1) → (∀ q, q ≠ o + 1 → V1 q = V q) → (∀ x, (x < r + 0 ∨ r + i ≤ x) → V1 (o + 1) x = V (o + 1) x) → (∀ j < i, 0 ≤ V1 (o + 1) (r + j) ∧ V1 (o + 1) (r + j) < 16777216) → (mv (mr V1 o r) i + k * 16777216 ^ i = mv (mr V o a) i + mv (mr V o b) i) → 16 - i < fuel → Wk w d cd_X12_addSizes 6 [(6, aI ((i : Int))), (5, aI k), (0, aO (some o)), (1, aI ((a : Int))), (2, aI ((b : Int))), (3, aI ((r : Int))), (4, aI s)] [] (hw h V1) (RN (fun h1 => ∃ V1, h1 = hw h V1 ∧ MF V V1 o r ∧ RC V1 o r (mv (mr V o a) 16 + mv (mr V o b) 16) s)) := by
    intro fuel
    induction fuel with
    | zero => intros; omega
    | succ fuel ih6 =>
      intro i k V1 hi hk hf hx hl hu hfuel
      have ha0 := fun q => ma i q
      have hb0 := fun q => mb i q
      change i < 16 → 0 ≤ V (o + 1) (a + i) ∧ V (o + 1) (a + i) < 16777216 at ha0
      change i < 16 → 0 ≤ V (o + 1) (b + i) ∧ V (o + 1) (b + i) < 16777216 at hb0
      refine g_iload rfl rfl ?_
      refine g_bipush rfl ?_
      refine g_icmp_ge rfl (fun c10 => ?_) (fun c10 => ?_)
      · skip
        have e16 : i = 16 := by omega
        rw [e16] at hu hl
        have hlb := (mv_b (f := mr V1 o r) hl)
        have k0 : k = 0 := by
          rcases hk with q | q
          · exact q
          · rw [q] at hu
            omega
        rw [k0, Int.zero_mul, Int.add_zero] at hu
        refine g_aload_n rfl rfl ?_
        refine g_iload_n rfl rfl ?_
        refine g_iload rfl rfl ?_
        refine g_callVN [aI ((r : Int)), aI s] [] rfl rfl rfl rfl (Nat.le_of_ble_eq_true rfl) ms.1 (m_trim (by omega) ms V1 r hr s _ (fun j hj => hl j hj) hu) ?_
        rintro _ ⟨W1, rfl, mf1, rc1⟩
        refine g_vret rfl ?_
        exact ⟨W1, rfl, MF.trans ⟨hf, fun x hx1 => hx x (by omega)⟩ mf1, rc1⟩
      · skip
        refine g_aload_n rfl rfl ?_
        refine g_getR rfl ms.1 (mr_limb ms) ?_
        refine g_iload_n rfl rfl ?_
        refine g_iload rfl rfl ?_
        refine g_iadd rfl (by omega) (by omega) ?_
        refine g_iald (i := a + i) rfl (mt_limb ms) (by omega) (by omega) ?_
        refine g_top (v2 := aI (V1 (o + 1) (a + i))) (congrArg aI (by rfl)) ?_
        refine g_top (v2 := aI (V (o + 1) (a + i))) (congrArg aI (by exact hx _ (by omega))) ?_
        refine g_aload_n rfl rfl ?_
        refine g_getR rfl ms.1 (mr_limb ms) ?_
        refine g_iload_n rfl rfl ?_
        refine g_iload rfl rfl ?_
        refine g_iadd rfl (by omega) (by omega) ?_
        refine g_iald (i := b + i) rfl (mt_limb ms) (by omega) (by omega) ?_
        refine g_top (v2 := aI (V1 (o + 1) (b + i))) (congrArg aI (by rfl)) ?_
        have ha1 := ha0 (by omega)
        have hb1 := hb0 (by omega)
        refine g_top (v2 := aI (V (o + 1) (b + i))) (congrArg aI (by exact hx _ (by omega))) ?_
        refine g_iadd rfl (by omega) (by omega) ?_
        refine g_iload rfl rfl ?_
        refine g_iadd rfl (by omega) (by omega) ?_
        refine g_istore (l1 := [(7, aI (((V (o + 1) (a + i)) + (V (o + 1) (b + i))) + k)), (6, aI ((i : Int))), (5, aI k), (0, aO (some o)), (1, aI ((a : Int))), (2, aI ((b : Int))), (3, aI ((r : Int))), (4, aI s)]) rfl rfl ?_
        refine g_aload_n rfl rfl ?_
        refine g_getR rfl ms.1 (mr_limb ms) ?_
        refine g_iload_n rfl rfl ?_
        refine g_iload rfl rfl ?_
        refine g_iadd rfl (by omega) (by omega) ?_
        refine g_iload rfl rfl ?_
        refine g_ldcI rfl rfl ?_
        refine g_iand rfl ?_
        refine g_top (v2 := aI ((V (o + 1) (a + i) + V (o + 1) (b + i) + k) % 16777216)) (congrArg aI (by exact iand_24 _)) ?_
        refine g_iast (i := r + i) rfl (mt_limb ms) (by omega) (by omega) ?_
        refine g_hp (h2 := hw h (vset V1 (o + 1) (r + i) ((V (o + 1) (a + i) + V (o + 1) (b + i) + k) % 16777216))) rfl ?_
        refine g_iload rfl rfl ?_
        refine g_bipush rfl ?_
        refine g_ishr rfl ?_
        refine g_top (v2 := aI ((V (o + 1) (a + i) + V (o + 1) (b + i) + k) / 16777216)) (congrArg aI (by exact ishr_24 _)) ?_
        refine g_istore (l1 := [(5, aI ((V (o + 1) (a + i) + V (o + 1) (b + i) + k) / 16777216)), (7, aI (((V (o + 1) (a + i)) + (V (o + 1) (b + i))) + k)), (6, aI ((i : Int))), (0, aO (some o)), (1, aI ((a : Int))), (2, aI ((b : Int))), (3, aI ((r : Int))), (4, aI s)]) rfl rfl ?_
        refine g_iinc (l1 := [(6, aI ((i : Int) + 1)), (5, aI ((V (o + 1) (a + i) + V (o + 1) (b + i) + k) / 16777216)), (7, aI (((V (o + 1) (a + i)) + (V (o + 1) (b + i))) + k)), (0, aO (some o)), (1, aI ((a : Int))), (2, aI ((b : Int))), (3, aI ((r : Int))), (4, aI s)]) rfl rfl (by omega) (by omega) rfl ?_
        refine g_goto rfl ?_
        refine g_ls [0, 1, 3, 4, 5, 6, 7] rfl rfl ?_
        exact ih6 (i + 1) ((V (o + 1) (a + i) + V (o + 1) (b + i) + k) / 16777216) _ (by omega) (by omega) (by intro q hq; funext j; rw [vset_ne _ _ _ _ (by omega), hf q hq]) (by intro x hx1; rw [vset_ne _ _ _ _ (by omega)]; exact hx x (by omega)) (by intro j hj; by_cases e : j = i; (rw [e, vset_eq]; omega); (rw [vset_ne _ _ _ _ (by omega)]; exact hl j (by omega))) (by exact adds_step hu) (by omega)
  refine g_iconst rfl ?_
  refine g_istore (l1 := [(5, aI 0), (0, aO (some o)), (1, aI ((a : Int))), (2, aI ((b : Int))), (3, aI ((r : Int))), (4, aI s)]) rfl rfl ?_
  refine g_iconst rfl ?_
  refine g_istore (l1 := [(6, aI 0), (5, aI 0), (0, aO (some o)), (1, aI ((a : Int))), (2, aI ((b : Int))), (3, aI ((r : Int))), (4, aI s)]) rfl rfl ?_
  exact l6 _ 0 0 V (by omega) (by exact Or.inl rfl) (by intro q _; rfl) (by intro x _; rfl) (by intro j hj; omega) (by rfl) (Nat.lt_succ_self _)
theorem m_takeSizes {w : aW} {d : Nat} (hd : 2 ≤ d) {h : aH} {o : Nat} (ms : MS h o) (V : Nat → Nat → Int) (a : Nat) (b : Nat) (r : Nat) (ha : a + 18 ≤ 12600) (hb : b + 18 ≤ 12600) (hr : r + 18 ≤ 12600) (ma : ML (mr V o a)) (mb : ML (mr V o b)) (hra : r + 18 ≤ a ∨ a + 18 ≤ r ∨ r = a) (hrb : r + 18 ≤ b ∨ b + 18 ≤ r) (s : Int) (hs : mv (mr V o b) 16 ≤ mv (mr V o a) 16) : WP w d 249 [aO (some o), aI ((a : Int)), aI ((b : Int)), aI ((r : Int)), aI s] (hw h V) (RN (fun h1 => ∃ V1, h1 = hw h V1 ∧ MF V V1 o r ∧ RC V1 o r (mv (mr V o a) 16 - mv (mr V o b) 16) s)) := by
  obtain ⟨d, rfl⟩ : ∃ d1, d = d1 + 1 := ⟨d - 1, by omega⟩
  refine WP.enter (cd := cd_X12_takeSizes) rfl ?_
  have hls : largs 0 [aO (some o), aI ((a : Int)), aI ((b : Int)), aI ((r : Int)), aI s] = [(0, aO (some o)), (1, aI ((a : Int))), (2, aI ((b : Int))), (3, aI ((r : Int))), (4, aI s)] := rfl
  rw [hls]
  clear hls
  have l6 : ∀ (fuel : Nat) (i : Nat) (k : Int) (V1 : Nat → Nat → Int), (i ≤ 16) → (k = 0 ∨ k = 1) → (∀ q, q ≠ o + 1 → V1 q = V q) → (∀ x, (x < r + 0 ∨ r + i ≤ x) → V1 (o + 1) x = V (o + 1) x) → (∀ j < i, 0 ≤ V1 (o + 1) (r + j) ∧ V1 (o + 1) (r + j) < 16777216) → (mv (mr V1 o r) i - k * 16777216 ^ i = mv (mr V o a) i - mv (mr V o b) i) → 16 - i < fuel → Wk w d cd_X12_takeSizes 6 [(6, aI ((i : Int))), (5, aI k), (0, aO (some o)), (1, aI ((a : Int))), (2, aI ((b : Int))), (3, aI ((r : Int))), (4, aI s)] [] (hw h V1) (RN (fun h1 => ∃ V1, h1 = hw h V1 ∧ MF V V1 o r ∧ RC V1 o r (mv (mr V o a) 16 - mv (mr V o b) 16) s)) := by
    intro fuel
    induction fuel with
    | zero => intros; omega
    | succ fuel ih6 =>
      intro i k V1 hi hk hf hx hl hu hfuel
      have ha0 := fun q => ma i q
      have hb0 := fun q => mb i q
      change i < 16 → 0 ≤ V (o + 1) (a + i) ∧ V (o + 1) (a + i) < 16777216 at ha0
      change i < 16 → 0 ≤ V (o + 1) (b + i) ∧ V (o + 1) (b + i) < 16777216 at hb0
      have j47 : ∀ (k2 : Int), (k2 = 0 ∨ k2 = 1) → (i < 16) → (k2 * 16777216 = ((V (o + 1) (a + i) - V (o + 1) (b + i) - k) % 16777216) - (V (o + 1) (a + i) - V (o + 1) (b + i) - k)) → (-16777216 ≤ V (o + 1) (a + i) - V (o + 1) (b + i) - k ∧ V (o + 1) (a + i) - V (o + 1) (b + i) - k < 16777216) → Wk w d cd_X12_takeSizes 47 [(7, aI (V (o + 1) (a + i) - V (o + 1) (b + i) - k)), (6, aI ((i : Int))), (0, aO (some o)), (1, aI ((a : Int))), (2, aI ((b : Int))), (3, aI ((r : Int))), (4, aI s)] [aI k2] (hw h V1) (RN (fun h1 => ∃ V1, h1 = hw h V1 ∧ MF V V1 o r ∧ RC V1 o r (mv (mr V o a) 16 - mv (mr V o b) 16) s)) := by
        intro k2 hk2 hi16 hk22 hrng
        refine g_istore (l1 := [(5, aI k2), (7, aI (V (o + 1) (a + i) - V (o + 1) (b + i) - k)), (6, aI ((i : Int))), (0, aO (some o)), (1, aI ((a : Int))), (2, aI ((b : Int))), (3, aI ((r : Int))), (4, aI s)]) rfl rfl ?_
        refine g_aload_n rfl rfl ?_
        refine g_getR rfl ms.1 (mr_limb ms) ?_
        refine g_iload_n rfl rfl ?_
        refine g_iload rfl rfl ?_
        refine g_iadd rfl (by omega) (by omega) ?_
        refine g_iload rfl rfl ?_
        refine g_ldcI rfl rfl ?_
        refine g_iand rfl ?_
        refine g_top (v2 := aI ((V (o + 1) (a + i) - V (o + 1) (b + i) - k) % 16777216)) (congrArg aI (by exact iand_24 _)) ?_
        refine g_iast (i := r + i) rfl (mt_limb ms) (by omega) (by omega) ?_
        refine g_hp (h2 := hw h (vset V1 (o + 1) (r + i) ((V (o + 1) (a + i) - V (o + 1) (b + i) - k) % 16777216))) rfl ?_
        refine g_iinc (l1 := [(6, aI ((i : Int) + 1)), (5, aI k2), (7, aI (V (o + 1) (a + i) - V (o + 1) (b + i) - k)), (0, aO (some o)), (1, aI ((a : Int))), (2, aI ((b : Int))), (3, aI ((r : Int))), (4, aI s)]) rfl rfl (by omega) (by omega) rfl ?_
        refine g_goto rfl ?_
        refine g_ls [0, 1, 3, 4, 5, 6, 7] rfl rfl ?_
        exact ih6 (i + 1) k2 _ (by omega) (by exact hk2) (by intro q hq; funext j; rw [vset_ne _ _ _ _ (by omega), hf q hq]) (by intro x hx1; rw [vset_ne _ _ _ _ (by omega)]; exact hx x (by omega)) (by intro j hj; by_cases e : j = i; (rw [e, vset_eq]; omega); (rw [vset_ne _ _ _ _ (by omega)]; exact hl j (by omega))) (by exact takes_step hk22 hu) (by omega)
      refine g_iload rfl rfl ?_
      refine g_bipush rfl ?_
      refine g_icmp_ge rfl (fun c10 => ?_) (fun c10 => ?_)
      · skip
        have e16 : i = 16 := by omega
        rw [e16] at hu hl
        have hlb := (mv_b (f := mr V1 o r) hl)
        have k0 : k = 0 := by
          rcases hk with q | q
          · exact q
          · rw [q] at hu
            omega
        rw [k0, Int.zero_mul, Int.sub_zero] at hu
        refine g_aload_n rfl rfl ?_
        refine g_iload_n rfl rfl ?_
        refine g_iload rfl rfl ?_
        refine g_callVN [aI ((r : Int)), aI s] [] rfl rfl rfl rfl (Nat.le_of_ble_eq_true rfl) ms.1 (m_trim (by omega) ms V1 r hr s _ (fun j hj => hl j hj) hu) ?_
        rintro _ ⟨W1, rfl, mf1, rc1⟩
        refine g_vret rfl ?_
        exact ⟨W1, rfl, MF.trans ⟨hf, fun x hx1 => hx x (by omega)⟩ mf1, rc1⟩
      · skip
        refine g_aload_n rfl rfl ?_
        refine g_getR rfl ms.1 (mr_limb ms) ?_
        refine g_iload_n rfl rfl ?_
        refine g_iload rfl rfl ?_
        refine g_iadd rfl (by omega) (by omega) ?_
        refine g_iald (i := a + i) rfl (mt_limb ms) (by omega) (by omega) ?_
        refine g_top (v2 := aI (V1 (o + 1) (a + i))) (congrArg aI (by rfl)) ?_
        refine g_top (v2 := aI (V (o + 1) (a + i))) (congrArg aI (by exact hx _ (by omega))) ?_
        refine g_aload_n rfl rfl ?_
        refine g_getR rfl ms.1 (mr_limb ms) ?_
        refine g_iload_n rfl rfl ?_
        refine g_iload rfl rfl ?_
        refine g_iadd rfl (by omega) (by omega) ?_
        refine g_iald (i := b + i) rfl (mt_limb ms) (by omega) (by omega) ?_
        refine g_top (v2 := aI (V1 (o + 1) (b + i))) (congrArg aI (by rfl)) ?_
        have ha1 := ha0 (by omega)
        have hb1 := hb0 (by omega)
        refine g_top (v2 := aI (V (o + 1) (b + i))) (congrArg aI (by exact hx _ (by omega))) ?_
        refine g_isub rfl (by omega) (by omega) ?_
        refine g_iload rfl rfl ?_
        refine g_isub rfl (by omega) (by omega) ?_
        refine g_istore (l1 := [(7, aI (((V (o + 1) (a + i)) - (V (o + 1) (b + i))) - k)), (6, aI ((i : Int))), (5, aI k), (0, aO (some o)), (1, aI ((a : Int))), (2, aI ((b : Int))), (3, aI ((r : Int))), (4, aI s)]) rfl rfl ?_
        refine g_iload rfl rfl ?_
        refine g_if_ge rfl (fun c39 => ?_) (fun c39 => ?_)
        · skip
          refine g_iconst rfl ?_
          refine g_ls [0, 1, 3, 4, 5, 6, 7] rfl rfl ?_
          exact j47 0 (by omega) (by omega) (by omega) (by omega)
        · skip
          refine g_iconst rfl ?_
          refine g_goto rfl ?_
          refine g_ls [0, 1, 3, 4, 5, 6, 7] rfl rfl ?_
          exact j47 1 (by omega) (by omega) (by omega) (by omega)
  refine g_iconst rfl ?_
  refine g_istore (l1 := [(5, aI 0), (0, aO (some o)), (1, aI ((a : Int))), (2, aI ((b : Int))), (3, aI ((r : Int))), (4, aI s)]) rfl rfl ?_
  refine g_iconst rfl ?_
  refine g_istore (l1 := [(6, aI 0), (5, aI 0), (0, aO (some o)), (1, aI ((a : Int))), (2, aI ((b : Int))), (3, aI ((r : Int))), (4, aI s)]) rfl rfl ?_
  exact l6 _ 0 0 V (by omega) (by exact Or.inl rfl) (by intro q _; rfl) (by intro x _; rfl) (by intro j hj; omega) (by rfl) (Nat.lt_succ_self _)
