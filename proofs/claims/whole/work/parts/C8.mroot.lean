/-! the reference's whole numbers, on: roots: printed by wip/whole/c8.py -/
theorem mv_mult {f : Nat → Int} (h : ML f) {k r : Nat} (hk : k < 16) (hr : r ≤ 24) (hd : (2 ^ r * 16777216 ^ k : Int) ∣ mv f 16) : ∃ a : Nat, f k = ((2 ^ r * a : Nat) : Int) := by
  obtain ⟨q, hq⟩ := hd
  have e := mv_split f k ((15 - k) + 1)
  rw [show k + ((15 - k) + 1) = 16 by omega, mv_cons (fun j => f (k + j)) (15 - k)] at e
  have e : mv f 16 = mv f k + (f k + 16777216 * mv (fun j => f (k + (j + 1))) (15 - k)) * 16777216 ^ k := e
  have hb := mv_b (fun j hj => h j (by omega) : ∀ j < k, 0 ≤ f j ∧ f j < 16777216)
  have hp := mp_pos k
  generalize mv (fun j => f (k + (j + 1))) (15 - k) = Y at *
  have hB : (16777216 : Int) = 2 ^ r * 2 ^ (24 - r) := by
    rw [← Int.pow_add, show r + (24 - r) = 24 by omega]
    decide
  have h2 : mv f k = 16777216 ^ k * (2 ^ r * q - (f k + 16777216 * Y)) := by
    rw [e] at hq
    generalize f k = Z at *
    generalize mv f k = N at *
    generalize (16777216 : Int) ^ k = P at *
    generalize (2 : Int) ^ r = R at *
    grind
  have h3 : 2 ^ r * q - (f k + 16777216 * Y) = 0 := by
    generalize 2 ^ r * q - (f k + 16777216 * Y) = y at h2
    rcases Int.lt_trichotomy y 0 with u | u | u
    · have := Int.mul_le_mul_of_nonneg_left (show y ≤ -1 by omega) (Int.le_of_lt hp)
      omega
    · exact u
    · have := Int.mul_le_mul_of_nonneg_left (show 1 ≤ y by omega) (Int.le_of_lt hp)
      omega
  have hd : ((2 ^ r : Nat) : Int) ∣ f k := by
    refine ⟨q - 2 ^ (24 - r) * Y, ?_⟩
    rw [Int.natCast_pow]
    show _ = ((2 : Int)) ^ r * _
    have h4 : (16777216 : Int) * Y = 2 ^ r * 2 ^ (24 - r) * Y := by rw [← hB]
    rw [h4] at h3
    generalize f k = Z at *
    generalize (2 : Int) ^ r = R at *
    generalize (2 : Int) ^ (24 - r) = T at *
    grind
  obtain ⟨a, ha⟩ := hd
  have h5 := (h k hk).1
  have h6 : (0 : Int) < ((2 ^ r : Nat) : Int) := by have := Nat.two_pow_pos r; omega
  have h7 : 0 ≤ a := by
    refine Int.not_lt.mp fun u => ?_
    have := Int.mul_le_mul_of_nonneg_left (show a ≤ -1 by omega) (Int.le_of_lt h6)
    omega
  refine ⟨a.toNat, ?_⟩
  rw [ha, Int.natCast_mul, Int.toNat_of_nonneg h7]
theorem set_mv {f g : Nat → Int} {n : Nat} (h : ML f) (hn : n < 384) (hd : (2 ^ (n + 1) : Int) ∣ mv f 16) (hg : ∀ m, m ≠ n / 24 → g m = f m) (hgk : g (n / 24) = ior (f (n / 24)) (ishl 1 ((n % 24 : Nat) : Int))) : mv g 16 = mv f 16 + 2 ^ n ∧ ML g := by
  have hs : (2 : Int) ^ n = 2 ^ (n % 24) * 16777216 ^ (n / 24) := by
    rw [show (16777216 : Int) = 2 ^ 24 by decide, ← Int.pow_mul, ← Int.pow_add]
    congr 1
    omega
  have hd2 : (2 ^ (n % 24 + 1) * 16777216 ^ (n / 24) : Int) ∣ mv f 16 := by
    rw [Int.pow_succ, hs] at hd
    rw [Int.pow_succ]
    have e : (2 : Int) ^ (n % 24) * 2 * 16777216 ^ (n / 24) = 2 ^ (n % 24) * 16777216 ^ (n / 24) * 2 := by grind
    rw [e]
    exact hd
  obtain ⟨a, ha⟩ := mv_mult h (show n / 24 < 16 by omega) (show n % 24 + 1 ≤ 24 by omega) hd2
  have hb := h (n / 24) (by omega)
  have hl := set_limb (x := f (n / 24)) (r := n % 24) (a := a) (by omega) (by rw [← ha]; exact Int.emod_eq_of_lt hb.1 (by omega))
  rw [hl] at hgk
  have hlt : 2 ^ (n % 24 + 1) * a + 2 ^ (n % 24) < 16777216 := by
    have h4 : (16777216 : Nat) = 2 ^ (n % 24 + 1) * 2 ^ (23 - n % 24) := by rw [← Nat.pow_add, show n % 24 + 1 + (23 - n % 24) = 24 by omega]
    have h5 : a < 2 ^ (23 - n % 24) := by
      refine Nat.lt_of_mul_lt_mul_left (a := 2 ^ (n % 24 + 1)) ?_
      omega
    have h6 := Nat.mul_le_mul_left (2 ^ (n % 24 + 1)) (show a + 1 ≤ 2 ^ (23 - n % 24) by omega)
    rw [Nat.mul_add, Nat.mul_one, Nat.pow_succ] at h6
    have h7 := Nat.two_pow_pos (n % 24)
    rw [Nat.pow_succ] at h4 ⊢
    omega
  have e9 : w32 ((2 ^ (n % 24 + 1) * a + 2 ^ (n % 24) : Nat) : Int) = ((2 ^ (n % 24 + 1) * a + 2 ^ (n % 24) : Nat) : Int) := by
    have h0 : (0 : Int) ≤ ((2 ^ (n % 24 + 1) * a + 2 ^ (n % 24) : Nat) : Int) := Int.natCast_nonneg _
    have h1 := Int.ofNat_lt.mpr hlt
    generalize ((2 ^ (n % 24 + 1) * a + 2 ^ (n % 24) : Nat) : Int) = Z at *
    unfold w32
    have h2 : ((16777216 : Nat) : Int) = 16777216 := rfl
    omega
  rw [e9] at hgk
  refine ⟨?_, fun k hk => ?_⟩
  · rw [mv_upd (show n / 24 < 16 by omega) hg, hgk, ha, hs, Int.natCast_add, Int.natCast_pow 2 (n % 24)]
    rw [show ((2 ^ (n % 24 + 1) * a : Nat) : Int) + ((2 : Nat) : Int) ^ (n % 24) - ((2 ^ (n % 24 + 1) * a : Nat) : Int) = 2 ^ (n % 24) by show _ + (2 : Int) ^ _ - _ = _; omega]
  · by_cases e : k = n / 24
    · rw [e, hgk]
      exact ⟨Int.natCast_nonneg _, Int.ofNat_lt.mpr hlt⟩
    · rw [hg k e]
      exact h k hk
theorem RV.lower {V W : Nat → Nat → Int} {o r F : Nat} {z : Int} (x : RV V o r z) (hF : V o 1 = F) (y : RV W o r z) (hW : F < 700) : RV (vset W o 1 ((F : Int) + 1)) o r z := by
  obtain ⟨i, h1, h2, h3, h4⟩ := x
  obtain ⟨k, k1, k2, k3, k4⟩ := y
  refine ⟨i, h1, by rw [vset_eq]; omega, by rw [vset_eq]; omega, k4.congr fun j hj => vset_ne _ _ _ _ (by omega)⟩
theorem rt_back {V W W4 V5 V6 : Nat → Nat → Int} {o F : Nat} (hF : V o 1 = F) (hF7 : F + 2 < 700) (gW : Gm V W o 1) (g4 : Gm W W4 o 1) (g5 : Gm W4 V5 o 1) (m6 : MF V5 V6 o (18 * F)) :
    Gm V (vset V6 o 1 ((F : Int) + 1)) o 1 ∧ (vset V6 o 1 ((F : Int) + 1)) o 1 = (F : Int) + 1 ∧ ∀ z, RW (mr V6 o (18 * F)) z → RV (vset V6 o 1 ((F : Int) + 1)) o (18 * F) z := by
  have e6 : V6 o = V5 o := m6.1 o (by omega)
  have g := (gW.trans g4).trans g5
  refine ⟨⟨fun q h1 h2 => ?_, fun f hf => ?_, by rw [vset_eq]; omega, fun r z x => ?_⟩, vset_eq _ _ _ _, fun z hz => ⟨F, rfl, by rw [vset_eq]; omega, by rw [vset_eq]; omega, hz.congr fun j hj => vset_ne _ _ _ _ (by omega)⟩⟩
  · rw [show vset V6 o 1 ((F : Int) + 1) q = V6 q by funext j; rw [vset_ne _ _ _ _ (by omega)], m6.1 q h2, g.1 q h1 h2]
  · rw [vset_ne _ _ _ _ (by omega), e6, g.2.1 f hf]
  · have d := x.dis hF
    have y := (g.rv x).mf m6 (by omega)
    exact x.lower hF y (by omega)
theorem rt_in {x : Int} {na : Nat} (h : (x.natAbs : Int) < 16777216 ^ na) (hx : 0 ≤ x) : RT x.toNat 0 ((24 * na + 1) / 2 + 1) := by
  refine ⟨by omega, ?_⟩
  rw [Nat.zero_mul, Nat.zero_add, ← Nat.pow_add]
  have h1 := Nat.pow_le_pow_right (show 0 < 2 by decide) (show 24 * na ≤ (24 * na + 1) / 2 + 1 + ((24 * na + 1) / 2 + 1) by omega)
  have h2 : ((2 ^ (24 * na) : Nat) : Int) = 16777216 ^ na := by rw [Int.natCast_pow, Int.pow_mul]; rfl
  omega
theorem m_num0 {w : aW} {d : Nat} (hd : 2 ≤ d) {h : aH} {o : Nat} (ms : MS h o) (V : Nat → Nat → Int) (F : Nat) (hF : V o 1 = F) (hF7 : F < 700) : WP w d 244 [aO (some o), aJ 0] (hw h V) (RI (fun r h1 => r = ((18 * F : Nat) : Int) ∧ ∃ V1, h1 = hw h V1 ∧ Gm V V1 o 1 ∧ RV V1 o (18 * F) 0 ∧ V1 o 1 = (F : Int) + 1)) := by
  obtain ⟨d, rfl⟩ : ∃ d1, d = d1 + 1 := ⟨d - 1, by omega⟩
  refine WP.enter (cd := cd_X12_num) rfl ?_
  have hls : largs 0 [aO (some o), aJ 0] = [(0, aO (some o)), (1, aJ 0)] := rfl
  rw [hls]
  clear hls
  refine g_aload_n rfl rfl ?_
  refine g_callVI [] [] rfl rfl rfl rfl (Nat.le_of_ble_eq_true rfl) ms.1 (m_fresh (by omega) ms V F hF hF7) ?_
  rintro _ _ ⟨⟨V1, rfl, m1⟩, rfl⟩
  refine g_istore_n (l1 := [(3, aI ((18 * F : Int))), (0, aO (some o)), (1, aJ 0)]) rfl rfl ?_
  refine g_lload_n rfl rfl ?_
  refine g_lconst0 rfl ?_
  refine g_lc_ge_t rfl rfl (by omega) ?_
  refine g_lload_n rfl rfl ?_
  refine g_lstore (l1 := [(4, aJ 0), (3, aI ((18 * F : Int))), (0, aO (some o)), (1, aJ 0)]) rfl rfl ?_
  refine g_iconst rfl ?_
  refine g_istore (l1 := [(6, aI 0), (4, aJ 0), (3, aI ((18 * F : Int))), (0, aO (some o)), (1, aJ 0)]) rfl rfl ?_
  refine g_lload rfl rfl ?_
  refine g_lconst0 rfl ?_
  refine g_lc_le_t rfl rfl (by omega) ?_
  refine g_aload_n rfl rfl ?_
  refine g_getR rfl ms.1 (mr_limb ms) ?_
  refine g_iload_n rfl rfl ?_
  refine g_bipush rfl ?_
  refine g_iadd rfl (by omega) (by omega) ?_
  refine g_lload_n rfl rfl ?_
  refine g_lconst0 rfl ?_
  refine g_lc_ge_t rfl rfl (by omega) ?_
  refine g_lload_n rfl rfl ?_
  refine g_lconst0 rfl ?_
  refine g_lc_le_t rfl rfl (by omega) ?_
  refine g_iconst rfl ?_
  refine g_iast (i := (18 * F) + 16) rfl (mt_limb ms) (by omega) (by omega) ?_
  refine g_hp (h2 := hw h (vset V1 (o + 1) ((18 * F) + 16) 0)) rfl ?_
  refine g_aload_n rfl rfl ?_
  refine g_getR rfl ms.1 (mr_limb ms) ?_
  refine g_iload_n rfl rfl ?_
  refine g_bipush rfl ?_
  refine g_iadd rfl (by omega) (by omega) ?_
  refine g_iload rfl rfl ?_
  refine g_iast (i := (18 * F) + 17) rfl (mt_limb ms) (by omega) (by omega) ?_
  refine g_hp (h2 := hw h (vset (vset V1 (o + 1) ((18 * F) + 16) 0) (o + 1) ((18 * F) + 17) 0)) rfl ?_
  refine g_iload_n rfl rfl ?_
  refine g_iret rfl ?_
  have hv := num_fin (u := 0) (i := 0) (v := 0) (s := 0) hF hF7 m1 (MF.refl _ _ _) (by omega) (fun j hj => by omega) (fun j _ h2 => m1.2.2.2.2 j h2) rfl rfl (Or.inl rfl) rfl
  refine ⟨rfl, _, rfl, hv.1, hv.2, ?_⟩
  rw [vset_ne _ _ _ _ (by omega), vset_ne _ _ _ _ (by omega)]
  exact m1.2.2.1
set_option maxHeartbeats 4000000 in
theorem m_root {w : aW} {d : Nat} (hd : 4 ≤ d) {h : aH} {o : Nat} (ms : MS h o) (V : Nat → Nat → Int) (F : Nat) (hF : V o 1 = F) (hF7 : F + 3 ≤ 700) {a : Nat} {x : Int} (xa : RV V o a x) (hx0 : 0 ≤ x) (hx : x ≤ 2 ^ (2 * 165)) : WP w d 264 [aO (some o), aI ((a : Int))] (hw h V) (RI (fun r h1 => ∃ V1, h1 = hw h V1 ∧ Gm V V1 o 2 ∧ ((r = -1 ∧ ¬ ∃ s : Nat, x = ((s * s : Nat) : Int)) ∨ ∃ p s : Nat, r = p ∧ x = ((s * s : Nat) : Int) ∧ RV V1 o p (s : Int) ∧ s ≤ 2 ^ 165))) := by
  obtain ⟨d, rfl⟩ : ∃ d1, d = d1 + 1 := ⟨d - 1, by omega⟩
  refine WP.enter (cd := cd_X12_root) rfl ?_
  have hls : largs 0 [aO (some o), aI ((a : Int))] = [(0, aO (some o)), (1, aI ((a : Int)))] := rfl
  rw [hls]
  clear hls
  have l26 : ∀ (fuel : Nat) (i : Int) (Q : Nat) (W : Nat → Nat → Int), (-1 ≤ i ∧ i ≤ 168) → (Gm V W o 1) → (W o 1 = (F : Int) + 1) → (RV W o (18 * F) ((Q * 2 ^ (i + 1).toNat : Nat) : Int)) → (RT x.toNat Q (i + 1).toNat) → (i + 1).toNat < fuel → Wk w d cd_X12_root 26 [(4, aI i), (2, aI ((18 * F : Int))), (0, aO (some o)), (1, aI ((a : Int)))] [] (hw h W) (RI (fun r h1 => ∃ V1, h1 = hw h V1 ∧ Gm V V1 o 2 ∧ ((r = -1 ∧ ¬ ∃ s : Nat, x = ((s * s : Nat) : Int)) ∨ ∃ p s : Nat, r = p ∧ x = ((s * s : Nat) : Int) ∧ RV V1 o p (s : Int) ∧ s ≤ 2 ^ 165))) := by
    intro fuel
    induction fuel with
    | zero => intros; omega
    | succ fuel ih26 =>
      intro i Q W hi gW fW lr rt hfuel
      refine g_iload rfl rfl ?_
      refine g_if_lt rfl (fun c28 => ?_) (fun c28 => ?_)
      · skip
        rw [show (i + 1).toNat = 0 by omega] at lr rt
        have hb00 := RT_b rt (show x.toNat ≤ 2 ^ (2 * 165) by have q2 : ((2 ^ (2 * 165) : Nat) : Int) = 2 ^ (2 * 165) := Int.natCast_pow 2 (2 * 165); omega)
        have hb0 : -2 ^ 190 ≤ ((Q * 2 ^ 0 : Nat) : Int) ∧ ((Q * 2 ^ 0 : Nat) : Int) ≤ 2 ^ 190 := by
          have h0 : (0 : Int) ≤ ((Q * 2 ^ 0 : Nat) : Int) := Int.natCast_nonneg _
          have h1 : (2 : Nat) ^ 165 ≤ 2 ^ 190 := by decide
          have h2 : ((2 ^ 190 : Nat) : Int) = 2 ^ 190 := Int.natCast_pow 2 190
          generalize Q * 2 ^ 0 = Z at *
          have := pw_pos 190
          omega
        refine g_aload_n rfl rfl ?_
        refine g_aload_n rfl rfl ?_
        refine g_iload_n rfl rfl ?_
        refine g_callVI [aI ((18 * F : Int))] [aO (some o)] rfl rfl rfl rfl (Nat.le_of_ble_eq_true rfl) ms.1 (r_square (by omega) ms W (by omega) (j := 190) ⟨lr, hb0⟩ (by decide)) ?_
        rintro _ _ ⟨p5, rfl, V5, rfl, g5, v5⟩
        have xa5 := g5.rv (gW.rv xa)
        have z5 := g5.rv lr
        refine g_iload_n rfl rfl ?_
        refine g_callVI [aI ((p5 : Int)), aI ((a : Int))] [] rfl rfl rfl rfl (Nat.le_of_ble_eq_true rfl) ms.1 (m_compareSizes (by omega) ms V5 p5 a v5.1.b xa5.b v5.1.c xa5.c) ?_
        rintro _ _ ⟨rfl, rfl⟩
        have lc1 := @lcmp_gt (((((Q * 2 ^ 0 : Nat) : Int) * ((Q * 2 ^ 0 : Nat) : Int)).natAbs : Nat) : Int) (x.natAbs : Int)
        have lc0 := @lcmp_0 (((((Q * 2 ^ 0 : Nat) : Int) * ((Q * 2 ^ 0 : Nat) : Int)).natAbs : Nat) : Int) (x.natAbs : Int)
        refine g_if_ne rfl (fun c134 => ?_) (fun c134 => ?_)
        · skip
          refine g_iconst rfl ?_
          refine g_iret rfl ?_
          have hsq : (((Q * 2 ^ 0 : Nat) : Int) * ((Q * 2 ^ 0 : Nat) : Int)).natAbs = (Q * 2 ^ 0) * (Q * 2 ^ 0) := by rw [← Int.natCast_mul]; rfl
          refine ⟨V5, rfl, gW.trans g5, ?_⟩
          first
            | (have hq9 := lc0.mp c134
               refine Or.inr ⟨18 * F, Q * 2 ^ 0, rfl, by omega, z5, hb00⟩)
            | (refine Or.inl ⟨rfl, fun ⟨s, hs⟩ => c134 (lc0.mpr ?_)⟩
               have e := RT_end rt s (by omega)
               rw [hsq, hs, e, Nat.pow_zero, Nat.mul_one]
               rfl)
        · skip
          refine g_iload_n rfl rfl ?_
          refine g_goto rfl ?_
          refine g_iret rfl ?_
          have hsq : (((Q * 2 ^ 0 : Nat) : Int) * ((Q * 2 ^ 0 : Nat) : Int)).natAbs = (Q * 2 ^ 0) * (Q * 2 ^ 0) := by rw [← Int.natCast_mul]; rfl
          refine ⟨V5, rfl, gW.trans g5, ?_⟩
          first
            | (have hq9 := lc0.mp c134
               refine Or.inr ⟨18 * F, Q * 2 ^ 0, rfl, by omega, z5, hb00⟩)
            | (refine Or.inl ⟨rfl, fun ⟨s, hs⟩ => c134 (lc0.mpr ?_)⟩
               have e := RT_end rt s (by omega)
               rw [hsq, hs, e, Nat.pow_zero, Nat.mul_one]
               rfl)
      · skip
        obtain ⟨n, hn⟩ : ∃ n : Nat, i = n := ⟨i.toNat, by omega⟩
        subst hn
        rw [show ((n : Int) + 1).toNat = n + 1 by omega] at lr rt
        have hb00 := RT_b rt (show x.toNat ≤ 2 ^ (2 * 165) by have q2 : ((2 ^ (2 * 165) : Nat) : Int) = 2 ^ (2 * 165) := Int.natCast_pow 2 (2 * 165); omega)
        have hb1n : 2 ^ n ≤ 2 ^ 168 := Nat.pow_le_pow_right (by decide) (by omega)
        have hb2 : -2 ^ 190 ≤ ((Q * 2 ^ (n + 1) + 2 ^ n : Nat) : Int) ∧ ((Q * 2 ^ (n + 1) + 2 ^ n : Nat) : Int) ≤ 2 ^ 190 := by
          have h0 : (0 : Int) ≤ ((Q * 2 ^ (n + 1) + 2 ^ n : Nat) : Int) := Int.natCast_nonneg _
          have h1 : Q * 2 ^ (n + 1) + 2 ^ n ≤ 2 ^ 190 := by
            have : (2 : Nat) ^ 165 + 2 ^ 168 ≤ 2 ^ 190 := by decide
            omega
          have h2 : ((2 ^ 190 : Nat) : Int) = 2 ^ 190 := Int.natCast_pow 2 190
          generalize Q * 2 ^ (n + 1) + 2 ^ n = Z at *
          have := pw_pos 190
          omega
        refine g_aload_n rfl rfl ?_
        refine g_getI rfl ms.1 ?_
        refine g_top (v2 := aI (W o 1)) (congrArg aI (by rfl)) ?_
        refine g_top (v2 := aI ((F : Int) + 1)) (congrArg aI (by exact fW)) ?_
        refine g_istore (l1 := [(5, aI ((F : Int) + 1)), (4, aI ((n : Int))), (2, aI ((18 * F : Int))), (0, aO (some o)), (1, aI ((a : Int)))]) rfl rfl ?_
        refine g_aload_n rfl rfl ?_
        refine g_callVI [] [] rfl rfl rfl rfl (Nat.le_of_ble_eq_true rfl) ms.1 (m_fresh (by omega) ms W (F + 1) (by omega) (by omega)) ?_
        rintro _ _ ⟨⟨W1, rfl, mf1⟩, rfl⟩
        refine g_istore (l1 := [(6, aI ((18 * (F + 1) : Int))), (5, aI ((F : Int) + 1)), (4, aI ((n : Int))), (2, aI ((18 * F : Int))), (0, aO (some o)), (1, aI ((a : Int)))]) rfl rfl ?_
        refine g_aload_n rfl rfl ?_
        refine g_iload rfl rfl ?_
        refine g_iload_n rfl rfl ?_
        refine g_callVN [aI ((18 * (F + 1) : Int)), aI ((18 * F : Int))] [] rfl rfl rfl rfl (Nat.le_of_ble_eq_true rfl) ms.1 (m_set (by omega) ms W1 (18 * (F + 1)) (18 * F) (by omega) (by omega) (by omega)) ?_
        rintro _ ⟨W2, rfl, ms2, rs2⟩
        have wr2 : RW (mr W2 o (18 * (F + 1))) ((Q * 2 ^ (n + 1) : Nat) : Int) := (lr.fr (F := F + 1) (by omega) (by omega) mf1).w.congr rs2
        have hdv : (2 ^ (n + 1) : Int) ∣ mv (mr W2 o (18 * (F + 1))) 16 := by
          rw [wr2.mvU, Int.natCast_mul, Int.natCast_pow]
          exact ⟨(Q : Int), Int.mul_comm _ _⟩
        refine g_aload_n rfl rfl ?_
        refine g_getR rfl ms.1 (mr_limb ms) ?_
        refine g_iload rfl rfl ?_
        refine g_iload rfl rfl ?_
        refine g_bipush rfl ?_
        refine g_idivN (m := 24) (n := n) rfl (by omega) (by omega) ?_
        refine g_iadd rfl (by omega) (by omega) ?_
        refine g_aload_n rfl rfl ?_
        refine g_getR rfl ms.1 (mr_limb ms) ?_
        refine g_iload rfl rfl ?_
        refine g_iload rfl rfl ?_
        refine g_bipush rfl ?_
        refine g_idivN (m := 24) (n := n) rfl (by omega) (by omega) ?_
        refine g_iadd rfl (by omega) (by omega) ?_
        refine g_iald (i := (18 * (F + 1)) + (n / 24)) rfl (mt_limb ms) (by omega) (by omega) ?_
        refine g_top (v2 := aI (W2 (o + 1) ((18 * (F + 1)) + (n / 24)))) (congrArg aI (by rfl)) ?_
        refine g_iconst rfl ?_
        refine g_iload rfl rfl ?_
        refine g_bipush rfl ?_
        refine g_iremN (m := 24) (n := n) rfl (by omega) ?_
        refine g_ishl rfl ?_
        refine g_ior rfl ?_
        refine g_iast (i := (18 * (F + 1)) + (n / 24)) rfl (mt_limb ms) (by omega) (by omega) ?_
        obtain ⟨W3, eW3⟩ : ∃ W, W = vset W2 (o + 1) ((18 * (F + 1)) + (n / 24)) (ior (W2 (o + 1) ((18 * (F + 1)) + (n / 24))) (ishl 1 (((n % 24 : Nat) : Int)))) := ⟨_, rfl⟩
        refine g_hp (h2 := hw h W3) (by rw [eW3]; rfl) ?_
        have sv3 := set_mv (f := mr W2 o (18 * (F + 1))) (g := mr W3 o (18 * (F + 1))) wr2.1.1 (show n < 384 by omega) hdv (fun m hm => by rw [eW3]; exact vset_ne _ _ _ _ (by omega)) (by rw [eW3]; exact vset_eq _ _ _ _)
        have ms3 : MF W2 W3 o (18 * (F + 1)) := by rw [eW3]; exact MF.set _ (by omega)
        refine g_aload_n rfl rfl ?_
        refine g_iload rfl rfl ?_
        refine g_iconst rfl ?_
        refine g_callVN [aI ((18 * (F + 1) : Int)), aI 1] [] rfl rfl rfl rfl (Nat.le_of_ble_eq_true rfl) ms.1 (m_trim (by omega) ms W3 (18 * (F + 1)) (by omega) 1 _ sv3.2 sv3.1) ?_
        rintro _ ⟨W4, rfl, mt4, rt4⟩
        have wz4 : RW (mr W4 o (18 * (F + 1))) ((Q * 2 ^ (n + 1) + 2 ^ n : Nat) : Int) := RC_rw rt4 (by rw [wr2.mvU, Int.natCast_add (Q * 2 ^ (n + 1)), Int.natCast_pow]; rfl)
        obtain ⟨g4, z4⟩ := fin_m (F := F + 1) (by omega) (by omega) mf1 ((ms2.trans ms3).trans mt4) wz4
        have f4 := mt4.1 o (by omega)
        have f3 := ms3.1 o (by omega)
        have f2 := ms2.1 o (by omega)
        have f1 := mf1.2.2.1
        have f4b : W4 o 1 = ((F + 2 : Nat) : Int) := by rw [f4, f3, f2]; omega
        refine g_aload_n rfl rfl ?_
        refine g_aload_n rfl rfl ?_
        refine g_iload rfl rfl ?_
        refine g_callVI [aI ((18 * (F + 1) : Int))] [aO (some o)] rfl rfl rfl rfl (Nat.le_of_ble_eq_true rfl) ms.1 (r_square (by omega) ms W4 (by omega) (j := 190) ⟨z4, hb2⟩ (by decide)) ?_
        rintro _ _ ⟨p5, rfl, V5, rfl, g5, v5⟩
        have xa5 := g5.rv (g4.rv (gW.rv xa))
        have z5 := g5.rv z4
        have f5 := g5.2.2.1
        refine g_iload_n rfl rfl ?_
        refine g_callVI [aI ((p5 : Int)), aI ((a : Int))] [] rfl rfl rfl rfl (Nat.le_of_ble_eq_true rfl) ms.1 (m_compareSizes (by omega) ms V5 p5 a v5.1.b xa5.b v5.1.c xa5.c) ?_
        rintro _ _ ⟨rfl, rfl⟩
        have lc1 := @lcmp_gt (((((Q * 2 ^ (n + 1) + 2 ^ n : Nat) : Int) * ((Q * 2 ^ (n + 1) + 2 ^ n : Nat) : Int)).natAbs : Nat) : Int) (x.natAbs : Int)
        have lc0 := @lcmp_0 (((((Q * 2 ^ (n + 1) + 2 ^ n : Nat) : Int) * ((Q * 2 ^ (n + 1) + 2 ^ n : Nat) : Int)).natAbs : Nat) : Int) (x.natAbs : Int)
        refine g_if_gt rfl (fun c102 => ?_) (fun c102 => ?_)
        · skip
          have hsq : (((Q * 2 ^ (n + 1) + 2 ^ n : Nat) : Int) * ((Q * 2 ^ (n + 1) + 2 ^ n : Nat) : Int)).natAbs = (Q * 2 ^ (n + 1) + 2 ^ n) * (Q * 2 ^ (n + 1) + 2 ^ n) := by rw [← Int.natCast_mul]; rfl
          have hlt : x.toNat < (Q * 2 ^ (n + 1) + 2 ^ n) * (Q * 2 ^ (n + 1) + 2 ^ n) := by omega
          obtain ⟨Q9, e9⟩ : ∃ Q9, Q9 = 2 * Q := ⟨_, rfl⟩
          have rt9 : RT x.toNat Q9 n := by rw [e9]; exact RT_no rt hlt
          have bk := rt_back hF (by omega) gW g4 g5 (MF.refl V5 o (18 * F))
          have bk9 := bk.2.2 ((Q9 * 2 ^ n : Nat) : Int) (by rw [e9, show 2 * Q * 2 ^ n = Q * 2 ^ (n + 1) by rw [Nat.pow_succ]; grind]; exact (g5.rv (g4.rv lr)).w)
          refine g_aload_n rfl rfl ?_
          refine g_iload rfl rfl ?_
          refine g_putI rfl ms.1 ?_
          refine g_hp (h2 := hw h (vset V5 o 1 ((F : Int) + 1))) rfl ?_
          refine g_iinc (l1 := [(4, aI ((n : Int) + (-1))), (6, aI ((18 * (F + 1) : Int))), (5, aI ((F : Int) + 1)), (2, aI ((18 * F : Int))), (0, aO (some o)), (1, aI ((a : Int)))]) rfl rfl (by omega) (by omega) rfl ?_
          refine g_goto rfl ?_
          refine g_ls [0, 3, 4, 5] rfl rfl ?_
          exact ih26 ((n : Int) + -1) Q9 _ (by omega) (by exact bk.1) (by exact bk.2.1) (by rw [show ((n : Int) + -1 + 1).toNat = n by omega]; exact bk9) (by rw [show ((n : Int) + -1 + 1).toNat = n by omega]; exact rt9) (by omega)
        · skip
          refine g_aload_n rfl rfl ?_
          refine g_iload_n rfl rfl ?_
          refine g_iload rfl rfl ?_
          refine g_callVN [aI ((18 * F : Int)), aI ((18 * (F + 1) : Int))] [] rfl rfl rfl rfl (Nat.le_of_ble_eq_true rfl) ms.1 (m_set (by omega) ms V5 (18 * F) (18 * (F + 1)) (by omega) (by omega) (by omega)) ?_
          rintro _ ⟨V6, rfl, ms6, rs6⟩
          have hsq : (((Q * 2 ^ (n + 1) + 2 ^ n : Nat) : Int) * ((Q * 2 ^ (n + 1) + 2 ^ n : Nat) : Int)).natAbs = (Q * 2 ^ (n + 1) + 2 ^ n) * (Q * 2 ^ (n + 1) + 2 ^ n) := by rw [← Int.natCast_mul]; rfl
          have hle : (Q * 2 ^ (n + 1) + 2 ^ n) * (Q * 2 ^ (n + 1) + 2 ^ n) ≤ x.toNat := by omega
          obtain ⟨Q9, e9⟩ : ∃ Q9, Q9 = 2 * Q + 1 := ⟨_, rfl⟩
          have rt9 : RT x.toNat Q9 n := by rw [e9]; exact RT_yes rt hle
          have bk := rt_back hF (by omega) gW g4 g5 ms6
          have bk9 := bk.2.2 ((Q9 * 2 ^ n : Nat) : Int) (by rw [e9, show (2 * Q + 1) * 2 ^ n = Q * 2 ^ (n + 1) + 2 ^ n by rw [Nat.pow_succ]; grind]; exact z5.w.congr rs6)
          refine g_aload_n rfl rfl ?_
          refine g_iload rfl rfl ?_
          refine g_putI rfl ms.1 ?_
          refine g_hp (h2 := hw h (vset V6 o 1 ((F : Int) + 1))) rfl ?_
          refine g_iinc (l1 := [(4, aI ((n : Int) + (-1))), (6, aI ((18 * (F + 1) : Int))), (5, aI ((F : Int) + 1)), (2, aI ((18 * F : Int))), (0, aO (some o)), (1, aI ((a : Int)))]) rfl rfl (by omega) (by omega) rfl ?_
          refine g_goto rfl ?_
          refine g_ls [0, 3, 4, 5] rfl rfl ?_
          exact ih26 ((n : Int) + -1) Q9 _ (by omega) (by exact bk.1) (by exact bk.2.1) (by rw [show ((n : Int) + -1 + 1).toNat = n by omega]; exact bk9) (by rw [show ((n : Int) + -1 + 1).toNat = n by omega]; exact rt9) (by omega)
  refine g_aload_n rfl rfl ?_
  refine g_lconst0 rfl ?_
  refine g_callVI [aJ 0] [] rfl rfl rfl rfl (Nat.le_of_ble_eq_true rfl) ms.1 (m_num0 (by omega) ms V F hF (by omega)) ?_
  rintro _ _ ⟨rfl, V1, rfl, g1, v1, f1⟩
  obtain ⟨na, hna⟩ : ∃ n : Nat, V1 (o + 1) (a + 17) = n := ⟨_, (g1.rv xa).c.2.2.choose_spec.2.1⟩
  have la1 := (g1.rv xa).c.lt hna
  have hna14 : na ≤ 14 := by
    refine Classical.byContradiction fun q => ?_
    rcases la1.2.1 with q2 | q2
    · omega
    · have q3 := Nat.pow_le_pow_right (show 0 < 16777216 by decide) (show 14 ≤ na - 1 by omega)
      have q4 : ((16777216 ^ 14 : Nat) : Int) ≤ ((16777216 ^ (na - 1) : Nat) : Int) := by omega
      rw [Int.natCast_pow, Int.natCast_pow] at q4
      have q5 : (((16777216 : Nat) : Int)) ^ 14 = 64 * 2 ^ (2 * 165) := by decide
      have q6 : (((16777216 : Nat) : Int)) ^ (na - 1) = 16777216 ^ (na - 1) := rfl
      omega
  have hab := xa.b
  refine g_istore_n (l1 := [(2, aI ((18 * F : Int))), (0, aO (some o)), (1, aI ((a : Int)))]) rfl rfl ?_
  refine g_bipush rfl ?_
  refine g_aload_n rfl rfl ?_
  refine g_getR rfl ms.1 (mr_limb ms) ?_
  refine g_iload_n rfl rfl ?_
  refine g_bipush rfl ?_
  refine g_iadd rfl (by omega) (by omega) ?_
  refine g_iald (i := a + 17) rfl (mt_limb ms) (by omega) (by omega) ?_
  refine g_top (v2 := aI (V1 (o + 1) (a + 17))) (congrArg aI (by rfl)) ?_
  refine g_top (v2 := aI ((na : Int))) (congrArg aI (by exact hna)) ?_
  refine g_imul rfl (by omega) (by omega) ?_
  refine g_iconst rfl ?_
  refine g_iadd rfl (by omega) (by omega) ?_
  refine g_iconst rfl ?_
  refine g_idivN (m := 2) (n := ((24 * na) + 1)) rfl (by omega) (by omega) ?_
  refine g_istore_n (l1 := [(3, aI (((((24 * na) + 1) / 2 : Nat) : Int))), (2, aI ((18 * F : Int))), (0, aO (some o)), (1, aI ((a : Int)))]) rfl rfl ?_
  refine g_iload_n rfl rfl ?_
  refine g_istore (l1 := [(4, aI (((((24 * na) + 1) / 2 : Nat) : Int))), (3, aI (((((24 * na) + 1) / 2 : Nat) : Int))), (2, aI ((18 * F : Int))), (0, aO (some o)), (1, aI ((a : Int)))]) rfl rfl ?_
  refine g_ls [0, 2, 3, 4] rfl rfl ?_
  exact l26 _ _ 0 V1 (by omega) (by exact g1) (by exact f1) (by rw [Nat.zero_mul]; exact v1) (by rw [show (((( 24 * na + 1) / 2 : Nat) : Int) + 1).toNat = (24 * na + 1) / 2 + 1 by omega]; exact rt_in la1.1 hx0) (Nat.lt_succ_self _)
