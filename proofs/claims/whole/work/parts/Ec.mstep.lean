/-! the reference's face step, kind by kind: printed by wip/whole/ec.py -/
/-- what a face of things leaves as it was -/
def FR (V V1 : Nat → Nat → Int) (o : Nat) : Prop := ∀ a i, ¬(a = o ∧ (i = 1 ∨ i = 7 ∨ i = 31)) → a ≠ o + 1 → a ≠ o + 4 → a ≠ o + 5 → ¬(o + 24 ≤ a ∧ a ≤ o + 31) → V1 a i = V a i
theorem KM.fr {V V0 V1 : Nat → Nat → Int} {o n : Nat} {T : Nat → Prop} (k : KM V0 V1 o n T) (hT : ∀ q, T q → o + 24 ≤ q ∧ q ≤ o + 31) (e : V0 = vset (vset V o 31 0) o 1 0) : FR V V1 o := by
  obtain ⟨V2, g, a, b⟩ := k
  intro q i h1 h2 h3 h4 h5
  have h6 : ¬ T q := fun x => h5 (hT q x)
  by_cases hq : q = o
  · subst hq
    rw [b i (fun x => h1 ⟨rfl, by omega⟩), g.2.1 i (fun x => h1 ⟨rfl, by omega⟩), e, vset_ne _ _ _ _ (by omega), vset_ne _ _ _ _ (by omega)]
  · rw [a q hq h3 h4, g.1 q hq h2 h6, e, vset_ne _ _ _ _ (by omega), vset_ne _ _ _ _ (by omega)]
theorem MT.rs {V : Nat → Nat → Int} {o : Nat} {S : aS} (x : MT V o S) : MT (vset (vset V o 31 0) o 1 0) o S := by
  refine ⟨?_, fun i hi => ⟨?_, fun k hk => ?_⟩⟩
  · rw [vset_ne _ _ _ _ (by omega), vset_ne _ _ _ _ (by omega)]; exact x.1
  · rw [vset_ne _ _ _ _ (by omega), vset_ne _ _ _ _ (by omega)]; exact (x.2 i hi).1
  · rw [vset_ne _ _ _ _ (by omega), vset_ne _ _ _ _ (by omega)]; exact (x.2 i hi).2 k hk
abbrev isS (S : aS) (t s : Int) : Prop := (0 ≤ t ∧ t < sT S) ∧ sTs S t.toNat = s
def stepM (S : aS) (sa sb s : Int) (a b : Int) (O : Option T4) : Int × aS := if isS S a sa ∧ isS S b sb then keepM S s O else (-1, S)
set_option maxRecDepth 100000 in
set_option maxHeartbeats 4000000 in
theorem m_fits {w : aW} {d : Nat} (hd : 4 ≤ d) {h : aH} {o : Nat} (ms : MS h o) (V : Nat → Nat → Int) {S : aS} (ok : OkT S) (mt : MT V o S) (t : Int) (s : Int) (hy0 : s ≠ 3) : WP w d 306 [aO (some o), aI t, aI s] (hw h V) (RI (fun r h1 => h1 = hw h V ∧ r = if (0 ≤ t ∧ t < sT S) ∧ sTs S t.toNat = s then 1 else 0)) := by
  obtain ⟨d, rfl⟩ : ∃ d1, d = d1 + 1 := ⟨d - 1, by omega⟩
  refine WP.enter (cd := cd_X12_fits) rfl ?_
  have G0 := Gs.refl V o (fun _ => False)
  have hn := ok.1
  have hls : largs 0 [aO (some o), aI t, aI s] = [(0, aO (some o)), (1, aI t), (2, aI s)] := rfl
  rw [hls]
  clear hls
  refine g_iload_n rfl rfl ?_
  refine g_iconst rfl ?_
  refine g_icmp_ne_t rfl (by omega) ?_
  refine g_aload_n rfl rfl ?_
  refine g_iload_n rfl rfl ?_
  refine g_iload_n rfl rfl ?_
  refine g_callVI [aI t, aI s] [] rfl rfl rfl rfl (Nat.le_of_ble_eq_true rfl) ms.1 (m_is (by omega) ms V ok mt t s) ?_
  rintro r1 _ ⟨rfl, e2⟩
  rw [e2]
  clear e2 r1
  refine g_zret rfl (by omega) ?_
  refine ⟨rfl, ?_⟩
  split <;> (try split) <;> omega
set_option maxHeartbeats 4000000 in
theorem m_step1 {w : aW} {d : Nat} (hd : 10 ≤ d) {h : aH} {o : Nat} (ms : MS h o) (V : Nat → Nat → Int) {S : aS} (ok : OkT S) (mt : MT V o S) (a b : Int) : WP w d 307 [aO (some o), aI 1, aI a, aI b] (hw h V) (RI (fun r h1 => ∃ V1, h1 = hw h V1 ∧ FR V V1 o ∧ r = (stepM S 0 0 1 a b (m_s1_O S a b)).1 ∧ MT V1 o (stepM S 0 0 1 a b (m_s1_O S a b)).2)) := by
  obtain ⟨d, rfl⟩ : ∃ d1, d = d1 + 1 := ⟨d - 1, by omega⟩
  refine WP.enter (cd := cd_X12_step) rfl ?_
  have hn := ok.1
  have hls : largs 0 [aO (some o), aI 1, aI a, aI b] = [(0, aO (some o)), (1, aI 1), (2, aI a), (3, aI b)] := rfl
  rw [hls]
  clear hls
  refine g_aload_n rfl rfl ?_
  refine g_iconst rfl ?_
  refine g_putI rfl ms.1 ?_
  refine g_hp (h2 := hw h (vset V o 31 0)) rfl ?_
  refine g_aload_n rfl rfl ?_
  refine g_iconst rfl ?_
  refine g_putI rfl ms.1 ?_
  obtain ⟨V0, eV0⟩ : ∃ W, W = vset (vset V o 31 0) o 1 0 := ⟨_, rfl⟩
  refine g_hp (h2 := hw h V0) (by rw [eV0]; rfl) ?_
  have mt : MT V0 o S := by rw [eV0]; exact mt.rs
  have f0 : V0 o 1 = 0 := by rw [eV0]; exact vset_eq _ _ _ _
  have G0 := Gs.refl V0 o (fun q => q = o + 24 ∨ q = o + 25)
  refine g_iload_n rfl rfl ?_
  refine g_i2l rfl ?_
  refine g_lconst0 rfl ?_
  refine g_ldc2 rfl ?_
  refine g_callSI [aJ 1, aJ 0, aJ 19] [] rfl rfl rfl rfl (Nat.le_of_ble_eq_true rfl) (c_in (by omega) _ _ _ _) ?_
  rintro r1 _ ⟨rfl, rfl⟩
  refine g_b_eq rfl (fun c19 => ?_) (fun c19 => ?_)
  · skip
    refine g_iconst rfl ?_
    refine g_iret rfl ?_
    have es : stepM S 0 0 1 a b (m_s1_O S a b) = (-1, S) := by unfold stepM; rw [if_neg (by unfold isS; omega)]
    rw [es]
    exact ⟨V0, rfl, (KM.of (G0.wide (fun q hq => by have hq : q = o + 24 ∨ q = o + 25 := hq; show o + 24 ≤ q ∧ q ≤ o + 31; omega))).fr (T := fun q => o + 24 ≤ q ∧ q ≤ o + 31) (fun q hq => hq) eV0, rfl, mt⟩
  · skip
    refine g_aload_n rfl rfl ?_
    refine g_iload_n rfl rfl ?_
    refine g_iload_n rfl rfl ?_
    refine g_callSI [aI 1] [aI a, aO (some o)] rfl rfl rfl rfl (Nat.le_of_ble_eq_true rfl) (m_wants1 (by omega) _) ?_
    rintro _ _ ⟨rfl, rfl⟩
    refine g_bipush rfl ?_
    refine g_idivN (m := 10) (n := 0) rfl (by omega) (by omega) ?_
    refine g_top (v2 := aI 0) (congrArg aI (by rfl)) ?_
    refine g_callVI [aI a, aI 0] [] rfl rfl rfl rfl (Nat.le_of_ble_eq_true rfl) ms.1 (m_fits (by omega) ms V0 ok mt a 0 (by omega)) ?_
    rintro r2 _ ⟨rfl, e3⟩
    rw [e3]
    clear e3 r2
    refine g_b_eq rfl (fun c34 => ?_) (fun c34 => ?_)
    · skip
      refine g_iconst rfl ?_
      refine g_iret rfl ?_
      have es : stepM S 0 0 1 a b (m_s1_O S a b) = (-1, S) := by unfold stepM; rw [if_neg (by unfold isS; omega)]
      rw [es]
      exact ⟨V0, rfl, (KM.of (G0.wide (fun q hq => by have hq : q = o + 24 ∨ q = o + 25 := hq; show o + 24 ≤ q ∧ q ≤ o + 31; omega))).fr (T := fun q => o + 24 ≤ q ∧ q ≤ o + 31) (fun q hq => hq) eV0, rfl, mt⟩
    · skip
      refine g_aload_n rfl rfl ?_
      refine g_iload_n rfl rfl ?_
      refine g_iload_n rfl rfl ?_
      refine g_callSI [aI 1] [aI b, aO (some o)] rfl rfl rfl rfl (Nat.le_of_ble_eq_true rfl) (m_wants1 (by omega) _) ?_
      rintro _ _ ⟨rfl, rfl⟩
      refine g_bipush rfl ?_
      refine g_iremN (m := 10) (n := 0) rfl (by omega) ?_
      refine g_top (v2 := aI 0) (congrArg aI (by rfl)) ?_
      refine g_callVI [aI b, aI 0] [] rfl rfl rfl rfl (Nat.le_of_ble_eq_true rfl) ms.1 (m_fits (by omega) ms V0 ok mt b 0 (by omega)) ?_
      rintro r4 _ ⟨rfl, e5⟩
      rw [e5]
      clear e5 r4
      refine g_b_ne rfl (fun c49 => ?_) (fun c49 => ?_)
      · skip
        refine g_iload_n rfl rfl ?_
        refine g_if_ne_t rfl (by omega) ?_
        have ha : 0 ≤ a ∧ a < sT S := by omega
        have hb : 0 ≤ b ∧ b < sT S := by omega
        refine g_aload_n rfl rfl ?_
        refine g_aload_n rfl rfl ?_
        refine g_getR rfl ms.1 (mr_one ms) ?_
        refine g_iload_n rfl rfl ?_
        refine g_callVN [aO (some (o + 24)), aI a] [] rfl rfl rfl rfl (Nat.le_of_ble_eq_true rfl) ms.1 (m_load (by omega) ms V0 ok mt (by have := G0.2.2.1; omega) ((o + 24)) (show SLa o ((o + 24)) by unfold SLa; omega) a ha) ?_
        rintro _ ⟨V6, rfl, g6, t6, u6, v6, y6, s6, xt6, xu6, xv6, xy6⟩
        have G_7 := G0.trans (g6.wide (fun q hq => by have hq : q = o + 24 := hq; show q = o + 24 ∨ q = o + 25; omega))
        refine g_aload_n rfl rfl ?_
        refine g_aload_n rfl rfl ?_
        refine g_getR rfl ms.1 (mr_two ms) ?_
        refine g_iload_n rfl rfl ?_
        refine g_callVN [aO (some (o + 25)), aI b] [] rfl rfl rfl rfl (Nat.le_of_ble_eq_true rfl) ms.1 (m_load (by omega) ms V6 ok (g6.mt (show ¬((o + 4) = o + 24) by omega) (show ¬((o + 5) = o + 24) by omega) mt) (by have := G_7.2.2.1; omega) ((o + 25)) (show SLa o ((o + 25)) by unfold SLa; omega) b hb) ?_
        rintro _ ⟨V8, rfl, g8, t8, u8, v8, y8, s8, xt8, xu8, xv8, xy8⟩
        have G_9 := G_7.trans (g8.wide (fun q hq => by have hq : q = o + 25 := hq; show q = o + 24 ∨ q = o + 25; omega))
        refine g_iload_n rfl rfl ?_
        refine g_bipush rfl ?_
        refine g_icmp_ge_f rfl (by omega) ?_
        refine g_aload_n rfl rfl ?_
        refine g_iload_n rfl rfl ?_
        refine g_iload_n rfl rfl ?_
        refine g_iload_n rfl rfl ?_
        refine g_callVI [aI 1, aI a, aI b] [] rfl rfl rfl rfl (Nat.le_of_ble_eq_true rfl) ms.1 (m_simple1 (by omega) ms V8 ok (g8.mt (show ¬((o + 4) = o + 25) by omega) (show ¬((o + 5) = o + 25) by omega) (g6.mt (show ¬((o + 4) = o + 24) by omega) (show ¬((o + 5) = o + 24) by omega) mt)) (by have := G_9.2.2.1; omega) a ha b hb (show SB V8 o (o + 24) (tpR S a) (20) from ⟨_, _, _, _, (g8.sa (show SLa o ((o + 24)) by unfold SLa; omega) (show ¬(o + 24 = o + 25) by omega) s6), ((g8.rb xt6).up (by omega)), ((g8.rb xu6).up (by omega)), ((g8.rb xv6).up (by omega)), ((g8.rb xy6).up (by omega))⟩) (show SB V8 o (o + 25) (tpR S b) (20) from ⟨_, _, _, _, s8, (xt8.up (by omega)), (xu8.up (by omega)), (xv8.up (by omega)), (xy8.up (by omega))⟩)) ?_
        rintro r10 _ ⟨V10, rfl, k10, e10, m10⟩
        refine g_iret rfl ?_
        have es : stepM S 0 0 1 a b (m_s1_O S a b) = keepM S 1 (m_s1_O S a b) := by unfold stepM; rw [if_pos (by unfold isS; omega)]
        rw [es]
        exact ⟨_, rfl, (Gs.km (G_9.wide (fun q hq => by have hq : q = o + 24 ∨ q = o + 25 := hq; show o + 24 ≤ q ∧ q ≤ o + 31; omega)) k10 (T := fun q => o + 24 ≤ q ∧ q ≤ o + 31) (fun q hq => by omega)).fr (fun q hq => hq) eV0, e10, m10⟩
      · skip
        refine g_iconst rfl ?_
        refine g_iret rfl ?_
        have es : stepM S 0 0 1 a b (m_s1_O S a b) = (-1, S) := by unfold stepM; rw [if_neg (by unfold isS; omega)]
        rw [es]
        exact ⟨V0, rfl, (KM.of (G0.wide (fun q hq => by have hq : q = o + 24 ∨ q = o + 25 := hq; show o + 24 ≤ q ∧ q ≤ o + 31; omega))).fr (T := fun q => o + 24 ≤ q ∧ q ≤ o + 31) (fun q hq => hq) eV0, rfl, mt⟩
set_option maxHeartbeats 4000000 in
theorem m_step2 {w : aW} {d : Nat} (hd : 10 ≤ d) {h : aH} {o : Nat} (ms : MS h o) (V : Nat → Nat → Int) {S : aS} (ok : OkT S) (mt : MT V o S) (a b : Int) : WP w d 307 [aO (some o), aI 2, aI a, aI b] (hw h V) (RI (fun r h1 => ∃ V1, h1 = hw h V1 ∧ FR V V1 o ∧ r = (stepM S 1 1 0 a b (m_s1_O S a b)).1 ∧ MT V1 o (stepM S 1 1 0 a b (m_s1_O S a b)).2)) := by
  obtain ⟨d, rfl⟩ : ∃ d1, d = d1 + 1 := ⟨d - 1, by omega⟩
  refine WP.enter (cd := cd_X12_step) rfl ?_
  have hn := ok.1
  have hls : largs 0 [aO (some o), aI 2, aI a, aI b] = [(0, aO (some o)), (1, aI 2), (2, aI a), (3, aI b)] := rfl
  rw [hls]
  clear hls
  refine g_aload_n rfl rfl ?_
  refine g_iconst rfl ?_
  refine g_putI rfl ms.1 ?_
  refine g_hp (h2 := hw h (vset V o 31 0)) rfl ?_
  refine g_aload_n rfl rfl ?_
  refine g_iconst rfl ?_
  refine g_putI rfl ms.1 ?_
  obtain ⟨V0, eV0⟩ : ∃ W, W = vset (vset V o 31 0) o 1 0 := ⟨_, rfl⟩
  refine g_hp (h2 := hw h V0) (by rw [eV0]; rfl) ?_
  have mt : MT V0 o S := by rw [eV0]; exact mt.rs
  have f0 : V0 o 1 = 0 := by rw [eV0]; exact vset_eq _ _ _ _
  have G0 := Gs.refl V0 o (fun q => q = o + 24 ∨ q = o + 25)
  refine g_iload_n rfl rfl ?_
  refine g_i2l rfl ?_
  refine g_lconst0 rfl ?_
  refine g_ldc2 rfl ?_
  refine g_callSI [aJ 2, aJ 0, aJ 19] [] rfl rfl rfl rfl (Nat.le_of_ble_eq_true rfl) (c_in (by omega) _ _ _ _) ?_
  rintro r1 _ ⟨rfl, rfl⟩
  refine g_b_eq rfl (fun c19 => ?_) (fun c19 => ?_)
  · skip
    refine g_iconst rfl ?_
    refine g_iret rfl ?_
    have es : stepM S 1 1 0 a b (m_s1_O S a b) = (-1, S) := by unfold stepM; rw [if_neg (by unfold isS; omega)]
    rw [es]
    exact ⟨V0, rfl, (KM.of (G0.wide (fun q hq => by have hq : q = o + 24 ∨ q = o + 25 := hq; show o + 24 ≤ q ∧ q ≤ o + 31; omega))).fr (T := fun q => o + 24 ≤ q ∧ q ≤ o + 31) (fun q hq => hq) eV0, rfl, mt⟩
  · skip
    refine g_aload_n rfl rfl ?_
    refine g_iload_n rfl rfl ?_
    refine g_iload_n rfl rfl ?_
    refine g_callSI [aI 2] [aI a, aO (some o)] rfl rfl rfl rfl (Nat.le_of_ble_eq_true rfl) (m_wants2 (by omega) _) ?_
    rintro _ _ ⟨rfl, rfl⟩
    refine g_bipush rfl ?_
    refine g_idivN (m := 10) (n := 11) rfl (by omega) (by omega) ?_
    refine g_top (v2 := aI 1) (congrArg aI (by rfl)) ?_
    refine g_callVI [aI a, aI 1] [] rfl rfl rfl rfl (Nat.le_of_ble_eq_true rfl) ms.1 (m_fits (by omega) ms V0 ok mt a 1 (by omega)) ?_
    rintro r2 _ ⟨rfl, e3⟩
    rw [e3]
    clear e3 r2
    refine g_b_eq rfl (fun c34 => ?_) (fun c34 => ?_)
    · skip
      refine g_iconst rfl ?_
      refine g_iret rfl ?_
      have es : stepM S 1 1 0 a b (m_s1_O S a b) = (-1, S) := by unfold stepM; rw [if_neg (by unfold isS; omega)]
      rw [es]
      exact ⟨V0, rfl, (KM.of (G0.wide (fun q hq => by have hq : q = o + 24 ∨ q = o + 25 := hq; show o + 24 ≤ q ∧ q ≤ o + 31; omega))).fr (T := fun q => o + 24 ≤ q ∧ q ≤ o + 31) (fun q hq => hq) eV0, rfl, mt⟩
    · skip
      refine g_aload_n rfl rfl ?_
      refine g_iload_n rfl rfl ?_
      refine g_iload_n rfl rfl ?_
      refine g_callSI [aI 2] [aI b, aO (some o)] rfl rfl rfl rfl (Nat.le_of_ble_eq_true rfl) (m_wants2 (by omega) _) ?_
      rintro _ _ ⟨rfl, rfl⟩
      refine g_bipush rfl ?_
      refine g_iremN (m := 10) (n := 11) rfl (by omega) ?_
      refine g_top (v2 := aI 1) (congrArg aI (by rfl)) ?_
      refine g_callVI [aI b, aI 1] [] rfl rfl rfl rfl (Nat.le_of_ble_eq_true rfl) ms.1 (m_fits (by omega) ms V0 ok mt b 1 (by omega)) ?_
      rintro r4 _ ⟨rfl, e5⟩
      rw [e5]
      clear e5 r4
      refine g_b_ne rfl (fun c49 => ?_) (fun c49 => ?_)
      · skip
        refine g_iload_n rfl rfl ?_
        refine g_if_ne_t rfl (by omega) ?_
        have ha : 0 ≤ a ∧ a < sT S := by omega
        have hb : 0 ≤ b ∧ b < sT S := by omega
        refine g_aload_n rfl rfl ?_
        refine g_aload_n rfl rfl ?_
        refine g_getR rfl ms.1 (mr_one ms) ?_
        refine g_iload_n rfl rfl ?_
        refine g_callVN [aO (some (o + 24)), aI a] [] rfl rfl rfl rfl (Nat.le_of_ble_eq_true rfl) ms.1 (m_load (by omega) ms V0 ok mt (by have := G0.2.2.1; omega) ((o + 24)) (show SLa o ((o + 24)) by unfold SLa; omega) a ha) ?_
        rintro _ ⟨V6, rfl, g6, t6, u6, v6, y6, s6, xt6, xu6, xv6, xy6⟩
        have G_7 := G0.trans (g6.wide (fun q hq => by have hq : q = o + 24 := hq; show q = o + 24 ∨ q = o + 25; omega))
        refine g_aload_n rfl rfl ?_
        refine g_aload_n rfl rfl ?_
        refine g_getR rfl ms.1 (mr_two ms) ?_
        refine g_iload_n rfl rfl ?_
        refine g_callVN [aO (some (o + 25)), aI b] [] rfl rfl rfl rfl (Nat.le_of_ble_eq_true rfl) ms.1 (m_load (by omega) ms V6 ok (g6.mt (show ¬((o + 4) = o + 24) by omega) (show ¬((o + 5) = o + 24) by omega) mt) (by have := G_7.2.2.1; omega) ((o + 25)) (show SLa o ((o + 25)) by unfold SLa; omega) b hb) ?_
        rintro _ ⟨V8, rfl, g8, t8, u8, v8, y8, s8, xt8, xu8, xv8, xy8⟩
        have G_9 := G_7.trans (g8.wide (fun q hq => by have hq : q = o + 25 := hq; show q = o + 24 ∨ q = o + 25; omega))
        refine g_iload_n rfl rfl ?_
        refine g_bipush rfl ?_
        refine g_icmp_ge_f rfl (by omega) ?_
        refine g_aload_n rfl rfl ?_
        refine g_iload_n rfl rfl ?_
        refine g_iload_n rfl rfl ?_
        refine g_iload_n rfl rfl ?_
        refine g_callVI [aI 2, aI a, aI b] [] rfl rfl rfl rfl (Nat.le_of_ble_eq_true rfl) ms.1 (m_simple2 (by omega) ms V8 ok (g8.mt (show ¬((o + 4) = o + 25) by omega) (show ¬((o + 5) = o + 25) by omega) (g6.mt (show ¬((o + 4) = o + 24) by omega) (show ¬((o + 5) = o + 24) by omega) mt)) (by have := G_9.2.2.1; omega) a ha b hb (show SB V8 o (o + 24) (tpR S a) (20) from ⟨_, _, _, _, (g8.sa (show SLa o ((o + 24)) by unfold SLa; omega) (show ¬(o + 24 = o + 25) by omega) s6), ((g8.rb xt6).up (by omega)), ((g8.rb xu6).up (by omega)), ((g8.rb xv6).up (by omega)), ((g8.rb xy6).up (by omega))⟩) (show SB V8 o (o + 25) (tpR S b) (20) from ⟨_, _, _, _, s8, (xt8.up (by omega)), (xu8.up (by omega)), (xv8.up (by omega)), (xy8.up (by omega))⟩)) ?_
        rintro r10 _ ⟨V10, rfl, k10, e10, m10⟩
        refine g_iret rfl ?_
        have es : stepM S 1 1 0 a b (m_s1_O S a b) = keepM S 0 (m_s1_O S a b) := by unfold stepM; rw [if_pos (by unfold isS; omega)]
        rw [es]
        exact ⟨_, rfl, (Gs.km (G_9.wide (fun q hq => by have hq : q = o + 24 ∨ q = o + 25 := hq; show o + 24 ≤ q ∧ q ≤ o + 31; omega)) k10 (T := fun q => o + 24 ≤ q ∧ q ≤ o + 31) (fun q hq => by omega)).fr (fun q hq => hq) eV0, e10, m10⟩
      · skip
        refine g_iconst rfl ?_
        refine g_iret rfl ?_
        have es : stepM S 1 1 0 a b (m_s1_O S a b) = (-1, S) := by unfold stepM; rw [if_neg (by unfold isS; omega)]
        rw [es]
        exact ⟨V0, rfl, (KM.of (G0.wide (fun q hq => by have hq : q = o + 24 ∨ q = o + 25 := hq; show o + 24 ≤ q ∧ q ≤ o + 31; omega))).fr (T := fun q => o + 24 ≤ q ∧ q ≤ o + 31) (fun q hq => hq) eV0, rfl, mt⟩
set_option maxHeartbeats 4000000 in
theorem m_step3 {w : aW} {d : Nat} (hd : 10 ≤ d) {h : aH} {o : Nat} (ms : MS h o) (V : Nat → Nat → Int) {S : aS} (ok : OkT S) (mt : MT V o S) (a b : Int) : WP w d 307 [aO (some o), aI 3, aI a, aI b] (hw h V) (RI (fun r h1 => ∃ V1, h1 = hw h V1 ∧ FR V V1 o ∧ r = (stepM S 0 0 0 a b (m_s3_O S a b)).1 ∧ MT V1 o (stepM S 0 0 0 a b (m_s3_O S a b)).2)) := by
  obtain ⟨d, rfl⟩ : ∃ d1, d = d1 + 1 := ⟨d - 1, by omega⟩
  refine WP.enter (cd := cd_X12_step) rfl ?_
  have hn := ok.1
  have hls : largs 0 [aO (some o), aI 3, aI a, aI b] = [(0, aO (some o)), (1, aI 3), (2, aI a), (3, aI b)] := rfl
  rw [hls]
  clear hls
  refine g_aload_n rfl rfl ?_
  refine g_iconst rfl ?_
  refine g_putI rfl ms.1 ?_
  refine g_hp (h2 := hw h (vset V o 31 0)) rfl ?_
  refine g_aload_n rfl rfl ?_
  refine g_iconst rfl ?_
  refine g_putI rfl ms.1 ?_
  obtain ⟨V0, eV0⟩ : ∃ W, W = vset (vset V o 31 0) o 1 0 := ⟨_, rfl⟩
  refine g_hp (h2 := hw h V0) (by rw [eV0]; rfl) ?_
  have mt : MT V0 o S := by rw [eV0]; exact mt.rs
  have f0 : V0 o 1 = 0 := by rw [eV0]; exact vset_eq _ _ _ _
  have G0 := Gs.refl V0 o (fun q => q = o + 24 ∨ q = o + 25)
  refine g_iload_n rfl rfl ?_
  refine g_i2l rfl ?_
  refine g_lconst0 rfl ?_
  refine g_ldc2 rfl ?_
  refine g_callSI [aJ 3, aJ 0, aJ 19] [] rfl rfl rfl rfl (Nat.le_of_ble_eq_true rfl) (c_in (by omega) _ _ _ _) ?_
  rintro r1 _ ⟨rfl, rfl⟩
  refine g_b_eq rfl (fun c19 => ?_) (fun c19 => ?_)
  · skip
    refine g_iconst rfl ?_
    refine g_iret rfl ?_
    have es : stepM S 0 0 0 a b (m_s3_O S a b) = (-1, S) := by unfold stepM; rw [if_neg (by unfold isS; omega)]
    rw [es]
    exact ⟨V0, rfl, (KM.of (G0.wide (fun q hq => by have hq : q = o + 24 ∨ q = o + 25 := hq; show o + 24 ≤ q ∧ q ≤ o + 31; omega))).fr (T := fun q => o + 24 ≤ q ∧ q ≤ o + 31) (fun q hq => hq) eV0, rfl, mt⟩
  · skip
    refine g_aload_n rfl rfl ?_
    refine g_iload_n rfl rfl ?_
    refine g_iload_n rfl rfl ?_
    refine g_callSI [aI 3] [aI a, aO (some o)] rfl rfl rfl rfl (Nat.le_of_ble_eq_true rfl) (m_wants3 (by omega) _) ?_
    rintro _ _ ⟨rfl, rfl⟩
    refine g_bipush rfl ?_
    refine g_idivN (m := 10) (n := 0) rfl (by omega) (by omega) ?_
    refine g_top (v2 := aI 0) (congrArg aI (by rfl)) ?_
    refine g_callVI [aI a, aI 0] [] rfl rfl rfl rfl (Nat.le_of_ble_eq_true rfl) ms.1 (m_fits (by omega) ms V0 ok mt a 0 (by omega)) ?_
    rintro r2 _ ⟨rfl, e3⟩
    rw [e3]
    clear e3 r2
    refine g_b_eq rfl (fun c34 => ?_) (fun c34 => ?_)
    · skip
      refine g_iconst rfl ?_
      refine g_iret rfl ?_
      have es : stepM S 0 0 0 a b (m_s3_O S a b) = (-1, S) := by unfold stepM; rw [if_neg (by unfold isS; omega)]
      rw [es]
      exact ⟨V0, rfl, (KM.of (G0.wide (fun q hq => by have hq : q = o + 24 ∨ q = o + 25 := hq; show o + 24 ≤ q ∧ q ≤ o + 31; omega))).fr (T := fun q => o + 24 ≤ q ∧ q ≤ o + 31) (fun q hq => hq) eV0, rfl, mt⟩
    · skip
      refine g_aload_n rfl rfl ?_
      refine g_iload_n rfl rfl ?_
      refine g_iload_n rfl rfl ?_
      refine g_callSI [aI 3] [aI b, aO (some o)] rfl rfl rfl rfl (Nat.le_of_ble_eq_true rfl) (m_wants3 (by omega) _) ?_
      rintro _ _ ⟨rfl, rfl⟩
      refine g_bipush rfl ?_
      refine g_iremN (m := 10) (n := 0) rfl (by omega) ?_
      refine g_top (v2 := aI 0) (congrArg aI (by rfl)) ?_
      refine g_callVI [aI b, aI 0] [] rfl rfl rfl rfl (Nat.le_of_ble_eq_true rfl) ms.1 (m_fits (by omega) ms V0 ok mt b 0 (by omega)) ?_
      rintro r4 _ ⟨rfl, e5⟩
      rw [e5]
      clear e5 r4
      refine g_b_ne rfl (fun c49 => ?_) (fun c49 => ?_)
      · skip
        refine g_iload_n rfl rfl ?_
        refine g_if_ne_t rfl (by omega) ?_
        have ha : 0 ≤ a ∧ a < sT S := by omega
        have hb : 0 ≤ b ∧ b < sT S := by omega
        refine g_aload_n rfl rfl ?_
        refine g_aload_n rfl rfl ?_
        refine g_getR rfl ms.1 (mr_one ms) ?_
        refine g_iload_n rfl rfl ?_
        refine g_callVN [aO (some (o + 24)), aI a] [] rfl rfl rfl rfl (Nat.le_of_ble_eq_true rfl) ms.1 (m_load (by omega) ms V0 ok mt (by have := G0.2.2.1; omega) ((o + 24)) (show SLa o ((o + 24)) by unfold SLa; omega) a ha) ?_
        rintro _ ⟨V6, rfl, g6, t6, u6, v6, y6, s6, xt6, xu6, xv6, xy6⟩
        have G_7 := G0.trans (g6.wide (fun q hq => by have hq : q = o + 24 := hq; show q = o + 24 ∨ q = o + 25; omega))
        refine g_aload_n rfl rfl ?_
        refine g_aload_n rfl rfl ?_
        refine g_getR rfl ms.1 (mr_two ms) ?_
        refine g_iload_n rfl rfl ?_
        refine g_callVN [aO (some (o + 25)), aI b] [] rfl rfl rfl rfl (Nat.le_of_ble_eq_true rfl) ms.1 (m_load (by omega) ms V6 ok (g6.mt (show ¬((o + 4) = o + 24) by omega) (show ¬((o + 5) = o + 24) by omega) mt) (by have := G_7.2.2.1; omega) ((o + 25)) (show SLa o ((o + 25)) by unfold SLa; omega) b hb) ?_
        rintro _ ⟨V8, rfl, g8, t8, u8, v8, y8, s8, xt8, xu8, xv8, xy8⟩
        have G_9 := G_7.trans (g8.wide (fun q hq => by have hq : q = o + 25 := hq; show q = o + 24 ∨ q = o + 25; omega))
        refine g_iload_n rfl rfl ?_
        refine g_bipush rfl ?_
        refine g_icmp_ge_f rfl (by omega) ?_
        refine g_aload_n rfl rfl ?_
        refine g_iload_n rfl rfl ?_
        refine g_iload_n rfl rfl ?_
        refine g_iload_n rfl rfl ?_
        refine g_callVI [aI 3, aI a, aI b] [] rfl rfl rfl rfl (Nat.le_of_ble_eq_true rfl) ms.1 (m_simple3 (by omega) ms V8 ok (g8.mt (show ¬((o + 4) = o + 25) by omega) (show ¬((o + 5) = o + 25) by omega) (g6.mt (show ¬((o + 4) = o + 24) by omega) (show ¬((o + 5) = o + 24) by omega) mt)) (by have := G_9.2.2.1; omega) a ha b hb (show SB V8 o (o + 24) (tpR S a) (20) from ⟨_, _, _, _, (g8.sa (show SLa o ((o + 24)) by unfold SLa; omega) (show ¬(o + 24 = o + 25) by omega) s6), ((g8.rb xt6).up (by omega)), ((g8.rb xu6).up (by omega)), ((g8.rb xv6).up (by omega)), ((g8.rb xy6).up (by omega))⟩) (show SB V8 o (o + 25) (tpR S b) (20) from ⟨_, _, _, _, s8, (xt8.up (by omega)), (xu8.up (by omega)), (xv8.up (by omega)), (xy8.up (by omega))⟩)) ?_
        rintro r10 _ ⟨V10, rfl, k10, e10, m10⟩
        refine g_iret rfl ?_
        have es : stepM S 0 0 0 a b (m_s3_O S a b) = keepM S 0 (m_s3_O S a b) := by unfold stepM; rw [if_pos (by unfold isS; omega)]
        rw [es]
        exact ⟨_, rfl, (Gs.km (G_9.wide (fun q hq => by have hq : q = o + 24 ∨ q = o + 25 := hq; show o + 24 ≤ q ∧ q ≤ o + 31; omega)) k10 (T := fun q => o + 24 ≤ q ∧ q ≤ o + 31) (fun q hq => by omega)).fr (fun q hq => hq) eV0, e10, m10⟩
      · skip
        refine g_iconst rfl ?_
        refine g_iret rfl ?_
        have es : stepM S 0 0 0 a b (m_s3_O S a b) = (-1, S) := by unfold stepM; rw [if_neg (by unfold isS; omega)]
        rw [es]
        exact ⟨V0, rfl, (KM.of (G0.wide (fun q hq => by have hq : q = o + 24 ∨ q = o + 25 := hq; show o + 24 ≤ q ∧ q ≤ o + 31; omega))).fr (T := fun q => o + 24 ≤ q ∧ q ≤ o + 31) (fun q hq => hq) eV0, rfl, mt⟩
set_option maxHeartbeats 4000000 in
theorem m_step4 {w : aW} {d : Nat} (hd : 10 ≤ d) {h : aH} {o : Nat} (ms : MS h o) (V : Nat → Nat → Int) {S : aS} (ok : OkT S) (mt : MT V o S) (a b : Int) : WP w d 307 [aO (some o), aI 4, aI a, aI b] (hw h V) (RI (fun r h1 => ∃ V1, h1 = hw h V1 ∧ FR V V1 o ∧ r = (stepM S 0 1 0 a b (m_s4_O S a b)).1 ∧ MT V1 o (stepM S 0 1 0 a b (m_s4_O S a b)).2)) := by
  obtain ⟨d, rfl⟩ : ∃ d1, d = d1 + 1 := ⟨d - 1, by omega⟩
  refine WP.enter (cd := cd_X12_step) rfl ?_
  have hn := ok.1
  have hls : largs 0 [aO (some o), aI 4, aI a, aI b] = [(0, aO (some o)), (1, aI 4), (2, aI a), (3, aI b)] := rfl
  rw [hls]
  clear hls
  refine g_aload_n rfl rfl ?_
  refine g_iconst rfl ?_
  refine g_putI rfl ms.1 ?_
  refine g_hp (h2 := hw h (vset V o 31 0)) rfl ?_
  refine g_aload_n rfl rfl ?_
  refine g_iconst rfl ?_
  refine g_putI rfl ms.1 ?_
  obtain ⟨V0, eV0⟩ : ∃ W, W = vset (vset V o 31 0) o 1 0 := ⟨_, rfl⟩
  refine g_hp (h2 := hw h V0) (by rw [eV0]; rfl) ?_
  have mt : MT V0 o S := by rw [eV0]; exact mt.rs
  have f0 : V0 o 1 = 0 := by rw [eV0]; exact vset_eq _ _ _ _
  have G0 := Gs.refl V0 o (fun q => q = o + 24 ∨ q = o + 25)
  refine g_iload_n rfl rfl ?_
  refine g_i2l rfl ?_
  refine g_lconst0 rfl ?_
  refine g_ldc2 rfl ?_
  refine g_callSI [aJ 4, aJ 0, aJ 19] [] rfl rfl rfl rfl (Nat.le_of_ble_eq_true rfl) (c_in (by omega) _ _ _ _) ?_
  rintro r1 _ ⟨rfl, rfl⟩
  refine g_b_eq rfl (fun c19 => ?_) (fun c19 => ?_)
  · skip
    refine g_iconst rfl ?_
    refine g_iret rfl ?_
    have es : stepM S 0 1 0 a b (m_s4_O S a b) = (-1, S) := by unfold stepM; rw [if_neg (by unfold isS; omega)]
    rw [es]
    exact ⟨V0, rfl, (KM.of (G0.wide (fun q hq => by have hq : q = o + 24 ∨ q = o + 25 := hq; show o + 24 ≤ q ∧ q ≤ o + 31; omega))).fr (T := fun q => o + 24 ≤ q ∧ q ≤ o + 31) (fun q hq => hq) eV0, rfl, mt⟩
  · skip
    refine g_aload_n rfl rfl ?_
    refine g_iload_n rfl rfl ?_
    refine g_iload_n rfl rfl ?_
    refine g_callSI [aI 4] [aI a, aO (some o)] rfl rfl rfl rfl (Nat.le_of_ble_eq_true rfl) (m_wants4 (by omega) _) ?_
    rintro _ _ ⟨rfl, rfl⟩
    refine g_bipush rfl ?_
    refine g_idivN (m := 10) (n := 1) rfl (by omega) (by omega) ?_
    refine g_top (v2 := aI 0) (congrArg aI (by rfl)) ?_
    refine g_callVI [aI a, aI 0] [] rfl rfl rfl rfl (Nat.le_of_ble_eq_true rfl) ms.1 (m_fits (by omega) ms V0 ok mt a 0 (by omega)) ?_
    rintro r2 _ ⟨rfl, e3⟩
    rw [e3]
    clear e3 r2
    refine g_b_eq rfl (fun c34 => ?_) (fun c34 => ?_)
    · skip
      refine g_iconst rfl ?_
      refine g_iret rfl ?_
      have es : stepM S 0 1 0 a b (m_s4_O S a b) = (-1, S) := by unfold stepM; rw [if_neg (by unfold isS; omega)]
      rw [es]
      exact ⟨V0, rfl, (KM.of (G0.wide (fun q hq => by have hq : q = o + 24 ∨ q = o + 25 := hq; show o + 24 ≤ q ∧ q ≤ o + 31; omega))).fr (T := fun q => o + 24 ≤ q ∧ q ≤ o + 31) (fun q hq => hq) eV0, rfl, mt⟩
    · skip
      refine g_aload_n rfl rfl ?_
      refine g_iload_n rfl rfl ?_
      refine g_iload_n rfl rfl ?_
      refine g_callSI [aI 4] [aI b, aO (some o)] rfl rfl rfl rfl (Nat.le_of_ble_eq_true rfl) (m_wants4 (by omega) _) ?_
      rintro _ _ ⟨rfl, rfl⟩
      refine g_bipush rfl ?_
      refine g_iremN (m := 10) (n := 1) rfl (by omega) ?_
      refine g_top (v2 := aI 1) (congrArg aI (by rfl)) ?_
      refine g_callVI [aI b, aI 1] [] rfl rfl rfl rfl (Nat.le_of_ble_eq_true rfl) ms.1 (m_fits (by omega) ms V0 ok mt b 1 (by omega)) ?_
      rintro r4 _ ⟨rfl, e5⟩
      rw [e5]
      clear e5 r4
      refine g_b_ne rfl (fun c49 => ?_) (fun c49 => ?_)
      · skip
        refine g_iload_n rfl rfl ?_
        refine g_if_ne_t rfl (by omega) ?_
        have ha : 0 ≤ a ∧ a < sT S := by omega
        have hb : 0 ≤ b ∧ b < sT S := by omega
        refine g_aload_n rfl rfl ?_
        refine g_aload_n rfl rfl ?_
        refine g_getR rfl ms.1 (mr_one ms) ?_
        refine g_iload_n rfl rfl ?_
        refine g_callVN [aO (some (o + 24)), aI a] [] rfl rfl rfl rfl (Nat.le_of_ble_eq_true rfl) ms.1 (m_load (by omega) ms V0 ok mt (by have := G0.2.2.1; omega) ((o + 24)) (show SLa o ((o + 24)) by unfold SLa; omega) a ha) ?_
        rintro _ ⟨V6, rfl, g6, t6, u6, v6, y6, s6, xt6, xu6, xv6, xy6⟩
        have G_7 := G0.trans (g6.wide (fun q hq => by have hq : q = o + 24 := hq; show q = o + 24 ∨ q = o + 25; omega))
        refine g_aload_n rfl rfl ?_
        refine g_aload_n rfl rfl ?_
        refine g_getR rfl ms.1 (mr_two ms) ?_
        refine g_iload_n rfl rfl ?_
        refine g_callVN [aO (some (o + 25)), aI b] [] rfl rfl rfl rfl (Nat.le_of_ble_eq_true rfl) ms.1 (m_load (by omega) ms V6 ok (g6.mt (show ¬((o + 4) = o + 24) by omega) (show ¬((o + 5) = o + 24) by omega) mt) (by have := G_7.2.2.1; omega) ((o + 25)) (show SLa o ((o + 25)) by unfold SLa; omega) b hb) ?_
        rintro _ ⟨V8, rfl, g8, t8, u8, v8, y8, s8, xt8, xu8, xv8, xy8⟩
        have G_9 := G_7.trans (g8.wide (fun q hq => by have hq : q = o + 25 := hq; show q = o + 24 ∨ q = o + 25; omega))
        refine g_iload_n rfl rfl ?_
        refine g_bipush rfl ?_
        refine g_icmp_ge_f rfl (by omega) ?_
        refine g_aload_n rfl rfl ?_
        refine g_iload_n rfl rfl ?_
        refine g_iload_n rfl rfl ?_
        refine g_iload_n rfl rfl ?_
        refine g_callVI [aI 4, aI a, aI b] [] rfl rfl rfl rfl (Nat.le_of_ble_eq_true rfl) ms.1 (m_simple4 (by omega) ms V8 ok (g8.mt (show ¬((o + 4) = o + 25) by omega) (show ¬((o + 5) = o + 25) by omega) (g6.mt (show ¬((o + 4) = o + 24) by omega) (show ¬((o + 5) = o + 24) by omega) mt)) (by have := G_9.2.2.1; omega) a ha b hb (show SB V8 o (o + 24) (tpR S a) (20) from ⟨_, _, _, _, (g8.sa (show SLa o ((o + 24)) by unfold SLa; omega) (show ¬(o + 24 = o + 25) by omega) s6), ((g8.rb xt6).up (by omega)), ((g8.rb xu6).up (by omega)), ((g8.rb xv6).up (by omega)), ((g8.rb xy6).up (by omega))⟩) (show SB V8 o (o + 25) (tpR S b) (20) from ⟨_, _, _, _, s8, (xt8.up (by omega)), (xu8.up (by omega)), (xv8.up (by omega)), (xy8.up (by omega))⟩)) ?_
        rintro r10 _ ⟨V10, rfl, k10, e10, m10⟩
        refine g_iret rfl ?_
        have es : stepM S 0 1 0 a b (m_s4_O S a b) = keepM S 0 (m_s4_O S a b) := by unfold stepM; rw [if_pos (by unfold isS; omega)]
        rw [es]
        exact ⟨_, rfl, (Gs.km (G_9.wide (fun q hq => by have hq : q = o + 24 ∨ q = o + 25 := hq; show o + 24 ≤ q ∧ q ≤ o + 31; omega)) k10 (T := fun q => o + 24 ≤ q ∧ q ≤ o + 31) (fun q hq => by omega)).fr (fun q hq => hq) eV0, e10, m10⟩
      · skip
        refine g_iconst rfl ?_
        refine g_iret rfl ?_
        have es : stepM S 0 1 0 a b (m_s4_O S a b) = (-1, S) := by unfold stepM; rw [if_neg (by unfold isS; omega)]
        rw [es]
        exact ⟨V0, rfl, (KM.of (G0.wide (fun q hq => by have hq : q = o + 24 ∨ q = o + 25 := hq; show o + 24 ≤ q ∧ q ≤ o + 31; omega))).fr (T := fun q => o + 24 ≤ q ∧ q ≤ o + 31) (fun q hq => hq) eV0, rfl, mt⟩
set_option maxHeartbeats 4000000 in
theorem m_step5 {w : aW} {d : Nat} (hd : 10 ≤ d) {h : aH} {o : Nat} (ms : MS h o) (V : Nat → Nat → Int) {S : aS} (ok : OkT S) (mt : MT V o S) (a b : Int) : WP w d 307 [aO (some o), aI 5, aI a, aI b] (hw h V) (RI (fun r h1 => ∃ V1, h1 = hw h V1 ∧ FR V V1 o ∧ r = (stepM S 0 1 1 a b (m_s5_O S a b)).1 ∧ MT V1 o (stepM S 0 1 1 a b (m_s5_O S a b)).2)) := by
  obtain ⟨d, rfl⟩ : ∃ d1, d = d1 + 1 := ⟨d - 1, by omega⟩
  refine WP.enter (cd := cd_X12_step) rfl ?_
  have hn := ok.1
  have hls : largs 0 [aO (some o), aI 5, aI a, aI b] = [(0, aO (some o)), (1, aI 5), (2, aI a), (3, aI b)] := rfl
  rw [hls]
  clear hls
  refine g_aload_n rfl rfl ?_
  refine g_iconst rfl ?_
  refine g_putI rfl ms.1 ?_
  refine g_hp (h2 := hw h (vset V o 31 0)) rfl ?_
  refine g_aload_n rfl rfl ?_
  refine g_iconst rfl ?_
  refine g_putI rfl ms.1 ?_
  obtain ⟨V0, eV0⟩ : ∃ W, W = vset (vset V o 31 0) o 1 0 := ⟨_, rfl⟩
  refine g_hp (h2 := hw h V0) (by rw [eV0]; rfl) ?_
  have mt : MT V0 o S := by rw [eV0]; exact mt.rs
  have f0 : V0 o 1 = 0 := by rw [eV0]; exact vset_eq _ _ _ _
  have G0 := Gs.refl V0 o (fun q => q = o + 24 ∨ q = o + 25)
  refine g_iload_n rfl rfl ?_
  refine g_i2l rfl ?_
  refine g_lconst0 rfl ?_
  refine g_ldc2 rfl ?_
  refine g_callSI [aJ 5, aJ 0, aJ 19] [] rfl rfl rfl rfl (Nat.le_of_ble_eq_true rfl) (c_in (by omega) _ _ _ _) ?_
  rintro r1 _ ⟨rfl, rfl⟩
  refine g_b_eq rfl (fun c19 => ?_) (fun c19 => ?_)
  · skip
    refine g_iconst rfl ?_
    refine g_iret rfl ?_
    have es : stepM S 0 1 1 a b (m_s5_O S a b) = (-1, S) := by unfold stepM; rw [if_neg (by unfold isS; omega)]
    rw [es]
    exact ⟨V0, rfl, (KM.of (G0.wide (fun q hq => by have hq : q = o + 24 ∨ q = o + 25 := hq; show o + 24 ≤ q ∧ q ≤ o + 31; omega))).fr (T := fun q => o + 24 ≤ q ∧ q ≤ o + 31) (fun q hq => hq) eV0, rfl, mt⟩
  · skip
    refine g_aload_n rfl rfl ?_
    refine g_iload_n rfl rfl ?_
    refine g_iload_n rfl rfl ?_
    refine g_callSI [aI 5] [aI a, aO (some o)] rfl rfl rfl rfl (Nat.le_of_ble_eq_true rfl) (m_wants5 (by omega) _) ?_
    rintro _ _ ⟨rfl, rfl⟩
    refine g_bipush rfl ?_
    refine g_idivN (m := 10) (n := 1) rfl (by omega) (by omega) ?_
    refine g_top (v2 := aI 0) (congrArg aI (by rfl)) ?_
    refine g_callVI [aI a, aI 0] [] rfl rfl rfl rfl (Nat.le_of_ble_eq_true rfl) ms.1 (m_fits (by omega) ms V0 ok mt a 0 (by omega)) ?_
    rintro r2 _ ⟨rfl, e3⟩
    rw [e3]
    clear e3 r2
    refine g_b_eq rfl (fun c34 => ?_) (fun c34 => ?_)
    · skip
      refine g_iconst rfl ?_
      refine g_iret rfl ?_
      have es : stepM S 0 1 1 a b (m_s5_O S a b) = (-1, S) := by unfold stepM; rw [if_neg (by unfold isS; omega)]
      rw [es]
      exact ⟨V0, rfl, (KM.of (G0.wide (fun q hq => by have hq : q = o + 24 ∨ q = o + 25 := hq; show o + 24 ≤ q ∧ q ≤ o + 31; omega))).fr (T := fun q => o + 24 ≤ q ∧ q ≤ o + 31) (fun q hq => hq) eV0, rfl, mt⟩
    · skip
      refine g_aload_n rfl rfl ?_
      refine g_iload_n rfl rfl ?_
      refine g_iload_n rfl rfl ?_
      refine g_callSI [aI 5] [aI b, aO (some o)] rfl rfl rfl rfl (Nat.le_of_ble_eq_true rfl) (m_wants5 (by omega) _) ?_
      rintro _ _ ⟨rfl, rfl⟩
      refine g_bipush rfl ?_
      refine g_iremN (m := 10) (n := 1) rfl (by omega) ?_
      refine g_top (v2 := aI 1) (congrArg aI (by rfl)) ?_
      refine g_callVI [aI b, aI 1] [] rfl rfl rfl rfl (Nat.le_of_ble_eq_true rfl) ms.1 (m_fits (by omega) ms V0 ok mt b 1 (by omega)) ?_
      rintro r4 _ ⟨rfl, e5⟩
      rw [e5]
      clear e5 r4
      refine g_b_ne rfl (fun c49 => ?_) (fun c49 => ?_)
      · skip
        refine g_iload_n rfl rfl ?_
        refine g_if_ne_t rfl (by omega) ?_
        have ha : 0 ≤ a ∧ a < sT S := by omega
        have hb : 0 ≤ b ∧ b < sT S := by omega
        refine g_aload_n rfl rfl ?_
        refine g_aload_n rfl rfl ?_
        refine g_getR rfl ms.1 (mr_one ms) ?_
        refine g_iload_n rfl rfl ?_
        refine g_callVN [aO (some (o + 24)), aI a] [] rfl rfl rfl rfl (Nat.le_of_ble_eq_true rfl) ms.1 (m_load (by omega) ms V0 ok mt (by have := G0.2.2.1; omega) ((o + 24)) (show SLa o ((o + 24)) by unfold SLa; omega) a ha) ?_
        rintro _ ⟨V6, rfl, g6, t6, u6, v6, y6, s6, xt6, xu6, xv6, xy6⟩
        have G_7 := G0.trans (g6.wide (fun q hq => by have hq : q = o + 24 := hq; show q = o + 24 ∨ q = o + 25; omega))
        refine g_aload_n rfl rfl ?_
        refine g_aload_n rfl rfl ?_
        refine g_getR rfl ms.1 (mr_two ms) ?_
        refine g_iload_n rfl rfl ?_
        refine g_callVN [aO (some (o + 25)), aI b] [] rfl rfl rfl rfl (Nat.le_of_ble_eq_true rfl) ms.1 (m_load (by omega) ms V6 ok (g6.mt (show ¬((o + 4) = o + 24) by omega) (show ¬((o + 5) = o + 24) by omega) mt) (by have := G_7.2.2.1; omega) ((o + 25)) (show SLa o ((o + 25)) by unfold SLa; omega) b hb) ?_
        rintro _ ⟨V8, rfl, g8, t8, u8, v8, y8, s8, xt8, xu8, xv8, xy8⟩
        have G_9 := G_7.trans (g8.wide (fun q hq => by have hq : q = o + 25 := hq; show q = o + 24 ∨ q = o + 25; omega))
        refine g_iload_n rfl rfl ?_
        refine g_bipush rfl ?_
        refine g_icmp_ge_f rfl (by omega) ?_
        refine g_aload_n rfl rfl ?_
        refine g_iload_n rfl rfl ?_
        refine g_iload_n rfl rfl ?_
        refine g_iload_n rfl rfl ?_
        refine g_callVI [aI 5, aI a, aI b] [] rfl rfl rfl rfl (Nat.le_of_ble_eq_true rfl) ms.1 (m_simple5 (by omega) ms V8 ok (g8.mt (show ¬((o + 4) = o + 25) by omega) (show ¬((o + 5) = o + 25) by omega) (g6.mt (show ¬((o + 4) = o + 24) by omega) (show ¬((o + 5) = o + 24) by omega) mt)) (by have := G_9.2.2.1; omega) a ha b hb (show SB V8 o (o + 24) (tpR S a) (20) from ⟨_, _, _, _, (g8.sa (show SLa o ((o + 24)) by unfold SLa; omega) (show ¬(o + 24 = o + 25) by omega) s6), ((g8.rb xt6).up (by omega)), ((g8.rb xu6).up (by omega)), ((g8.rb xv6).up (by omega)), ((g8.rb xy6).up (by omega))⟩) (show SB V8 o (o + 25) (tpR S b) (20) from ⟨_, _, _, _, s8, (xt8.up (by omega)), (xu8.up (by omega)), (xv8.up (by omega)), (xy8.up (by omega))⟩)) ?_
        rintro r10 _ ⟨V10, rfl, k10, e10, m10⟩
        refine g_iret rfl ?_
        have es : stepM S 0 1 1 a b (m_s5_O S a b) = keepM S 1 (m_s5_O S a b) := by unfold stepM; rw [if_pos (by unfold isS; omega)]
        rw [es]
        exact ⟨_, rfl, (Gs.km (G_9.wide (fun q hq => by have hq : q = o + 24 ∨ q = o + 25 := hq; show o + 24 ≤ q ∧ q ≤ o + 31; omega)) k10 (T := fun q => o + 24 ≤ q ∧ q ≤ o + 31) (fun q hq => by omega)).fr (fun q hq => hq) eV0, e10, m10⟩
      · skip
        refine g_iconst rfl ?_
        refine g_iret rfl ?_
        have es : stepM S 0 1 1 a b (m_s5_O S a b) = (-1, S) := by unfold stepM; rw [if_neg (by unfold isS; omega)]
        rw [es]
        exact ⟨V0, rfl, (KM.of (G0.wide (fun q hq => by have hq : q = o + 24 ∨ q = o + 25 := hq; show o + 24 ≤ q ∧ q ≤ o + 31; omega))).fr (T := fun q => o + 24 ≤ q ∧ q ≤ o + 31) (fun q hq => hq) eV0, rfl, mt⟩
set_option maxHeartbeats 4000000 in
theorem m_step6 {w : aW} {d : Nat} (hd : 10 ≤ d) {h : aH} {o : Nat} (ms : MS h o) (V : Nat → Nat → Int) {S : aS} (ok : OkT S) (mt : MT V o S) (a b : Int) : WP w d 307 [aO (some o), aI 6, aI a, aI b] (hw h V) (RI (fun r h1 => ∃ V1, h1 = hw h V1 ∧ FR V V1 o ∧ r = (stepM S 0 1 1 a b (m_s6_O S a b)).1 ∧ MT V1 o (stepM S 0 1 1 a b (m_s6_O S a b)).2)) := by
  obtain ⟨d, rfl⟩ : ∃ d1, d = d1 + 1 := ⟨d - 1, by omega⟩
  refine WP.enter (cd := cd_X12_step) rfl ?_
  have hn := ok.1
  have hls : largs 0 [aO (some o), aI 6, aI a, aI b] = [(0, aO (some o)), (1, aI 6), (2, aI a), (3, aI b)] := rfl
  rw [hls]
  clear hls
  refine g_aload_n rfl rfl ?_
  refine g_iconst rfl ?_
  refine g_putI rfl ms.1 ?_
  refine g_hp (h2 := hw h (vset V o 31 0)) rfl ?_
  refine g_aload_n rfl rfl ?_
  refine g_iconst rfl ?_
  refine g_putI rfl ms.1 ?_
  obtain ⟨V0, eV0⟩ : ∃ W, W = vset (vset V o 31 0) o 1 0 := ⟨_, rfl⟩
  refine g_hp (h2 := hw h V0) (by rw [eV0]; rfl) ?_
  have mt : MT V0 o S := by rw [eV0]; exact mt.rs
  have f0 : V0 o 1 = 0 := by rw [eV0]; exact vset_eq _ _ _ _
  have G0 := Gs.refl V0 o (fun q => q = o + 24 ∨ q = o + 25)
  refine g_iload_n rfl rfl ?_
  refine g_i2l rfl ?_
  refine g_lconst0 rfl ?_
  refine g_ldc2 rfl ?_
  refine g_callSI [aJ 6, aJ 0, aJ 19] [] rfl rfl rfl rfl (Nat.le_of_ble_eq_true rfl) (c_in (by omega) _ _ _ _) ?_
  rintro r1 _ ⟨rfl, rfl⟩
  refine g_b_eq rfl (fun c19 => ?_) (fun c19 => ?_)
  · skip
    refine g_iconst rfl ?_
    refine g_iret rfl ?_
    have es : stepM S 0 1 1 a b (m_s6_O S a b) = (-1, S) := by unfold stepM; rw [if_neg (by unfold isS; omega)]
    rw [es]
    exact ⟨V0, rfl, (KM.of (G0.wide (fun q hq => by have hq : q = o + 24 ∨ q = o + 25 := hq; show o + 24 ≤ q ∧ q ≤ o + 31; omega))).fr (T := fun q => o + 24 ≤ q ∧ q ≤ o + 31) (fun q hq => hq) eV0, rfl, mt⟩
  · skip
    refine g_aload_n rfl rfl ?_
    refine g_iload_n rfl rfl ?_
    refine g_iload_n rfl rfl ?_
    refine g_callSI [aI 6] [aI a, aO (some o)] rfl rfl rfl rfl (Nat.le_of_ble_eq_true rfl) (m_wants6 (by omega) _) ?_
    rintro _ _ ⟨rfl, rfl⟩
    refine g_bipush rfl ?_
    refine g_idivN (m := 10) (n := 1) rfl (by omega) (by omega) ?_
    refine g_top (v2 := aI 0) (congrArg aI (by rfl)) ?_
    refine g_callVI [aI a, aI 0] [] rfl rfl rfl rfl (Nat.le_of_ble_eq_true rfl) ms.1 (m_fits (by omega) ms V0 ok mt a 0 (by omega)) ?_
    rintro r2 _ ⟨rfl, e3⟩
    rw [e3]
    clear e3 r2
    refine g_b_eq rfl (fun c34 => ?_) (fun c34 => ?_)
    · skip
      refine g_iconst rfl ?_
      refine g_iret rfl ?_
      have es : stepM S 0 1 1 a b (m_s6_O S a b) = (-1, S) := by unfold stepM; rw [if_neg (by unfold isS; omega)]
      rw [es]
      exact ⟨V0, rfl, (KM.of (G0.wide (fun q hq => by have hq : q = o + 24 ∨ q = o + 25 := hq; show o + 24 ≤ q ∧ q ≤ o + 31; omega))).fr (T := fun q => o + 24 ≤ q ∧ q ≤ o + 31) (fun q hq => hq) eV0, rfl, mt⟩
    · skip
      refine g_aload_n rfl rfl ?_
      refine g_iload_n rfl rfl ?_
      refine g_iload_n rfl rfl ?_
      refine g_callSI [aI 6] [aI b, aO (some o)] rfl rfl rfl rfl (Nat.le_of_ble_eq_true rfl) (m_wants6 (by omega) _) ?_
      rintro _ _ ⟨rfl, rfl⟩
      refine g_bipush rfl ?_
      refine g_iremN (m := 10) (n := 1) rfl (by omega) ?_
      refine g_top (v2 := aI 1) (congrArg aI (by rfl)) ?_
      refine g_callVI [aI b, aI 1] [] rfl rfl rfl rfl (Nat.le_of_ble_eq_true rfl) ms.1 (m_fits (by omega) ms V0 ok mt b 1 (by omega)) ?_
      rintro r4 _ ⟨rfl, e5⟩
      rw [e5]
      clear e5 r4
      refine g_b_ne rfl (fun c49 => ?_) (fun c49 => ?_)
      · skip
        refine g_iload_n rfl rfl ?_
        refine g_if_ne_t rfl (by omega) ?_
        have ha : 0 ≤ a ∧ a < sT S := by omega
        have hb : 0 ≤ b ∧ b < sT S := by omega
        refine g_aload_n rfl rfl ?_
        refine g_aload_n rfl rfl ?_
        refine g_getR rfl ms.1 (mr_one ms) ?_
        refine g_iload_n rfl rfl ?_
        refine g_callVN [aO (some (o + 24)), aI a] [] rfl rfl rfl rfl (Nat.le_of_ble_eq_true rfl) ms.1 (m_load (by omega) ms V0 ok mt (by have := G0.2.2.1; omega) ((o + 24)) (show SLa o ((o + 24)) by unfold SLa; omega) a ha) ?_
        rintro _ ⟨V6, rfl, g6, t6, u6, v6, y6, s6, xt6, xu6, xv6, xy6⟩
        have G_7 := G0.trans (g6.wide (fun q hq => by have hq : q = o + 24 := hq; show q = o + 24 ∨ q = o + 25; omega))
        refine g_aload_n rfl rfl ?_
        refine g_aload_n rfl rfl ?_
        refine g_getR rfl ms.1 (mr_two ms) ?_
        refine g_iload_n rfl rfl ?_
        refine g_callVN [aO (some (o + 25)), aI b] [] rfl rfl rfl rfl (Nat.le_of_ble_eq_true rfl) ms.1 (m_load (by omega) ms V6 ok (g6.mt (show ¬((o + 4) = o + 24) by omega) (show ¬((o + 5) = o + 24) by omega) mt) (by have := G_7.2.2.1; omega) ((o + 25)) (show SLa o ((o + 25)) by unfold SLa; omega) b hb) ?_
        rintro _ ⟨V8, rfl, g8, t8, u8, v8, y8, s8, xt8, xu8, xv8, xy8⟩
        have G_9 := G_7.trans (g8.wide (fun q hq => by have hq : q = o + 25 := hq; show q = o + 24 ∨ q = o + 25; omega))
        refine g_iload_n rfl rfl ?_
        refine g_bipush rfl ?_
        refine g_icmp_ge_f rfl (by omega) ?_
        refine g_aload_n rfl rfl ?_
        refine g_iload_n rfl rfl ?_
        refine g_iload_n rfl rfl ?_
        refine g_iload_n rfl rfl ?_
        refine g_callVI [aI 6, aI a, aI b] [] rfl rfl rfl rfl (Nat.le_of_ble_eq_true rfl) ms.1 (m_simple6 (by omega) ms V8 ok (g8.mt (show ¬((o + 4) = o + 25) by omega) (show ¬((o + 5) = o + 25) by omega) (g6.mt (show ¬((o + 4) = o + 24) by omega) (show ¬((o + 5) = o + 24) by omega) mt)) (by have := G_9.2.2.1; omega) a ha b hb (show SB V8 o (o + 24) (tpR S a) (20) from ⟨_, _, _, _, (g8.sa (show SLa o ((o + 24)) by unfold SLa; omega) (show ¬(o + 24 = o + 25) by omega) s6), ((g8.rb xt6).up (by omega)), ((g8.rb xu6).up (by omega)), ((g8.rb xv6).up (by omega)), ((g8.rb xy6).up (by omega))⟩) (show SB V8 o (o + 25) (tpR S b) (20) from ⟨_, _, _, _, s8, (xt8.up (by omega)), (xu8.up (by omega)), (xv8.up (by omega)), (xy8.up (by omega))⟩)) ?_
        rintro r10 _ ⟨V10, rfl, k10, e10, m10⟩
        refine g_iret rfl ?_
        have es : stepM S 0 1 1 a b (m_s6_O S a b) = keepM S 1 (m_s6_O S a b) := by unfold stepM; rw [if_pos (by unfold isS; omega)]
        rw [es]
        exact ⟨_, rfl, (Gs.km (G_9.wide (fun q hq => by have hq : q = o + 24 ∨ q = o + 25 := hq; show o + 24 ≤ q ∧ q ≤ o + 31; omega)) k10 (T := fun q => o + 24 ≤ q ∧ q ≤ o + 31) (fun q hq => by omega)).fr (fun q hq => hq) eV0, e10, m10⟩
      · skip
        refine g_iconst rfl ?_
        refine g_iret rfl ?_
        have es : stepM S 0 1 1 a b (m_s6_O S a b) = (-1, S) := by unfold stepM; rw [if_neg (by unfold isS; omega)]
        rw [es]
        exact ⟨V0, rfl, (KM.of (G0.wide (fun q hq => by have hq : q = o + 24 ∨ q = o + 25 := hq; show o + 24 ≤ q ∧ q ≤ o + 31; omega))).fr (T := fun q => o + 24 ≤ q ∧ q ≤ o + 31) (fun q hq => hq) eV0, rfl, mt⟩
set_option maxHeartbeats 4000000 in
theorem m_step7 {w : aW} {d : Nat} (hd : 10 ≤ d) {h : aH} {o : Nat} (ms : MS h o) (V : Nat → Nat → Int) {S : aS} (ok : OkT S) (mt : MT V o S) (a b : Int) : WP w d 307 [aO (some o), aI 7, aI a, aI b] (hw h V) (RI (fun r h1 => ∃ V1, h1 = hw h V1 ∧ FR V V1 o ∧ r = (stepM S 0 1 0 a b (m_s7_O S a b)).1 ∧ MT V1 o (stepM S 0 1 0 a b (m_s7_O S a b)).2)) := by
  obtain ⟨d, rfl⟩ : ∃ d1, d = d1 + 1 := ⟨d - 1, by omega⟩
  refine WP.enter (cd := cd_X12_step) rfl ?_
  have hn := ok.1
  have hls : largs 0 [aO (some o), aI 7, aI a, aI b] = [(0, aO (some o)), (1, aI 7), (2, aI a), (3, aI b)] := rfl
  rw [hls]
  clear hls
  refine g_aload_n rfl rfl ?_
  refine g_iconst rfl ?_
  refine g_putI rfl ms.1 ?_
  refine g_hp (h2 := hw h (vset V o 31 0)) rfl ?_
  refine g_aload_n rfl rfl ?_
  refine g_iconst rfl ?_
  refine g_putI rfl ms.1 ?_
  obtain ⟨V0, eV0⟩ : ∃ W, W = vset (vset V o 31 0) o 1 0 := ⟨_, rfl⟩
  refine g_hp (h2 := hw h V0) (by rw [eV0]; rfl) ?_
  have mt : MT V0 o S := by rw [eV0]; exact mt.rs
  have f0 : V0 o 1 = 0 := by rw [eV0]; exact vset_eq _ _ _ _
  have G0 := Gs.refl V0 o (fun q => q = o + 24 ∨ q = o + 25)
  refine g_iload_n rfl rfl ?_
  refine g_i2l rfl ?_
  refine g_lconst0 rfl ?_
  refine g_ldc2 rfl ?_
  refine g_callSI [aJ 7, aJ 0, aJ 19] [] rfl rfl rfl rfl (Nat.le_of_ble_eq_true rfl) (c_in (by omega) _ _ _ _) ?_
  rintro r1 _ ⟨rfl, rfl⟩
  refine g_b_eq rfl (fun c19 => ?_) (fun c19 => ?_)
  · skip
    refine g_iconst rfl ?_
    refine g_iret rfl ?_
    have es : stepM S 0 1 0 a b (m_s7_O S a b) = (-1, S) := by unfold stepM; rw [if_neg (by unfold isS; omega)]
    rw [es]
    exact ⟨V0, rfl, (KM.of (G0.wide (fun q hq => by have hq : q = o + 24 ∨ q = o + 25 := hq; show o + 24 ≤ q ∧ q ≤ o + 31; omega))).fr (T := fun q => o + 24 ≤ q ∧ q ≤ o + 31) (fun q hq => hq) eV0, rfl, mt⟩
  · skip
    refine g_aload_n rfl rfl ?_
    refine g_iload_n rfl rfl ?_
    refine g_iload_n rfl rfl ?_
    refine g_callSI [aI 7] [aI a, aO (some o)] rfl rfl rfl rfl (Nat.le_of_ble_eq_true rfl) (m_wants7 (by omega) _) ?_
    rintro _ _ ⟨rfl, rfl⟩
    refine g_bipush rfl ?_
    refine g_idivN (m := 10) (n := 1) rfl (by omega) (by omega) ?_
    refine g_top (v2 := aI 0) (congrArg aI (by rfl)) ?_
    refine g_callVI [aI a, aI 0] [] rfl rfl rfl rfl (Nat.le_of_ble_eq_true rfl) ms.1 (m_fits (by omega) ms V0 ok mt a 0 (by omega)) ?_
    rintro r2 _ ⟨rfl, e3⟩
    rw [e3]
    clear e3 r2
    refine g_b_eq rfl (fun c34 => ?_) (fun c34 => ?_)
    · skip
      refine g_iconst rfl ?_
      refine g_iret rfl ?_
      have es : stepM S 0 1 0 a b (m_s7_O S a b) = (-1, S) := by unfold stepM; rw [if_neg (by unfold isS; omega)]
      rw [es]
      exact ⟨V0, rfl, (KM.of (G0.wide (fun q hq => by have hq : q = o + 24 ∨ q = o + 25 := hq; show o + 24 ≤ q ∧ q ≤ o + 31; omega))).fr (T := fun q => o + 24 ≤ q ∧ q ≤ o + 31) (fun q hq => hq) eV0, rfl, mt⟩
    · skip
      refine g_aload_n rfl rfl ?_
      refine g_iload_n rfl rfl ?_
      refine g_iload_n rfl rfl ?_
      refine g_callSI [aI 7] [aI b, aO (some o)] rfl rfl rfl rfl (Nat.le_of_ble_eq_true rfl) (m_wants7 (by omega) _) ?_
      rintro _ _ ⟨rfl, rfl⟩
      refine g_bipush rfl ?_
      refine g_iremN (m := 10) (n := 1) rfl (by omega) ?_
      refine g_top (v2 := aI 1) (congrArg aI (by rfl)) ?_
      refine g_callVI [aI b, aI 1] [] rfl rfl rfl rfl (Nat.le_of_ble_eq_true rfl) ms.1 (m_fits (by omega) ms V0 ok mt b 1 (by omega)) ?_
      rintro r4 _ ⟨rfl, e5⟩
      rw [e5]
      clear e5 r4
      refine g_b_ne rfl (fun c49 => ?_) (fun c49 => ?_)
      · skip
        refine g_iload_n rfl rfl ?_
        refine g_if_ne_t rfl (by omega) ?_
        have ha : 0 ≤ a ∧ a < sT S := by omega
        have hb : 0 ≤ b ∧ b < sT S := by omega
        refine g_aload_n rfl rfl ?_
        refine g_aload_n rfl rfl ?_
        refine g_getR rfl ms.1 (mr_one ms) ?_
        refine g_iload_n rfl rfl ?_
        refine g_callVN [aO (some (o + 24)), aI a] [] rfl rfl rfl rfl (Nat.le_of_ble_eq_true rfl) ms.1 (m_load (by omega) ms V0 ok mt (by have := G0.2.2.1; omega) ((o + 24)) (show SLa o ((o + 24)) by unfold SLa; omega) a ha) ?_
        rintro _ ⟨V6, rfl, g6, t6, u6, v6, y6, s6, xt6, xu6, xv6, xy6⟩
        have G_7 := G0.trans (g6.wide (fun q hq => by have hq : q = o + 24 := hq; show q = o + 24 ∨ q = o + 25; omega))
        refine g_aload_n rfl rfl ?_
        refine g_aload_n rfl rfl ?_
        refine g_getR rfl ms.1 (mr_two ms) ?_
        refine g_iload_n rfl rfl ?_
        refine g_callVN [aO (some (o + 25)), aI b] [] rfl rfl rfl rfl (Nat.le_of_ble_eq_true rfl) ms.1 (m_load (by omega) ms V6 ok (g6.mt (show ¬((o + 4) = o + 24) by omega) (show ¬((o + 5) = o + 24) by omega) mt) (by have := G_7.2.2.1; omega) ((o + 25)) (show SLa o ((o + 25)) by unfold SLa; omega) b hb) ?_
        rintro _ ⟨V8, rfl, g8, t8, u8, v8, y8, s8, xt8, xu8, xv8, xy8⟩
        have G_9 := G_7.trans (g8.wide (fun q hq => by have hq : q = o + 25 := hq; show q = o + 24 ∨ q = o + 25; omega))
        refine g_iload_n rfl rfl ?_
        refine g_bipush rfl ?_
        refine g_icmp_ge_f rfl (by omega) ?_
        refine g_aload_n rfl rfl ?_
        refine g_iload_n rfl rfl ?_
        refine g_iload_n rfl rfl ?_
        refine g_iload_n rfl rfl ?_
        refine g_callVI [aI 7, aI a, aI b] [] rfl rfl rfl rfl (Nat.le_of_ble_eq_true rfl) ms.1 (m_simple7 (by omega) ms V8 ok (g8.mt (show ¬((o + 4) = o + 25) by omega) (show ¬((o + 5) = o + 25) by omega) (g6.mt (show ¬((o + 4) = o + 24) by omega) (show ¬((o + 5) = o + 24) by omega) mt)) (by have := G_9.2.2.1; omega) a ha b hb (show SB V8 o (o + 24) (tpR S a) (20) from ⟨_, _, _, _, (g8.sa (show SLa o ((o + 24)) by unfold SLa; omega) (show ¬(o + 24 = o + 25) by omega) s6), ((g8.rb xt6).up (by omega)), ((g8.rb xu6).up (by omega)), ((g8.rb xv6).up (by omega)), ((g8.rb xy6).up (by omega))⟩) (show SB V8 o (o + 25) (tpR S b) (20) from ⟨_, _, _, _, s8, (xt8.up (by omega)), (xu8.up (by omega)), (xv8.up (by omega)), (xy8.up (by omega))⟩)) ?_
        rintro r10 _ ⟨V10, rfl, k10, e10, m10⟩
        refine g_iret rfl ?_
        have es : stepM S 0 1 0 a b (m_s7_O S a b) = keepM S 0 (m_s7_O S a b) := by unfold stepM; rw [if_pos (by unfold isS; omega)]
        rw [es]
        exact ⟨_, rfl, (Gs.km (G_9.wide (fun q hq => by have hq : q = o + 24 ∨ q = o + 25 := hq; show o + 24 ≤ q ∧ q ≤ o + 31; omega)) k10 (T := fun q => o + 24 ≤ q ∧ q ≤ o + 31) (fun q hq => by omega)).fr (fun q hq => hq) eV0, e10, m10⟩
      · skip
        refine g_iconst rfl ?_
        refine g_iret rfl ?_
        have es : stepM S 0 1 0 a b (m_s7_O S a b) = (-1, S) := by unfold stepM; rw [if_neg (by unfold isS; omega)]
        rw [es]
        exact ⟨V0, rfl, (KM.of (G0.wide (fun q hq => by have hq : q = o + 24 ∨ q = o + 25 := hq; show o + 24 ≤ q ∧ q ≤ o + 31; omega))).fr (T := fun q => o + 24 ≤ q ∧ q ≤ o + 31) (fun q hq => hq) eV0, rfl, mt⟩
set_option maxHeartbeats 4000000 in
theorem m_step8 {w : aW} {d : Nat} (hd : 10 ≤ d) {h : aH} {o : Nat} (ms : MS h o) (V : Nat → Nat → Int) {S : aS} (ok : OkT S) (mt : MT V o S) (a b : Int) : WP w d 307 [aO (some o), aI 8, aI a, aI b] (hw h V) (RI (fun r h1 => ∃ V1, h1 = hw h V1 ∧ FR V V1 o ∧ r = (stepM S 0 2 0 a b (m_s8_O S a b)).1 ∧ MT V1 o (stepM S 0 2 0 a b (m_s8_O S a b)).2)) := by
  obtain ⟨d, rfl⟩ : ∃ d1, d = d1 + 1 := ⟨d - 1, by omega⟩
  refine WP.enter (cd := cd_X12_step) rfl ?_
  have hn := ok.1
  have hls : largs 0 [aO (some o), aI 8, aI a, aI b] = [(0, aO (some o)), (1, aI 8), (2, aI a), (3, aI b)] := rfl
  rw [hls]
  clear hls
  refine g_aload_n rfl rfl ?_
  refine g_iconst rfl ?_
  refine g_putI rfl ms.1 ?_
  refine g_hp (h2 := hw h (vset V o 31 0)) rfl ?_
  refine g_aload_n rfl rfl ?_
  refine g_iconst rfl ?_
  refine g_putI rfl ms.1 ?_
  obtain ⟨V0, eV0⟩ : ∃ W, W = vset (vset V o 31 0) o 1 0 := ⟨_, rfl⟩
  refine g_hp (h2 := hw h V0) (by rw [eV0]; rfl) ?_
  have mt : MT V0 o S := by rw [eV0]; exact mt.rs
  have f0 : V0 o 1 = 0 := by rw [eV0]; exact vset_eq _ _ _ _
  have G0 := Gs.refl V0 o (fun q => q = o + 24 ∨ q = o + 25)
  refine g_iload_n rfl rfl ?_
  refine g_i2l rfl ?_
  refine g_lconst0 rfl ?_
  refine g_ldc2 rfl ?_
  refine g_callSI [aJ 8, aJ 0, aJ 19] [] rfl rfl rfl rfl (Nat.le_of_ble_eq_true rfl) (c_in (by omega) _ _ _ _) ?_
  rintro r1 _ ⟨rfl, rfl⟩
  refine g_b_eq rfl (fun c19 => ?_) (fun c19 => ?_)
  · skip
    refine g_iconst rfl ?_
    refine g_iret rfl ?_
    have es : stepM S 0 2 0 a b (m_s8_O S a b) = (-1, S) := by unfold stepM; rw [if_neg (by unfold isS; omega)]
    rw [es]
    exact ⟨V0, rfl, (KM.of (G0.wide (fun q hq => by have hq : q = o + 24 ∨ q = o + 25 := hq; show o + 24 ≤ q ∧ q ≤ o + 31; omega))).fr (T := fun q => o + 24 ≤ q ∧ q ≤ o + 31) (fun q hq => hq) eV0, rfl, mt⟩
  · skip
    refine g_aload_n rfl rfl ?_
    refine g_iload_n rfl rfl ?_
    refine g_iload_n rfl rfl ?_
    refine g_callSI [aI 8] [aI a, aO (some o)] rfl rfl rfl rfl (Nat.le_of_ble_eq_true rfl) (m_wants8 (by omega) _) ?_
    rintro _ _ ⟨rfl, rfl⟩
    refine g_bipush rfl ?_
    refine g_idivN (m := 10) (n := 2) rfl (by omega) (by omega) ?_
    refine g_top (v2 := aI 0) (congrArg aI (by rfl)) ?_
    refine g_callVI [aI a, aI 0] [] rfl rfl rfl rfl (Nat.le_of_ble_eq_true rfl) ms.1 (m_fits (by omega) ms V0 ok mt a 0 (by omega)) ?_
    rintro r2 _ ⟨rfl, e3⟩
    rw [e3]
    clear e3 r2
    refine g_b_eq rfl (fun c34 => ?_) (fun c34 => ?_)
    · skip
      refine g_iconst rfl ?_
      refine g_iret rfl ?_
      have es : stepM S 0 2 0 a b (m_s8_O S a b) = (-1, S) := by unfold stepM; rw [if_neg (by unfold isS; omega)]
      rw [es]
      exact ⟨V0, rfl, (KM.of (G0.wide (fun q hq => by have hq : q = o + 24 ∨ q = o + 25 := hq; show o + 24 ≤ q ∧ q ≤ o + 31; omega))).fr (T := fun q => o + 24 ≤ q ∧ q ≤ o + 31) (fun q hq => hq) eV0, rfl, mt⟩
    · skip
      refine g_aload_n rfl rfl ?_
      refine g_iload_n rfl rfl ?_
      refine g_iload_n rfl rfl ?_
      refine g_callSI [aI 8] [aI b, aO (some o)] rfl rfl rfl rfl (Nat.le_of_ble_eq_true rfl) (m_wants8 (by omega) _) ?_
      rintro _ _ ⟨rfl, rfl⟩
      refine g_bipush rfl ?_
      refine g_iremN (m := 10) (n := 2) rfl (by omega) ?_
      refine g_top (v2 := aI 2) (congrArg aI (by rfl)) ?_
      refine g_callVI [aI b, aI 2] [] rfl rfl rfl rfl (Nat.le_of_ble_eq_true rfl) ms.1 (m_fits (by omega) ms V0 ok mt b 2 (by omega)) ?_
      rintro r4 _ ⟨rfl, e5⟩
      rw [e5]
      clear e5 r4
      refine g_b_ne rfl (fun c49 => ?_) (fun c49 => ?_)
      · skip
        refine g_iload_n rfl rfl ?_
        refine g_if_ne_t rfl (by omega) ?_
        have ha : 0 ≤ a ∧ a < sT S := by omega
        have hb : 0 ≤ b ∧ b < sT S := by omega
        refine g_aload_n rfl rfl ?_
        refine g_aload_n rfl rfl ?_
        refine g_getR rfl ms.1 (mr_one ms) ?_
        refine g_iload_n rfl rfl ?_
        refine g_callVN [aO (some (o + 24)), aI a] [] rfl rfl rfl rfl (Nat.le_of_ble_eq_true rfl) ms.1 (m_load (by omega) ms V0 ok mt (by have := G0.2.2.1; omega) ((o + 24)) (show SLa o ((o + 24)) by unfold SLa; omega) a ha) ?_
        rintro _ ⟨V6, rfl, g6, t6, u6, v6, y6, s6, xt6, xu6, xv6, xy6⟩
        have G_7 := G0.trans (g6.wide (fun q hq => by have hq : q = o + 24 := hq; show q = o + 24 ∨ q = o + 25; omega))
        refine g_aload_n rfl rfl ?_
        refine g_aload_n rfl rfl ?_
        refine g_getR rfl ms.1 (mr_two ms) ?_
        refine g_iload_n rfl rfl ?_
        refine g_callVN [aO (some (o + 25)), aI b] [] rfl rfl rfl rfl (Nat.le_of_ble_eq_true rfl) ms.1 (m_load (by omega) ms V6 ok (g6.mt (show ¬((o + 4) = o + 24) by omega) (show ¬((o + 5) = o + 24) by omega) mt) (by have := G_7.2.2.1; omega) ((o + 25)) (show SLa o ((o + 25)) by unfold SLa; omega) b hb) ?_
        rintro _ ⟨V8, rfl, g8, t8, u8, v8, y8, s8, xt8, xu8, xv8, xy8⟩
        have G_9 := G_7.trans (g8.wide (fun q hq => by have hq : q = o + 25 := hq; show q = o + 24 ∨ q = o + 25; omega))
        refine g_iload_n rfl rfl ?_
        refine g_bipush rfl ?_
        refine g_icmp_ge_t rfl (by omega) ?_
        refine g_iload_n rfl rfl ?_
        refine g_bipush rfl ?_
        refine g_icmp_ge_f rfl (by omega) ?_
        refine g_aload_n rfl rfl ?_
        refine g_iload_n rfl rfl ?_
        refine g_iload_n rfl rfl ?_
        refine g_iload_n rfl rfl ?_
        refine g_callVI [aI 8, aI a, aI b] [] rfl rfl rfl rfl (Nat.le_of_ble_eq_true rfl) ms.1 (m_round8 (by omega) ms V8 ok (g8.mt (show ¬((o + 4) = o + 25) by omega) (show ¬((o + 5) = o + 25) by omega) (g6.mt (show ¬((o + 4) = o + 24) by omega) (show ¬((o + 5) = o + 24) by omega) mt)) (by have := G_9.2.2.1; omega) a ha b hb (show SB V8 o (o + 24) (tpR S a) (20) from ⟨_, _, _, _, (g8.sa (show SLa o ((o + 24)) by unfold SLa; omega) (show ¬(o + 24 = o + 25) by omega) s6), ((g8.rb xt6).up (by omega)), ((g8.rb xu6).up (by omega)), ((g8.rb xv6).up (by omega)), ((g8.rb xy6).up (by omega))⟩) (show SB V8 o (o + 25) (tpR S b) (20) from ⟨_, _, _, _, s8, (xt8.up (by omega)), (xu8.up (by omega)), (xv8.up (by omega)), (xy8.up (by omega))⟩)) ?_
        rintro r10 _ ⟨V10, rfl, k10, e10, m10⟩
        refine g_iret rfl ?_
        have es : stepM S 0 2 0 a b (m_s8_O S a b) = keepM S 0 (m_s8_O S a b) := by unfold stepM; rw [if_pos (by unfold isS; omega)]
        rw [es]
        exact ⟨_, rfl, (Gs.km (G_9.wide (fun q hq => by have hq : q = o + 24 ∨ q = o + 25 := hq; show o + 24 ≤ q ∧ q ≤ o + 31; omega)) k10 (T := fun q => o + 24 ≤ q ∧ q ≤ o + 31) (fun q hq => by omega)).fr (fun q hq => hq) eV0, e10, m10⟩
      · skip
        refine g_iconst rfl ?_
        refine g_iret rfl ?_
        have es : stepM S 0 2 0 a b (m_s8_O S a b) = (-1, S) := by unfold stepM; rw [if_neg (by unfold isS; omega)]
        rw [es]
        exact ⟨V0, rfl, (KM.of (G0.wide (fun q hq => by have hq : q = o + 24 ∨ q = o + 25 := hq; show o + 24 ≤ q ∧ q ≤ o + 31; omega))).fr (T := fun q => o + 24 ≤ q ∧ q ≤ o + 31) (fun q hq => hq) eV0, rfl, mt⟩
set_option maxHeartbeats 4000000 in
theorem m_step9 {w : aW} {d : Nat} (hd : 10 ≤ d) {h : aH} {o : Nat} (ms : MS h o) (V : Nat → Nat → Int) {S : aS} (ok : OkT S) (mt : MT V o S) (a b : Int) : WP w d 307 [aO (some o), aI 9, aI a, aI b] (hw h V) (RI (fun r h1 => ∃ V1, h1 = hw h V1 ∧ FR V V1 o ∧ r = (stepM S 0 2 1 a b (m_s9_O S a b)).1 ∧ MT V1 o (stepM S 0 2 1 a b (m_s9_O S a b)).2)) := by
  obtain ⟨d, rfl⟩ : ∃ d1, d = d1 + 1 := ⟨d - 1, by omega⟩
  refine WP.enter (cd := cd_X12_step) rfl ?_
  have hn := ok.1
  have hls : largs 0 [aO (some o), aI 9, aI a, aI b] = [(0, aO (some o)), (1, aI 9), (2, aI a), (3, aI b)] := rfl
  rw [hls]
  clear hls
  refine g_aload_n rfl rfl ?_
  refine g_iconst rfl ?_
  refine g_putI rfl ms.1 ?_
  refine g_hp (h2 := hw h (vset V o 31 0)) rfl ?_
  refine g_aload_n rfl rfl ?_
  refine g_iconst rfl ?_
  refine g_putI rfl ms.1 ?_
  obtain ⟨V0, eV0⟩ : ∃ W, W = vset (vset V o 31 0) o 1 0 := ⟨_, rfl⟩
  refine g_hp (h2 := hw h V0) (by rw [eV0]; rfl) ?_
  have mt : MT V0 o S := by rw [eV0]; exact mt.rs
  have f0 : V0 o 1 = 0 := by rw [eV0]; exact vset_eq _ _ _ _
  have G0 := Gs.refl V0 o (fun q => q = o + 24 ∨ q = o + 25)
  refine g_iload_n rfl rfl ?_
  refine g_i2l rfl ?_
  refine g_lconst0 rfl ?_
  refine g_ldc2 rfl ?_
  refine g_callSI [aJ 9, aJ 0, aJ 19] [] rfl rfl rfl rfl (Nat.le_of_ble_eq_true rfl) (c_in (by omega) _ _ _ _) ?_
  rintro r1 _ ⟨rfl, rfl⟩
  refine g_b_eq rfl (fun c19 => ?_) (fun c19 => ?_)
  · skip
    refine g_iconst rfl ?_
    refine g_iret rfl ?_
    have es : stepM S 0 2 1 a b (m_s9_O S a b) = (-1, S) := by unfold stepM; rw [if_neg (by unfold isS; omega)]
    rw [es]
    exact ⟨V0, rfl, (KM.of (G0.wide (fun q hq => by have hq : q = o + 24 ∨ q = o + 25 := hq; show o + 24 ≤ q ∧ q ≤ o + 31; omega))).fr (T := fun q => o + 24 ≤ q ∧ q ≤ o + 31) (fun q hq => hq) eV0, rfl, mt⟩
  · skip
    refine g_aload_n rfl rfl ?_
    refine g_iload_n rfl rfl ?_
    refine g_iload_n rfl rfl ?_
    refine g_callSI [aI 9] [aI a, aO (some o)] rfl rfl rfl rfl (Nat.le_of_ble_eq_true rfl) (m_wants9 (by omega) _) ?_
    rintro _ _ ⟨rfl, rfl⟩
    refine g_bipush rfl ?_
    refine g_idivN (m := 10) (n := 2) rfl (by omega) (by omega) ?_
    refine g_top (v2 := aI 0) (congrArg aI (by rfl)) ?_
    refine g_callVI [aI a, aI 0] [] rfl rfl rfl rfl (Nat.le_of_ble_eq_true rfl) ms.1 (m_fits (by omega) ms V0 ok mt a 0 (by omega)) ?_
    rintro r2 _ ⟨rfl, e3⟩
    rw [e3]
    clear e3 r2
    refine g_b_eq rfl (fun c34 => ?_) (fun c34 => ?_)
    · skip
      refine g_iconst rfl ?_
      refine g_iret rfl ?_
      have es : stepM S 0 2 1 a b (m_s9_O S a b) = (-1, S) := by unfold stepM; rw [if_neg (by unfold isS; omega)]
      rw [es]
      exact ⟨V0, rfl, (KM.of (G0.wide (fun q hq => by have hq : q = o + 24 ∨ q = o + 25 := hq; show o + 24 ≤ q ∧ q ≤ o + 31; omega))).fr (T := fun q => o + 24 ≤ q ∧ q ≤ o + 31) (fun q hq => hq) eV0, rfl, mt⟩
    · skip
      refine g_aload_n rfl rfl ?_
      refine g_iload_n rfl rfl ?_
      refine g_iload_n rfl rfl ?_
      refine g_callSI [aI 9] [aI b, aO (some o)] rfl rfl rfl rfl (Nat.le_of_ble_eq_true rfl) (m_wants9 (by omega) _) ?_
      rintro _ _ ⟨rfl, rfl⟩
      refine g_bipush rfl ?_
      refine g_iremN (m := 10) (n := 2) rfl (by omega) ?_
      refine g_top (v2 := aI 2) (congrArg aI (by rfl)) ?_
      refine g_callVI [aI b, aI 2] [] rfl rfl rfl rfl (Nat.le_of_ble_eq_true rfl) ms.1 (m_fits (by omega) ms V0 ok mt b 2 (by omega)) ?_
      rintro r4 _ ⟨rfl, e5⟩
      rw [e5]
      clear e5 r4
      refine g_b_ne rfl (fun c49 => ?_) (fun c49 => ?_)
      · skip
        refine g_iload_n rfl rfl ?_
        refine g_if_ne_t rfl (by omega) ?_
        have ha : 0 ≤ a ∧ a < sT S := by omega
        have hb : 0 ≤ b ∧ b < sT S := by omega
        refine g_aload_n rfl rfl ?_
        refine g_aload_n rfl rfl ?_
        refine g_getR rfl ms.1 (mr_one ms) ?_
        refine g_iload_n rfl rfl ?_
        refine g_callVN [aO (some (o + 24)), aI a] [] rfl rfl rfl rfl (Nat.le_of_ble_eq_true rfl) ms.1 (m_load (by omega) ms V0 ok mt (by have := G0.2.2.1; omega) ((o + 24)) (show SLa o ((o + 24)) by unfold SLa; omega) a ha) ?_
        rintro _ ⟨V6, rfl, g6, t6, u6, v6, y6, s6, xt6, xu6, xv6, xy6⟩
        have G_7 := G0.trans (g6.wide (fun q hq => by have hq : q = o + 24 := hq; show q = o + 24 ∨ q = o + 25; omega))
        refine g_aload_n rfl rfl ?_
        refine g_aload_n rfl rfl ?_
        refine g_getR rfl ms.1 (mr_two ms) ?_
        refine g_iload_n rfl rfl ?_
        refine g_callVN [aO (some (o + 25)), aI b] [] rfl rfl rfl rfl (Nat.le_of_ble_eq_true rfl) ms.1 (m_load (by omega) ms V6 ok (g6.mt (show ¬((o + 4) = o + 24) by omega) (show ¬((o + 5) = o + 24) by omega) mt) (by have := G_7.2.2.1; omega) ((o + 25)) (show SLa o ((o + 25)) by unfold SLa; omega) b hb) ?_
        rintro _ ⟨V8, rfl, g8, t8, u8, v8, y8, s8, xt8, xu8, xv8, xy8⟩
        have G_9 := G_7.trans (g8.wide (fun q hq => by have hq : q = o + 25 := hq; show q = o + 24 ∨ q = o + 25; omega))
        refine g_iload_n rfl rfl ?_
        refine g_bipush rfl ?_
        refine g_icmp_ge_t rfl (by omega) ?_
        refine g_iload_n rfl rfl ?_
        refine g_bipush rfl ?_
        refine g_icmp_ge_f rfl (by omega) ?_
        refine g_aload_n rfl rfl ?_
        refine g_iload_n rfl rfl ?_
        refine g_iload_n rfl rfl ?_
        refine g_iload_n rfl rfl ?_
        refine g_callVI [aI 9, aI a, aI b] [] rfl rfl rfl rfl (Nat.le_of_ble_eq_true rfl) ms.1 (m_round9 (by omega) ms V8 ok (g8.mt (show ¬((o + 4) = o + 25) by omega) (show ¬((o + 5) = o + 25) by omega) (g6.mt (show ¬((o + 4) = o + 24) by omega) (show ¬((o + 5) = o + 24) by omega) mt)) (by have := G_9.2.2.1; omega) a ha b hb (show SB V8 o (o + 24) (tpR S a) (20) from ⟨_, _, _, _, (g8.sa (show SLa o ((o + 24)) by unfold SLa; omega) (show ¬(o + 24 = o + 25) by omega) s6), ((g8.rb xt6).up (by omega)), ((g8.rb xu6).up (by omega)), ((g8.rb xv6).up (by omega)), ((g8.rb xy6).up (by omega))⟩) (show SB V8 o (o + 25) (tpR S b) (20) from ⟨_, _, _, _, s8, (xt8.up (by omega)), (xu8.up (by omega)), (xv8.up (by omega)), (xy8.up (by omega))⟩)) ?_
        rintro r10 _ ⟨V10, rfl, k10, e10, m10⟩
        refine g_iret rfl ?_
        have es : stepM S 0 2 1 a b (m_s9_O S a b) = keepM S 1 (m_s9_O S a b) := by unfold stepM; rw [if_pos (by unfold isS; omega)]
        rw [es]
        exact ⟨_, rfl, (Gs.km (G_9.wide (fun q hq => by have hq : q = o + 24 ∨ q = o + 25 := hq; show o + 24 ≤ q ∧ q ≤ o + 31; omega)) k10 (T := fun q => o + 24 ≤ q ∧ q ≤ o + 31) (fun q hq => by omega)).fr (fun q hq => hq) eV0, e10, m10⟩
      · skip
        refine g_iconst rfl ?_
        refine g_iret rfl ?_
        have es : stepM S 0 2 1 a b (m_s9_O S a b) = (-1, S) := by unfold stepM; rw [if_neg (by unfold isS; omega)]
        rw [es]
        exact ⟨V0, rfl, (KM.of (G0.wide (fun q hq => by have hq : q = o + 24 ∨ q = o + 25 := hq; show o + 24 ≤ q ∧ q ≤ o + 31; omega))).fr (T := fun q => o + 24 ≤ q ∧ q ≤ o + 31) (fun q hq => hq) eV0, rfl, mt⟩
set_option maxHeartbeats 4000000 in
theorem m_step10 {w : aW} {d : Nat} (hd : 10 ≤ d) {h : aH} {o : Nat} (ms : MS h o) (V : Nat → Nat → Int) {S : aS} (ok : OkT S) (mt : MT V o S) (a b : Int) : WP w d 307 [aO (some o), aI 10, aI a, aI b] (hw h V) (RI (fun r h1 => ∃ V1, h1 = hw h V1 ∧ FR V V1 o ∧ r = (stepM S 1 2 0 a b (m_s10_O S a b)).1 ∧ MT V1 o (stepM S 1 2 0 a b (m_s10_O S a b)).2)) := by
  obtain ⟨d, rfl⟩ : ∃ d1, d = d1 + 1 := ⟨d - 1, by omega⟩
  refine WP.enter (cd := cd_X12_step) rfl ?_
  have hn := ok.1
  have hls : largs 0 [aO (some o), aI 10, aI a, aI b] = [(0, aO (some o)), (1, aI 10), (2, aI a), (3, aI b)] := rfl
  rw [hls]
  clear hls
  refine g_aload_n rfl rfl ?_
  refine g_iconst rfl ?_
  refine g_putI rfl ms.1 ?_
  refine g_hp (h2 := hw h (vset V o 31 0)) rfl ?_
  refine g_aload_n rfl rfl ?_
  refine g_iconst rfl ?_
  refine g_putI rfl ms.1 ?_
  obtain ⟨V0, eV0⟩ : ∃ W, W = vset (vset V o 31 0) o 1 0 := ⟨_, rfl⟩
  refine g_hp (h2 := hw h V0) (by rw [eV0]; rfl) ?_
  have mt : MT V0 o S := by rw [eV0]; exact mt.rs
  have f0 : V0 o 1 = 0 := by rw [eV0]; exact vset_eq _ _ _ _
  have G0 := Gs.refl V0 o (fun q => q = o + 24 ∨ q = o + 25)
  refine g_iload_n rfl rfl ?_
  refine g_i2l rfl ?_
  refine g_lconst0 rfl ?_
  refine g_ldc2 rfl ?_
  refine g_callSI [aJ 10, aJ 0, aJ 19] [] rfl rfl rfl rfl (Nat.le_of_ble_eq_true rfl) (c_in (by omega) _ _ _ _) ?_
  rintro r1 _ ⟨rfl, rfl⟩
  refine g_b_eq rfl (fun c19 => ?_) (fun c19 => ?_)
  · skip
    refine g_iconst rfl ?_
    refine g_iret rfl ?_
    have es : stepM S 1 2 0 a b (m_s10_O S a b) = (-1, S) := by unfold stepM; rw [if_neg (by unfold isS; omega)]
    rw [es]
    exact ⟨V0, rfl, (KM.of (G0.wide (fun q hq => by have hq : q = o + 24 ∨ q = o + 25 := hq; show o + 24 ≤ q ∧ q ≤ o + 31; omega))).fr (T := fun q => o + 24 ≤ q ∧ q ≤ o + 31) (fun q hq => hq) eV0, rfl, mt⟩
  · skip
    refine g_aload_n rfl rfl ?_
    refine g_iload_n rfl rfl ?_
    refine g_iload_n rfl rfl ?_
    refine g_callSI [aI 10] [aI a, aO (some o)] rfl rfl rfl rfl (Nat.le_of_ble_eq_true rfl) (m_wants10 (by omega) _) ?_
    rintro _ _ ⟨rfl, rfl⟩
    refine g_bipush rfl ?_
    refine g_idivN (m := 10) (n := 12) rfl (by omega) (by omega) ?_
    refine g_top (v2 := aI 1) (congrArg aI (by rfl)) ?_
    refine g_callVI [aI a, aI 1] [] rfl rfl rfl rfl (Nat.le_of_ble_eq_true rfl) ms.1 (m_fits (by omega) ms V0 ok mt a 1 (by omega)) ?_
    rintro r2 _ ⟨rfl, e3⟩
    rw [e3]
    clear e3 r2
    refine g_b_eq rfl (fun c34 => ?_) (fun c34 => ?_)
    · skip
      refine g_iconst rfl ?_
      refine g_iret rfl ?_
      have es : stepM S 1 2 0 a b (m_s10_O S a b) = (-1, S) := by unfold stepM; rw [if_neg (by unfold isS; omega)]
      rw [es]
      exact ⟨V0, rfl, (KM.of (G0.wide (fun q hq => by have hq : q = o + 24 ∨ q = o + 25 := hq; show o + 24 ≤ q ∧ q ≤ o + 31; omega))).fr (T := fun q => o + 24 ≤ q ∧ q ≤ o + 31) (fun q hq => hq) eV0, rfl, mt⟩
    · skip
      refine g_aload_n rfl rfl ?_
      refine g_iload_n rfl rfl ?_
      refine g_iload_n rfl rfl ?_
      refine g_callSI [aI 10] [aI b, aO (some o)] rfl rfl rfl rfl (Nat.le_of_ble_eq_true rfl) (m_wants10 (by omega) _) ?_
      rintro _ _ ⟨rfl, rfl⟩
      refine g_bipush rfl ?_
      refine g_iremN (m := 10) (n := 12) rfl (by omega) ?_
      refine g_top (v2 := aI 2) (congrArg aI (by rfl)) ?_
      refine g_callVI [aI b, aI 2] [] rfl rfl rfl rfl (Nat.le_of_ble_eq_true rfl) ms.1 (m_fits (by omega) ms V0 ok mt b 2 (by omega)) ?_
      rintro r4 _ ⟨rfl, e5⟩
      rw [e5]
      clear e5 r4
      refine g_b_ne rfl (fun c49 => ?_) (fun c49 => ?_)
      · skip
        refine g_iload_n rfl rfl ?_
        refine g_if_ne_t rfl (by omega) ?_
        have ha : 0 ≤ a ∧ a < sT S := by omega
        have hb : 0 ≤ b ∧ b < sT S := by omega
        refine g_aload_n rfl rfl ?_
        refine g_aload_n rfl rfl ?_
        refine g_getR rfl ms.1 (mr_one ms) ?_
        refine g_iload_n rfl rfl ?_
        refine g_callVN [aO (some (o + 24)), aI a] [] rfl rfl rfl rfl (Nat.le_of_ble_eq_true rfl) ms.1 (m_load (by omega) ms V0 ok mt (by have := G0.2.2.1; omega) ((o + 24)) (show SLa o ((o + 24)) by unfold SLa; omega) a ha) ?_
        rintro _ ⟨V6, rfl, g6, t6, u6, v6, y6, s6, xt6, xu6, xv6, xy6⟩
        have G_7 := G0.trans (g6.wide (fun q hq => by have hq : q = o + 24 := hq; show q = o + 24 ∨ q = o + 25; omega))
        refine g_aload_n rfl rfl ?_
        refine g_aload_n rfl rfl ?_
        refine g_getR rfl ms.1 (mr_two ms) ?_
        refine g_iload_n rfl rfl ?_
        refine g_callVN [aO (some (o + 25)), aI b] [] rfl rfl rfl rfl (Nat.le_of_ble_eq_true rfl) ms.1 (m_load (by omega) ms V6 ok (g6.mt (show ¬((o + 4) = o + 24) by omega) (show ¬((o + 5) = o + 24) by omega) mt) (by have := G_7.2.2.1; omega) ((o + 25)) (show SLa o ((o + 25)) by unfold SLa; omega) b hb) ?_
        rintro _ ⟨V8, rfl, g8, t8, u8, v8, y8, s8, xt8, xu8, xv8, xy8⟩
        have G_9 := G_7.trans (g8.wide (fun q hq => by have hq : q = o + 25 := hq; show q = o + 24 ∨ q = o + 25; omega))
        refine g_iload_n rfl rfl ?_
        refine g_bipush rfl ?_
        refine g_icmp_ge_t rfl (by omega) ?_
        refine g_iload_n rfl rfl ?_
        refine g_bipush rfl ?_
        refine g_icmp_ge_f rfl (by omega) ?_
        refine g_aload_n rfl rfl ?_
        refine g_iload_n rfl rfl ?_
        refine g_iload_n rfl rfl ?_
        refine g_iload_n rfl rfl ?_
        refine g_callVI [aI 10, aI a, aI b] [] rfl rfl rfl rfl (Nat.le_of_ble_eq_true rfl) ms.1 (m_round10 (by omega) ms V8 ok (g8.mt (show ¬((o + 4) = o + 25) by omega) (show ¬((o + 5) = o + 25) by omega) (g6.mt (show ¬((o + 4) = o + 24) by omega) (show ¬((o + 5) = o + 24) by omega) mt)) (by have := G_9.2.2.1; omega) a ha b hb (show SB V8 o (o + 24) (tpR S a) (20) from ⟨_, _, _, _, (g8.sa (show SLa o ((o + 24)) by unfold SLa; omega) (show ¬(o + 24 = o + 25) by omega) s6), ((g8.rb xt6).up (by omega)), ((g8.rb xu6).up (by omega)), ((g8.rb xv6).up (by omega)), ((g8.rb xy6).up (by omega))⟩) (show SB V8 o (o + 25) (tpR S b) (20) from ⟨_, _, _, _, s8, (xt8.up (by omega)), (xu8.up (by omega)), (xv8.up (by omega)), (xy8.up (by omega))⟩)) ?_
        rintro r10 _ ⟨V10, rfl, k10, e10, m10⟩
        refine g_iret rfl ?_
        have es : stepM S 1 2 0 a b (m_s10_O S a b) = keepM S 0 (m_s10_O S a b) := by unfold stepM; rw [if_pos (by unfold isS; omega)]
        rw [es]
        exact ⟨_, rfl, (Gs.km (G_9.wide (fun q hq => by have hq : q = o + 24 ∨ q = o + 25 := hq; show o + 24 ≤ q ∧ q ≤ o + 31; omega)) k10 (T := fun q => o + 24 ≤ q ∧ q ≤ o + 31) (fun q hq => by omega)).fr (fun q hq => hq) eV0, e10, m10⟩
      · skip
        refine g_iconst rfl ?_
        refine g_iret rfl ?_
        have es : stepM S 1 2 0 a b (m_s10_O S a b) = (-1, S) := by unfold stepM; rw [if_neg (by unfold isS; omega)]
        rw [es]
        exact ⟨V0, rfl, (KM.of (G0.wide (fun q hq => by have hq : q = o + 24 ∨ q = o + 25 := hq; show o + 24 ≤ q ∧ q ≤ o + 31; omega))).fr (T := fun q => o + 24 ≤ q ∧ q ≤ o + 31) (fun q hq => hq) eV0, rfl, mt⟩
set_option maxHeartbeats 4000000 in
theorem m_step11 {w : aW} {d : Nat} (hd : 10 ≤ d) {h : aH} {o : Nat} (ms : MS h o) (V : Nat → Nat → Int) {S : aS} (ok : OkT S) (mt : MT V o S) (a b : Int) : WP w d 307 [aO (some o), aI 11, aI a, aI b] (hw h V) (RI (fun r h1 => ∃ V1, h1 = hw h V1 ∧ FR V V1 o ∧ r = (stepM S 2 2 1 a b (m_s11_O S a b)).1 ∧ MT V1 o (stepM S 2 2 1 a b (m_s11_O S a b)).2)) := by
  obtain ⟨d, rfl⟩ : ∃ d1, d = d1 + 1 := ⟨d - 1, by omega⟩
  refine WP.enter (cd := cd_X12_step) rfl ?_
  have hn := ok.1
  have hls : largs 0 [aO (some o), aI 11, aI a, aI b] = [(0, aO (some o)), (1, aI 11), (2, aI a), (3, aI b)] := rfl
  rw [hls]
  clear hls
  refine g_aload_n rfl rfl ?_
  refine g_iconst rfl ?_
  refine g_putI rfl ms.1 ?_
  refine g_hp (h2 := hw h (vset V o 31 0)) rfl ?_
  refine g_aload_n rfl rfl ?_
  refine g_iconst rfl ?_
  refine g_putI rfl ms.1 ?_
  obtain ⟨V0, eV0⟩ : ∃ W, W = vset (vset V o 31 0) o 1 0 := ⟨_, rfl⟩
  refine g_hp (h2 := hw h V0) (by rw [eV0]; rfl) ?_
  have mt : MT V0 o S := by rw [eV0]; exact mt.rs
  have f0 : V0 o 1 = 0 := by rw [eV0]; exact vset_eq _ _ _ _
  have G0 := Gs.refl V0 o (fun q => q = o + 24 ∨ q = o + 25)
  refine g_iload_n rfl rfl ?_
  refine g_i2l rfl ?_
  refine g_lconst0 rfl ?_
  refine g_ldc2 rfl ?_
  refine g_callSI [aJ 11, aJ 0, aJ 19] [] rfl rfl rfl rfl (Nat.le_of_ble_eq_true rfl) (c_in (by omega) _ _ _ _) ?_
  rintro r1 _ ⟨rfl, rfl⟩
  refine g_b_eq rfl (fun c19 => ?_) (fun c19 => ?_)
  · skip
    refine g_iconst rfl ?_
    refine g_iret rfl ?_
    have es : stepM S 2 2 1 a b (m_s11_O S a b) = (-1, S) := by unfold stepM; rw [if_neg (by unfold isS; omega)]
    rw [es]
    exact ⟨V0, rfl, (KM.of (G0.wide (fun q hq => by have hq : q = o + 24 ∨ q = o + 25 := hq; show o + 24 ≤ q ∧ q ≤ o + 31; omega))).fr (T := fun q => o + 24 ≤ q ∧ q ≤ o + 31) (fun q hq => hq) eV0, rfl, mt⟩
  · skip
    refine g_aload_n rfl rfl ?_
    refine g_iload_n rfl rfl ?_
    refine g_iload_n rfl rfl ?_
    refine g_callSI [aI 11] [aI a, aO (some o)] rfl rfl rfl rfl (Nat.le_of_ble_eq_true rfl) (m_wants11 (by omega) _) ?_
    rintro _ _ ⟨rfl, rfl⟩
    refine g_bipush rfl ?_
    refine g_idivN (m := 10) (n := 22) rfl (by omega) (by omega) ?_
    refine g_top (v2 := aI 2) (congrArg aI (by rfl)) ?_
    refine g_callVI [aI a, aI 2] [] rfl rfl rfl rfl (Nat.le_of_ble_eq_true rfl) ms.1 (m_fits (by omega) ms V0 ok mt a 2 (by omega)) ?_
    rintro r2 _ ⟨rfl, e3⟩
    rw [e3]
    clear e3 r2
    refine g_b_eq rfl (fun c34 => ?_) (fun c34 => ?_)
    · skip
      refine g_iconst rfl ?_
      refine g_iret rfl ?_
      have es : stepM S 2 2 1 a b (m_s11_O S a b) = (-1, S) := by unfold stepM; rw [if_neg (by unfold isS; omega)]
      rw [es]
      exact ⟨V0, rfl, (KM.of (G0.wide (fun q hq => by have hq : q = o + 24 ∨ q = o + 25 := hq; show o + 24 ≤ q ∧ q ≤ o + 31; omega))).fr (T := fun q => o + 24 ≤ q ∧ q ≤ o + 31) (fun q hq => hq) eV0, rfl, mt⟩
    · skip
      refine g_aload_n rfl rfl ?_
      refine g_iload_n rfl rfl ?_
      refine g_iload_n rfl rfl ?_
      refine g_callSI [aI 11] [aI b, aO (some o)] rfl rfl rfl rfl (Nat.le_of_ble_eq_true rfl) (m_wants11 (by omega) _) ?_
      rintro _ _ ⟨rfl, rfl⟩
      refine g_bipush rfl ?_
      refine g_iremN (m := 10) (n := 22) rfl (by omega) ?_
      refine g_top (v2 := aI 2) (congrArg aI (by rfl)) ?_
      refine g_callVI [aI b, aI 2] [] rfl rfl rfl rfl (Nat.le_of_ble_eq_true rfl) ms.1 (m_fits (by omega) ms V0 ok mt b 2 (by omega)) ?_
      rintro r4 _ ⟨rfl, e5⟩
      rw [e5]
      clear e5 r4
      refine g_b_ne rfl (fun c49 => ?_) (fun c49 => ?_)
      · skip
        refine g_iload_n rfl rfl ?_
        refine g_if_ne_t rfl (by omega) ?_
        have ha : 0 ≤ a ∧ a < sT S := by omega
        have hb : 0 ≤ b ∧ b < sT S := by omega
        refine g_aload_n rfl rfl ?_
        refine g_aload_n rfl rfl ?_
        refine g_getR rfl ms.1 (mr_one ms) ?_
        refine g_iload_n rfl rfl ?_
        refine g_callVN [aO (some (o + 24)), aI a] [] rfl rfl rfl rfl (Nat.le_of_ble_eq_true rfl) ms.1 (m_load (by omega) ms V0 ok mt (by have := G0.2.2.1; omega) ((o + 24)) (show SLa o ((o + 24)) by unfold SLa; omega) a ha) ?_
        rintro _ ⟨V6, rfl, g6, t6, u6, v6, y6, s6, xt6, xu6, xv6, xy6⟩
        have G_7 := G0.trans (g6.wide (fun q hq => by have hq : q = o + 24 := hq; show q = o + 24 ∨ q = o + 25; omega))
        refine g_aload_n rfl rfl ?_
        refine g_aload_n rfl rfl ?_
        refine g_getR rfl ms.1 (mr_two ms) ?_
        refine g_iload_n rfl rfl ?_
        refine g_callVN [aO (some (o + 25)), aI b] [] rfl rfl rfl rfl (Nat.le_of_ble_eq_true rfl) ms.1 (m_load (by omega) ms V6 ok (g6.mt (show ¬((o + 4) = o + 24) by omega) (show ¬((o + 5) = o + 24) by omega) mt) (by have := G_7.2.2.1; omega) ((o + 25)) (show SLa o ((o + 25)) by unfold SLa; omega) b hb) ?_
        rintro _ ⟨V8, rfl, g8, t8, u8, v8, y8, s8, xt8, xu8, xv8, xy8⟩
        have G_9 := G_7.trans (g8.wide (fun q hq => by have hq : q = o + 25 := hq; show q = o + 24 ∨ q = o + 25; omega))
        refine g_iload_n rfl rfl ?_
        refine g_bipush rfl ?_
        refine g_icmp_ge_t rfl (by omega) ?_
        refine g_iload_n rfl rfl ?_
        refine g_bipush rfl ?_
        refine g_icmp_ge_f rfl (by omega) ?_
        refine g_aload_n rfl rfl ?_
        refine g_iload_n rfl rfl ?_
        refine g_iload_n rfl rfl ?_
        refine g_iload_n rfl rfl ?_
        refine g_callVI [aI 11, aI a, aI b] [] rfl rfl rfl rfl (Nat.le_of_ble_eq_true rfl) ms.1 (m_round11 (by omega) ms V8 ok (g8.mt (show ¬((o + 4) = o + 25) by omega) (show ¬((o + 5) = o + 25) by omega) (g6.mt (show ¬((o + 4) = o + 24) by omega) (show ¬((o + 5) = o + 24) by omega) mt)) (by have := G_9.2.2.1; omega) a ha b hb (show SB V8 o (o + 24) (tpR S a) (20) from ⟨_, _, _, _, (g8.sa (show SLa o ((o + 24)) by unfold SLa; omega) (show ¬(o + 24 = o + 25) by omega) s6), ((g8.rb xt6).up (by omega)), ((g8.rb xu6).up (by omega)), ((g8.rb xv6).up (by omega)), ((g8.rb xy6).up (by omega))⟩) (show SB V8 o (o + 25) (tpR S b) (20) from ⟨_, _, _, _, s8, (xt8.up (by omega)), (xu8.up (by omega)), (xv8.up (by omega)), (xy8.up (by omega))⟩)) ?_
        rintro r10 _ ⟨V10, rfl, k10, e10, m10⟩
        refine g_iret rfl ?_
        have es : stepM S 2 2 1 a b (m_s11_O S a b) = keepM S 1 (m_s11_O S a b) := by unfold stepM; rw [if_pos (by unfold isS; omega)]
        rw [es]
        exact ⟨_, rfl, (Gs.km (G_9.wide (fun q hq => by have hq : q = o + 24 ∨ q = o + 25 := hq; show o + 24 ≤ q ∧ q ≤ o + 31; omega)) k10 (T := fun q => o + 24 ≤ q ∧ q ≤ o + 31) (fun q hq => by omega)).fr (fun q hq => hq) eV0, e10, m10⟩
      · skip
        refine g_iconst rfl ?_
        refine g_iret rfl ?_
        have es : stepM S 2 2 1 a b (m_s11_O S a b) = (-1, S) := by unfold stepM; rw [if_neg (by unfold isS; omega)]
        rw [es]
        exact ⟨V0, rfl, (KM.of (G0.wide (fun q hq => by have hq : q = o + 24 ∨ q = o + 25 := hq; show o + 24 ≤ q ∧ q ≤ o + 31; omega))).fr (T := fun q => o + 24 ≤ q ∧ q ≤ o + 31) (fun q hq => hq) eV0, rfl, mt⟩
set_option maxHeartbeats 4000000 in
theorem m_step12 {w : aW} {d : Nat} (hd : 10 ≤ d) {h : aH} {o : Nat} (ms : MS h o) (V : Nat → Nat → Int) {S : aS} (ok : OkT S) (mt : MT V o S) (a b : Int) : WP w d 307 [aO (some o), aI 12, aI a, aI b] (hw h V) (RI (fun r h1 => ∃ V1, h1 = hw h V1 ∧ FR V V1 o ∧ r = (stepM S 0 0 2 a b (m_s12_O S a b)).1 ∧ MT V1 o (stepM S 0 0 2 a b (m_s12_O S a b)).2)) := by
  obtain ⟨d, rfl⟩ : ∃ d1, d = d1 + 1 := ⟨d - 1, by omega⟩
  refine WP.enter (cd := cd_X12_step) rfl ?_
  have hn := ok.1
  have hls : largs 0 [aO (some o), aI 12, aI a, aI b] = [(0, aO (some o)), (1, aI 12), (2, aI a), (3, aI b)] := rfl
  rw [hls]
  clear hls
  refine g_aload_n rfl rfl ?_
  refine g_iconst rfl ?_
  refine g_putI rfl ms.1 ?_
  refine g_hp (h2 := hw h (vset V o 31 0)) rfl ?_
  refine g_aload_n rfl rfl ?_
  refine g_iconst rfl ?_
  refine g_putI rfl ms.1 ?_
  obtain ⟨V0, eV0⟩ : ∃ W, W = vset (vset V o 31 0) o 1 0 := ⟨_, rfl⟩
  refine g_hp (h2 := hw h V0) (by rw [eV0]; rfl) ?_
  have mt : MT V0 o S := by rw [eV0]; exact mt.rs
  have f0 : V0 o 1 = 0 := by rw [eV0]; exact vset_eq _ _ _ _
  have G0 := Gs.refl V0 o (fun q => q = o + 24 ∨ q = o + 25)
  refine g_iload_n rfl rfl ?_
  refine g_i2l rfl ?_
  refine g_lconst0 rfl ?_
  refine g_ldc2 rfl ?_
  refine g_callSI [aJ 12, aJ 0, aJ 19] [] rfl rfl rfl rfl (Nat.le_of_ble_eq_true rfl) (c_in (by omega) _ _ _ _) ?_
  rintro r1 _ ⟨rfl, rfl⟩
  refine g_b_eq rfl (fun c19 => ?_) (fun c19 => ?_)
  · skip
    refine g_iconst rfl ?_
    refine g_iret rfl ?_
    have es : stepM S 0 0 2 a b (m_s12_O S a b) = (-1, S) := by unfold stepM; rw [if_neg (by unfold isS; omega)]
    rw [es]
    exact ⟨V0, rfl, (KM.of (G0.wide (fun q hq => by have hq : q = o + 24 ∨ q = o + 25 := hq; show o + 24 ≤ q ∧ q ≤ o + 31; omega))).fr (T := fun q => o + 24 ≤ q ∧ q ≤ o + 31) (fun q hq => hq) eV0, rfl, mt⟩
  · skip
    refine g_aload_n rfl rfl ?_
    refine g_iload_n rfl rfl ?_
    refine g_iload_n rfl rfl ?_
    refine g_callSI [aI 12] [aI a, aO (some o)] rfl rfl rfl rfl (Nat.le_of_ble_eq_true rfl) (m_wants12 (by omega) _) ?_
    rintro _ _ ⟨rfl, rfl⟩
    refine g_bipush rfl ?_
    refine g_idivN (m := 10) (n := 0) rfl (by omega) (by omega) ?_
    refine g_top (v2 := aI 0) (congrArg aI (by rfl)) ?_
    refine g_callVI [aI a, aI 0] [] rfl rfl rfl rfl (Nat.le_of_ble_eq_true rfl) ms.1 (m_fits (by omega) ms V0 ok mt a 0 (by omega)) ?_
    rintro r2 _ ⟨rfl, e3⟩
    rw [e3]
    clear e3 r2
    refine g_b_eq rfl (fun c34 => ?_) (fun c34 => ?_)
    · skip
      refine g_iconst rfl ?_
      refine g_iret rfl ?_
      have es : stepM S 0 0 2 a b (m_s12_O S a b) = (-1, S) := by unfold stepM; rw [if_neg (by unfold isS; omega)]
      rw [es]
      exact ⟨V0, rfl, (KM.of (G0.wide (fun q hq => by have hq : q = o + 24 ∨ q = o + 25 := hq; show o + 24 ≤ q ∧ q ≤ o + 31; omega))).fr (T := fun q => o + 24 ≤ q ∧ q ≤ o + 31) (fun q hq => hq) eV0, rfl, mt⟩
    · skip
      refine g_aload_n rfl rfl ?_
      refine g_iload_n rfl rfl ?_
      refine g_iload_n rfl rfl ?_
      refine g_callSI [aI 12] [aI b, aO (some o)] rfl rfl rfl rfl (Nat.le_of_ble_eq_true rfl) (m_wants12 (by omega) _) ?_
      rintro _ _ ⟨rfl, rfl⟩
      refine g_bipush rfl ?_
      refine g_iremN (m := 10) (n := 0) rfl (by omega) ?_
      refine g_top (v2 := aI 0) (congrArg aI (by rfl)) ?_
      refine g_callVI [aI b, aI 0] [] rfl rfl rfl rfl (Nat.le_of_ble_eq_true rfl) ms.1 (m_fits (by omega) ms V0 ok mt b 0 (by omega)) ?_
      rintro r4 _ ⟨rfl, e5⟩
      rw [e5]
      clear e5 r4
      refine g_b_ne rfl (fun c49 => ?_) (fun c49 => ?_)
      · skip
        refine g_iload_n rfl rfl ?_
        refine g_if_ne_t rfl (by omega) ?_
        have ha : 0 ≤ a ∧ a < sT S := by omega
        have hb : 0 ≤ b ∧ b < sT S := by omega
        refine g_aload_n rfl rfl ?_
        refine g_aload_n rfl rfl ?_
        refine g_getR rfl ms.1 (mr_one ms) ?_
        refine g_iload_n rfl rfl ?_
        refine g_callVN [aO (some (o + 24)), aI a] [] rfl rfl rfl rfl (Nat.le_of_ble_eq_true rfl) ms.1 (m_load (by omega) ms V0 ok mt (by have := G0.2.2.1; omega) ((o + 24)) (show SLa o ((o + 24)) by unfold SLa; omega) a ha) ?_
        rintro _ ⟨V6, rfl, g6, t6, u6, v6, y6, s6, xt6, xu6, xv6, xy6⟩
        have G_7 := G0.trans (g6.wide (fun q hq => by have hq : q = o + 24 := hq; show q = o + 24 ∨ q = o + 25; omega))
        refine g_aload_n rfl rfl ?_
        refine g_aload_n rfl rfl ?_
        refine g_getR rfl ms.1 (mr_two ms) ?_
        refine g_iload_n rfl rfl ?_
        refine g_callVN [aO (some (o + 25)), aI b] [] rfl rfl rfl rfl (Nat.le_of_ble_eq_true rfl) ms.1 (m_load (by omega) ms V6 ok (g6.mt (show ¬((o + 4) = o + 24) by omega) (show ¬((o + 5) = o + 24) by omega) mt) (by have := G_7.2.2.1; omega) ((o + 25)) (show SLa o ((o + 25)) by unfold SLa; omega) b hb) ?_
        rintro _ ⟨V8, rfl, g8, t8, u8, v8, y8, s8, xt8, xu8, xv8, xy8⟩
        have G_9 := G_7.trans (g8.wide (fun q hq => by have hq : q = o + 25 := hq; show q = o + 24 ∨ q = o + 25; omega))
        refine g_iload_n rfl rfl ?_
        refine g_bipush rfl ?_
        refine g_icmp_ge_t rfl (by omega) ?_
        refine g_iload_n rfl rfl ?_
        refine g_bipush rfl ?_
        refine g_icmp_ge_f rfl (by omega) ?_
        refine g_aload_n rfl rfl ?_
        refine g_iload_n rfl rfl ?_
        refine g_iload_n rfl rfl ?_
        refine g_iload_n rfl rfl ?_
        refine g_callVI [aI 12, aI a, aI b] [] rfl rfl rfl rfl (Nat.le_of_ble_eq_true rfl) ms.1 (m_round12 (by omega) ms V8 ok (g8.mt (show ¬((o + 4) = o + 25) by omega) (show ¬((o + 5) = o + 25) by omega) (g6.mt (show ¬((o + 4) = o + 24) by omega) (show ¬((o + 5) = o + 24) by omega) mt)) (by have := G_9.2.2.1; omega) a ha b hb (show SB V8 o (o + 24) (tpR S a) (20) from ⟨_, _, _, _, (g8.sa (show SLa o ((o + 24)) by unfold SLa; omega) (show ¬(o + 24 = o + 25) by omega) s6), ((g8.rb xt6).up (by omega)), ((g8.rb xu6).up (by omega)), ((g8.rb xv6).up (by omega)), ((g8.rb xy6).up (by omega))⟩) (show SB V8 o (o + 25) (tpR S b) (20) from ⟨_, _, _, _, s8, (xt8.up (by omega)), (xu8.up (by omega)), (xv8.up (by omega)), (xy8.up (by omega))⟩)) ?_
        rintro r10 _ ⟨V10, rfl, k10, e10, m10⟩
        refine g_iret rfl ?_
        have es : stepM S 0 0 2 a b (m_s12_O S a b) = keepM S 2 (m_s12_O S a b) := by unfold stepM; rw [if_pos (by unfold isS; omega)]
        rw [es]
        exact ⟨_, rfl, (Gs.km (G_9.wide (fun q hq => by have hq : q = o + 24 ∨ q = o + 25 := hq; show o + 24 ≤ q ∧ q ≤ o + 31; omega)) k10 (T := fun q => o + 24 ≤ q ∧ q ≤ o + 31) (fun q hq => by omega)).fr (fun q hq => hq) eV0, e10, m10⟩
      · skip
        refine g_iconst rfl ?_
        refine g_iret rfl ?_
        have es : stepM S 0 0 2 a b (m_s12_O S a b) = (-1, S) := by unfold stepM; rw [if_neg (by unfold isS; omega)]
        rw [es]
        exact ⟨V0, rfl, (KM.of (G0.wide (fun q hq => by have hq : q = o + 24 ∨ q = o + 25 := hq; show o + 24 ≤ q ∧ q ≤ o + 31; omega))).fr (T := fun q => o + 24 ≤ q ∧ q ≤ o + 31) (fun q hq => hq) eV0, rfl, mt⟩
set_option maxHeartbeats 4000000 in
theorem m_step13 {w : aW} {d : Nat} (hd : 10 ≤ d) {h : aH} {o : Nat} (ms : MS h o) (V : Nat → Nat → Int) {S : aS} (ok : OkT S) (mt : MT V o S) (a b : Int) : WP w d 307 [aO (some o), aI 13, aI a, aI b] (hw h V) (RI (fun r h1 => ∃ V1, h1 = hw h V1 ∧ FR V V1 o ∧ r = (stepM S 0 0 2 a b (m_s13_O S a b)).1 ∧ MT V1 o (stepM S 0 0 2 a b (m_s13_O S a b)).2)) := by
  obtain ⟨d, rfl⟩ : ∃ d1, d = d1 + 1 := ⟨d - 1, by omega⟩
  refine WP.enter (cd := cd_X12_step) rfl ?_
  have hn := ok.1
  have hls : largs 0 [aO (some o), aI 13, aI a, aI b] = [(0, aO (some o)), (1, aI 13), (2, aI a), (3, aI b)] := rfl
  rw [hls]
  clear hls
  refine g_aload_n rfl rfl ?_
  refine g_iconst rfl ?_
  refine g_putI rfl ms.1 ?_
  refine g_hp (h2 := hw h (vset V o 31 0)) rfl ?_
  refine g_aload_n rfl rfl ?_
  refine g_iconst rfl ?_
  refine g_putI rfl ms.1 ?_
  obtain ⟨V0, eV0⟩ : ∃ W, W = vset (vset V o 31 0) o 1 0 := ⟨_, rfl⟩
  refine g_hp (h2 := hw h V0) (by rw [eV0]; rfl) ?_
  have mt : MT V0 o S := by rw [eV0]; exact mt.rs
  have f0 : V0 o 1 = 0 := by rw [eV0]; exact vset_eq _ _ _ _
  have G0 := Gs.refl V0 o (fun q => q = o + 24 ∨ q = o + 25)
  refine g_iload_n rfl rfl ?_
  refine g_i2l rfl ?_
  refine g_lconst0 rfl ?_
  refine g_ldc2 rfl ?_
  refine g_callSI [aJ 13, aJ 0, aJ 19] [] rfl rfl rfl rfl (Nat.le_of_ble_eq_true rfl) (c_in (by omega) _ _ _ _) ?_
  rintro r1 _ ⟨rfl, rfl⟩
  refine g_b_eq rfl (fun c19 => ?_) (fun c19 => ?_)
  · skip
    refine g_iconst rfl ?_
    refine g_iret rfl ?_
    have es : stepM S 0 0 2 a b (m_s13_O S a b) = (-1, S) := by unfold stepM; rw [if_neg (by unfold isS; omega)]
    rw [es]
    exact ⟨V0, rfl, (KM.of (G0.wide (fun q hq => by have hq : q = o + 24 ∨ q = o + 25 := hq; show o + 24 ≤ q ∧ q ≤ o + 31; omega))).fr (T := fun q => o + 24 ≤ q ∧ q ≤ o + 31) (fun q hq => hq) eV0, rfl, mt⟩
  · skip
    refine g_aload_n rfl rfl ?_
    refine g_iload_n rfl rfl ?_
    refine g_iload_n rfl rfl ?_
    refine g_callSI [aI 13] [aI a, aO (some o)] rfl rfl rfl rfl (Nat.le_of_ble_eq_true rfl) (m_wants13 (by omega) _) ?_
    rintro _ _ ⟨rfl, rfl⟩
    refine g_bipush rfl ?_
    refine g_idivN (m := 10) (n := 0) rfl (by omega) (by omega) ?_
    refine g_top (v2 := aI 0) (congrArg aI (by rfl)) ?_
    refine g_callVI [aI a, aI 0] [] rfl rfl rfl rfl (Nat.le_of_ble_eq_true rfl) ms.1 (m_fits (by omega) ms V0 ok mt a 0 (by omega)) ?_
    rintro r2 _ ⟨rfl, e3⟩
    rw [e3]
    clear e3 r2
    refine g_b_eq rfl (fun c34 => ?_) (fun c34 => ?_)
    · skip
      refine g_iconst rfl ?_
      refine g_iret rfl ?_
      have es : stepM S 0 0 2 a b (m_s13_O S a b) = (-1, S) := by unfold stepM; rw [if_neg (by unfold isS; omega)]
      rw [es]
      exact ⟨V0, rfl, (KM.of (G0.wide (fun q hq => by have hq : q = o + 24 ∨ q = o + 25 := hq; show o + 24 ≤ q ∧ q ≤ o + 31; omega))).fr (T := fun q => o + 24 ≤ q ∧ q ≤ o + 31) (fun q hq => hq) eV0, rfl, mt⟩
    · skip
      refine g_aload_n rfl rfl ?_
      refine g_iload_n rfl rfl ?_
      refine g_iload_n rfl rfl ?_
      refine g_callSI [aI 13] [aI b, aO (some o)] rfl rfl rfl rfl (Nat.le_of_ble_eq_true rfl) (m_wants13 (by omega) _) ?_
      rintro _ _ ⟨rfl, rfl⟩
      refine g_bipush rfl ?_
      refine g_iremN (m := 10) (n := 0) rfl (by omega) ?_
      refine g_top (v2 := aI 0) (congrArg aI (by rfl)) ?_
      refine g_callVI [aI b, aI 0] [] rfl rfl rfl rfl (Nat.le_of_ble_eq_true rfl) ms.1 (m_fits (by omega) ms V0 ok mt b 0 (by omega)) ?_
      rintro r4 _ ⟨rfl, e5⟩
      rw [e5]
      clear e5 r4
      refine g_b_ne rfl (fun c49 => ?_) (fun c49 => ?_)
      · skip
        refine g_iload_n rfl rfl ?_
        refine g_if_ne_t rfl (by omega) ?_
        have ha : 0 ≤ a ∧ a < sT S := by omega
        have hb : 0 ≤ b ∧ b < sT S := by omega
        refine g_aload_n rfl rfl ?_
        refine g_aload_n rfl rfl ?_
        refine g_getR rfl ms.1 (mr_one ms) ?_
        refine g_iload_n rfl rfl ?_
        refine g_callVN [aO (some (o + 24)), aI a] [] rfl rfl rfl rfl (Nat.le_of_ble_eq_true rfl) ms.1 (m_load (by omega) ms V0 ok mt (by have := G0.2.2.1; omega) ((o + 24)) (show SLa o ((o + 24)) by unfold SLa; omega) a ha) ?_
        rintro _ ⟨V6, rfl, g6, t6, u6, v6, y6, s6, xt6, xu6, xv6, xy6⟩
        have G_7 := G0.trans (g6.wide (fun q hq => by have hq : q = o + 24 := hq; show q = o + 24 ∨ q = o + 25; omega))
        refine g_aload_n rfl rfl ?_
        refine g_aload_n rfl rfl ?_
        refine g_getR rfl ms.1 (mr_two ms) ?_
        refine g_iload_n rfl rfl ?_
        refine g_callVN [aO (some (o + 25)), aI b] [] rfl rfl rfl rfl (Nat.le_of_ble_eq_true rfl) ms.1 (m_load (by omega) ms V6 ok (g6.mt (show ¬((o + 4) = o + 24) by omega) (show ¬((o + 5) = o + 24) by omega) mt) (by have := G_7.2.2.1; omega) ((o + 25)) (show SLa o ((o + 25)) by unfold SLa; omega) b hb) ?_
        rintro _ ⟨V8, rfl, g8, t8, u8, v8, y8, s8, xt8, xu8, xv8, xy8⟩
        have G_9 := G_7.trans (g8.wide (fun q hq => by have hq : q = o + 25 := hq; show q = o + 24 ∨ q = o + 25; omega))
        refine g_iload_n rfl rfl ?_
        refine g_bipush rfl ?_
        refine g_icmp_ge_t rfl (by omega) ?_
        refine g_iload_n rfl rfl ?_
        refine g_bipush rfl ?_
        refine g_icmp_ge_f rfl (by omega) ?_
        refine g_aload_n rfl rfl ?_
        refine g_iload_n rfl rfl ?_
        refine g_iload_n rfl rfl ?_
        refine g_iload_n rfl rfl ?_
        refine g_callVI [aI 13, aI a, aI b] [] rfl rfl rfl rfl (Nat.le_of_ble_eq_true rfl) ms.1 (m_round13 (by omega) ms V8 ok (g8.mt (show ¬((o + 4) = o + 25) by omega) (show ¬((o + 5) = o + 25) by omega) (g6.mt (show ¬((o + 4) = o + 24) by omega) (show ¬((o + 5) = o + 24) by omega) mt)) (by have := G_9.2.2.1; omega) a ha b hb (show SB V8 o (o + 24) (tpR S a) (20) from ⟨_, _, _, _, (g8.sa (show SLa o ((o + 24)) by unfold SLa; omega) (show ¬(o + 24 = o + 25) by omega) s6), ((g8.rb xt6).up (by omega)), ((g8.rb xu6).up (by omega)), ((g8.rb xv6).up (by omega)), ((g8.rb xy6).up (by omega))⟩) (show SB V8 o (o + 25) (tpR S b) (20) from ⟨_, _, _, _, s8, (xt8.up (by omega)), (xu8.up (by omega)), (xv8.up (by omega)), (xy8.up (by omega))⟩)) ?_
        rintro r10 _ ⟨V10, rfl, k10, e10, m10⟩
        refine g_iret rfl ?_
        have es : stepM S 0 0 2 a b (m_s13_O S a b) = keepM S 2 (m_s13_O S a b) := by unfold stepM; rw [if_pos (by unfold isS; omega)]
        rw [es]
        exact ⟨_, rfl, (Gs.km (G_9.wide (fun q hq => by have hq : q = o + 24 ∨ q = o + 25 := hq; show o + 24 ≤ q ∧ q ≤ o + 31; omega)) k10 (T := fun q => o + 24 ≤ q ∧ q ≤ o + 31) (fun q hq => by omega)).fr (fun q hq => hq) eV0, e10, m10⟩
      · skip
        refine g_iconst rfl ?_
        refine g_iret rfl ?_
        have es : stepM S 0 0 2 a b (m_s13_O S a b) = (-1, S) := by unfold stepM; rw [if_neg (by unfold isS; omega)]
        rw [es]
        exact ⟨V0, rfl, (KM.of (G0.wide (fun q hq => by have hq : q = o + 24 ∨ q = o + 25 := hq; show o + 24 ≤ q ∧ q ≤ o + 31; omega))).fr (T := fun q => o + 24 ≤ q ∧ q ≤ o + 31) (fun q hq => hq) eV0, rfl, mt⟩
set_option maxHeartbeats 4000000 in
theorem m_step14 {w : aW} {d : Nat} (hd : 10 ≤ d) {h : aH} {o : Nat} (ms : MS h o) (V : Nat → Nat → Int) {S : aS} (ok : OkT S) (mt : MT V o S) (a b : Int) : WP w d 307 [aO (some o), aI 14, aI a, aI b] (hw h V) (RI (fun r h1 => ∃ V1, h1 = hw h V1 ∧ FR V V1 o ∧ r = (stepM S 1 2 0 a b (m_s14_O S a b)).1 ∧ MT V1 o (stepM S 1 2 0 a b (m_s14_O S a b)).2)) := by
  obtain ⟨d, rfl⟩ : ∃ d1, d = d1 + 1 := ⟨d - 1, by omega⟩
  refine WP.enter (cd := cd_X12_step) rfl ?_
  have hn := ok.1
  have hls : largs 0 [aO (some o), aI 14, aI a, aI b] = [(0, aO (some o)), (1, aI 14), (2, aI a), (3, aI b)] := rfl
  rw [hls]
  clear hls
  refine g_aload_n rfl rfl ?_
  refine g_iconst rfl ?_
  refine g_putI rfl ms.1 ?_
  refine g_hp (h2 := hw h (vset V o 31 0)) rfl ?_
  refine g_aload_n rfl rfl ?_
  refine g_iconst rfl ?_
  refine g_putI rfl ms.1 ?_
  obtain ⟨V0, eV0⟩ : ∃ W, W = vset (vset V o 31 0) o 1 0 := ⟨_, rfl⟩
  refine g_hp (h2 := hw h V0) (by rw [eV0]; rfl) ?_
  have mt : MT V0 o S := by rw [eV0]; exact mt.rs
  have f0 : V0 o 1 = 0 := by rw [eV0]; exact vset_eq _ _ _ _
  have G0 := Gs.refl V0 o (fun q => q = o + 24 ∨ q = o + 25)
  refine g_iload_n rfl rfl ?_
  refine g_i2l rfl ?_
  refine g_lconst0 rfl ?_
  refine g_ldc2 rfl ?_
  refine g_callSI [aJ 14, aJ 0, aJ 19] [] rfl rfl rfl rfl (Nat.le_of_ble_eq_true rfl) (c_in (by omega) _ _ _ _) ?_
  rintro r1 _ ⟨rfl, rfl⟩
  refine g_b_eq rfl (fun c19 => ?_) (fun c19 => ?_)
  · skip
    refine g_iconst rfl ?_
    refine g_iret rfl ?_
    have es : stepM S 1 2 0 a b (m_s14_O S a b) = (-1, S) := by unfold stepM; rw [if_neg (by unfold isS; omega)]
    rw [es]
    exact ⟨V0, rfl, (KM.of (G0.wide (fun q hq => by have hq : q = o + 24 ∨ q = o + 25 := hq; show o + 24 ≤ q ∧ q ≤ o + 31; omega))).fr (T := fun q => o + 24 ≤ q ∧ q ≤ o + 31) (fun q hq => hq) eV0, rfl, mt⟩
  · skip
    refine g_aload_n rfl rfl ?_
    refine g_iload_n rfl rfl ?_
    refine g_iload_n rfl rfl ?_
    refine g_callSI [aI 14] [aI a, aO (some o)] rfl rfl rfl rfl (Nat.le_of_ble_eq_true rfl) (m_wants14 (by omega) _) ?_
    rintro _ _ ⟨rfl, rfl⟩
    refine g_bipush rfl ?_
    refine g_idivN (m := 10) (n := 12) rfl (by omega) (by omega) ?_
    refine g_top (v2 := aI 1) (congrArg aI (by rfl)) ?_
    refine g_callVI [aI a, aI 1] [] rfl rfl rfl rfl (Nat.le_of_ble_eq_true rfl) ms.1 (m_fits (by omega) ms V0 ok mt a 1 (by omega)) ?_
    rintro r2 _ ⟨rfl, e3⟩
    rw [e3]
    clear e3 r2
    refine g_b_eq rfl (fun c34 => ?_) (fun c34 => ?_)
    · skip
      refine g_iconst rfl ?_
      refine g_iret rfl ?_
      have es : stepM S 1 2 0 a b (m_s14_O S a b) = (-1, S) := by unfold stepM; rw [if_neg (by unfold isS; omega)]
      rw [es]
      exact ⟨V0, rfl, (KM.of (G0.wide (fun q hq => by have hq : q = o + 24 ∨ q = o + 25 := hq; show o + 24 ≤ q ∧ q ≤ o + 31; omega))).fr (T := fun q => o + 24 ≤ q ∧ q ≤ o + 31) (fun q hq => hq) eV0, rfl, mt⟩
    · skip
      refine g_aload_n rfl rfl ?_
      refine g_iload_n rfl rfl ?_
      refine g_iload_n rfl rfl ?_
      refine g_callSI [aI 14] [aI b, aO (some o)] rfl rfl rfl rfl (Nat.le_of_ble_eq_true rfl) (m_wants14 (by omega) _) ?_
      rintro _ _ ⟨rfl, rfl⟩
      refine g_bipush rfl ?_
      refine g_iremN (m := 10) (n := 12) rfl (by omega) ?_
      refine g_top (v2 := aI 2) (congrArg aI (by rfl)) ?_
      refine g_callVI [aI b, aI 2] [] rfl rfl rfl rfl (Nat.le_of_ble_eq_true rfl) ms.1 (m_fits (by omega) ms V0 ok mt b 2 (by omega)) ?_
      rintro r4 _ ⟨rfl, e5⟩
      rw [e5]
      clear e5 r4
      refine g_b_ne rfl (fun c49 => ?_) (fun c49 => ?_)
      · skip
        refine g_iload_n rfl rfl ?_
        refine g_if_ne_t rfl (by omega) ?_
        have ha : 0 ≤ a ∧ a < sT S := by omega
        have hb : 0 ≤ b ∧ b < sT S := by omega
        refine g_aload_n rfl rfl ?_
        refine g_aload_n rfl rfl ?_
        refine g_getR rfl ms.1 (mr_one ms) ?_
        refine g_iload_n rfl rfl ?_
        refine g_callVN [aO (some (o + 24)), aI a] [] rfl rfl rfl rfl (Nat.le_of_ble_eq_true rfl) ms.1 (m_load (by omega) ms V0 ok mt (by have := G0.2.2.1; omega) ((o + 24)) (show SLa o ((o + 24)) by unfold SLa; omega) a ha) ?_
        rintro _ ⟨V6, rfl, g6, t6, u6, v6, y6, s6, xt6, xu6, xv6, xy6⟩
        have G_7 := G0.trans (g6.wide (fun q hq => by have hq : q = o + 24 := hq; show q = o + 24 ∨ q = o + 25; omega))
        refine g_aload_n rfl rfl ?_
        refine g_aload_n rfl rfl ?_
        refine g_getR rfl ms.1 (mr_two ms) ?_
        refine g_iload_n rfl rfl ?_
        refine g_callVN [aO (some (o + 25)), aI b] [] rfl rfl rfl rfl (Nat.le_of_ble_eq_true rfl) ms.1 (m_load (by omega) ms V6 ok (g6.mt (show ¬((o + 4) = o + 24) by omega) (show ¬((o + 5) = o + 24) by omega) mt) (by have := G_7.2.2.1; omega) ((o + 25)) (show SLa o ((o + 25)) by unfold SLa; omega) b hb) ?_
        rintro _ ⟨V8, rfl, g8, t8, u8, v8, y8, s8, xt8, xu8, xv8, xy8⟩
        have G_9 := G_7.trans (g8.wide (fun q hq => by have hq : q = o + 25 := hq; show q = o + 24 ∨ q = o + 25; omega))
        refine g_iload_n rfl rfl ?_
        refine g_bipush rfl ?_
        refine g_icmp_ge_t rfl (by omega) ?_
        refine g_iload_n rfl rfl ?_
        refine g_bipush rfl ?_
        refine g_icmp_ge_t rfl (by omega) ?_
        refine g_aload_n rfl rfl ?_
        refine g_iload_n rfl rfl ?_
        refine g_iload_n rfl rfl ?_
        refine g_callVI [aI 14, aI a] [] rfl rfl rfl rfl (Nat.le_of_ble_eq_true rfl) ms.1 (m_meeting14 (by omega) ms V8 ok (g8.mt (show ¬((o + 4) = o + 25) by omega) (show ¬((o + 5) = o + 25) by omega) (g6.mt (show ¬((o + 4) = o + 24) by omega) (show ¬((o + 5) = o + 24) by omega) mt)) (by have := G_9.2.2.1; omega) b a ha (show SB V8 o (o + 24) (tpR S a) (20) from ⟨_, _, _, _, (g8.sa (show SLa o ((o + 24)) by unfold SLa; omega) (show ¬(o + 24 = o + 25) by omega) s6), ((g8.rb xt6).up (by omega)), ((g8.rb xu6).up (by omega)), ((g8.rb xv6).up (by omega)), ((g8.rb xy6).up (by omega))⟩) (show SB V8 o (o + 25) (tpR S b) (20) from ⟨_, _, _, _, s8, (xt8.up (by omega)), (xu8.up (by omega)), (xv8.up (by omega)), (xy8.up (by omega))⟩)) ?_
        rintro r10 _ ⟨V10, rfl, k10, e10, m10⟩
        refine g_iret rfl ?_
        have es : stepM S 1 2 0 a b (m_s14_O S a b) = keepM S 0 (m_s14_O S a b) := by unfold stepM; rw [if_pos (by unfold isS; omega)]
        rw [es]
        exact ⟨_, rfl, (Gs.km (G_9.wide (fun q hq => by have hq : q = o + 24 ∨ q = o + 25 := hq; show o + 24 ≤ q ∧ q ≤ o + 31; omega)) k10 (T := fun q => o + 24 ≤ q ∧ q ≤ o + 31) (fun q hq => by omega)).fr (fun q hq => hq) eV0, e10, m10⟩
      · skip
        refine g_iconst rfl ?_
        refine g_iret rfl ?_
        have es : stepM S 1 2 0 a b (m_s14_O S a b) = (-1, S) := by unfold stepM; rw [if_neg (by unfold isS; omega)]
        rw [es]
        exact ⟨V0, rfl, (KM.of (G0.wide (fun q hq => by have hq : q = o + 24 ∨ q = o + 25 := hq; show o + 24 ≤ q ∧ q ≤ o + 31; omega))).fr (T := fun q => o + 24 ≤ q ∧ q ≤ o + 31) (fun q hq => hq) eV0, rfl, mt⟩
set_option maxHeartbeats 4000000 in
theorem m_step15 {w : aW} {d : Nat} (hd : 10 ≤ d) {h : aH} {o : Nat} (ms : MS h o) (V : Nat → Nat → Int) {S : aS} (ok : OkT S) (mt : MT V o S) (a b : Int) : WP w d 307 [aO (some o), aI 15, aI a, aI b] (hw h V) (RI (fun r h1 => ∃ V1, h1 = hw h V1 ∧ FR V V1 o ∧ r = (stepM S 1 2 0 a b (m_s15_O S a b)).1 ∧ MT V1 o (stepM S 1 2 0 a b (m_s15_O S a b)).2)) := by
  obtain ⟨d, rfl⟩ : ∃ d1, d = d1 + 1 := ⟨d - 1, by omega⟩
  refine WP.enter (cd := cd_X12_step) rfl ?_
  have hn := ok.1
  have hls : largs 0 [aO (some o), aI 15, aI a, aI b] = [(0, aO (some o)), (1, aI 15), (2, aI a), (3, aI b)] := rfl
  rw [hls]
  clear hls
  refine g_aload_n rfl rfl ?_
  refine g_iconst rfl ?_
  refine g_putI rfl ms.1 ?_
  refine g_hp (h2 := hw h (vset V o 31 0)) rfl ?_
  refine g_aload_n rfl rfl ?_
  refine g_iconst rfl ?_
  refine g_putI rfl ms.1 ?_
  obtain ⟨V0, eV0⟩ : ∃ W, W = vset (vset V o 31 0) o 1 0 := ⟨_, rfl⟩
  refine g_hp (h2 := hw h V0) (by rw [eV0]; rfl) ?_
  have mt : MT V0 o S := by rw [eV0]; exact mt.rs
  have f0 : V0 o 1 = 0 := by rw [eV0]; exact vset_eq _ _ _ _
  have G0 := Gs.refl V0 o (fun q => q = o + 24 ∨ q = o + 25)
  refine g_iload_n rfl rfl ?_
  refine g_i2l rfl ?_
  refine g_lconst0 rfl ?_
  refine g_ldc2 rfl ?_
  refine g_callSI [aJ 15, aJ 0, aJ 19] [] rfl rfl rfl rfl (Nat.le_of_ble_eq_true rfl) (c_in (by omega) _ _ _ _) ?_
  rintro r1 _ ⟨rfl, rfl⟩
  refine g_b_eq rfl (fun c19 => ?_) (fun c19 => ?_)
  · skip
    refine g_iconst rfl ?_
    refine g_iret rfl ?_
    have es : stepM S 1 2 0 a b (m_s15_O S a b) = (-1, S) := by unfold stepM; rw [if_neg (by unfold isS; omega)]
    rw [es]
    exact ⟨V0, rfl, (KM.of (G0.wide (fun q hq => by have hq : q = o + 24 ∨ q = o + 25 := hq; show o + 24 ≤ q ∧ q ≤ o + 31; omega))).fr (T := fun q => o + 24 ≤ q ∧ q ≤ o + 31) (fun q hq => hq) eV0, rfl, mt⟩
  · skip
    refine g_aload_n rfl rfl ?_
    refine g_iload_n rfl rfl ?_
    refine g_iload_n rfl rfl ?_
    refine g_callSI [aI 15] [aI a, aO (some o)] rfl rfl rfl rfl (Nat.le_of_ble_eq_true rfl) (m_wants15 (by omega) _) ?_
    rintro _ _ ⟨rfl, rfl⟩
    refine g_bipush rfl ?_
    refine g_idivN (m := 10) (n := 12) rfl (by omega) (by omega) ?_
    refine g_top (v2 := aI 1) (congrArg aI (by rfl)) ?_
    refine g_callVI [aI a, aI 1] [] rfl rfl rfl rfl (Nat.le_of_ble_eq_true rfl) ms.1 (m_fits (by omega) ms V0 ok mt a 1 (by omega)) ?_
    rintro r2 _ ⟨rfl, e3⟩
    rw [e3]
    clear e3 r2
    refine g_b_eq rfl (fun c34 => ?_) (fun c34 => ?_)
    · skip
      refine g_iconst rfl ?_
      refine g_iret rfl ?_
      have es : stepM S 1 2 0 a b (m_s15_O S a b) = (-1, S) := by unfold stepM; rw [if_neg (by unfold isS; omega)]
      rw [es]
      exact ⟨V0, rfl, (KM.of (G0.wide (fun q hq => by have hq : q = o + 24 ∨ q = o + 25 := hq; show o + 24 ≤ q ∧ q ≤ o + 31; omega))).fr (T := fun q => o + 24 ≤ q ∧ q ≤ o + 31) (fun q hq => hq) eV0, rfl, mt⟩
    · skip
      refine g_aload_n rfl rfl ?_
      refine g_iload_n rfl rfl ?_
      refine g_iload_n rfl rfl ?_
      refine g_callSI [aI 15] [aI b, aO (some o)] rfl rfl rfl rfl (Nat.le_of_ble_eq_true rfl) (m_wants15 (by omega) _) ?_
      rintro _ _ ⟨rfl, rfl⟩
      refine g_bipush rfl ?_
      refine g_iremN (m := 10) (n := 12) rfl (by omega) ?_
      refine g_top (v2 := aI 2) (congrArg aI (by rfl)) ?_
      refine g_callVI [aI b, aI 2] [] rfl rfl rfl rfl (Nat.le_of_ble_eq_true rfl) ms.1 (m_fits (by omega) ms V0 ok mt b 2 (by omega)) ?_
      rintro r4 _ ⟨rfl, e5⟩
      rw [e5]
      clear e5 r4
      refine g_b_ne rfl (fun c49 => ?_) (fun c49 => ?_)
      · skip
        refine g_iload_n rfl rfl ?_
        refine g_if_ne_t rfl (by omega) ?_
        have ha : 0 ≤ a ∧ a < sT S := by omega
        have hb : 0 ≤ b ∧ b < sT S := by omega
        refine g_aload_n rfl rfl ?_
        refine g_aload_n rfl rfl ?_
        refine g_getR rfl ms.1 (mr_one ms) ?_
        refine g_iload_n rfl rfl ?_
        refine g_callVN [aO (some (o + 24)), aI a] [] rfl rfl rfl rfl (Nat.le_of_ble_eq_true rfl) ms.1 (m_load (by omega) ms V0 ok mt (by have := G0.2.2.1; omega) ((o + 24)) (show SLa o ((o + 24)) by unfold SLa; omega) a ha) ?_
        rintro _ ⟨V6, rfl, g6, t6, u6, v6, y6, s6, xt6, xu6, xv6, xy6⟩
        have G_7 := G0.trans (g6.wide (fun q hq => by have hq : q = o + 24 := hq; show q = o + 24 ∨ q = o + 25; omega))
        refine g_aload_n rfl rfl ?_
        refine g_aload_n rfl rfl ?_
        refine g_getR rfl ms.1 (mr_two ms) ?_
        refine g_iload_n rfl rfl ?_
        refine g_callVN [aO (some (o + 25)), aI b] [] rfl rfl rfl rfl (Nat.le_of_ble_eq_true rfl) ms.1 (m_load (by omega) ms V6 ok (g6.mt (show ¬((o + 4) = o + 24) by omega) (show ¬((o + 5) = o + 24) by omega) mt) (by have := G_7.2.2.1; omega) ((o + 25)) (show SLa o ((o + 25)) by unfold SLa; omega) b hb) ?_
        rintro _ ⟨V8, rfl, g8, t8, u8, v8, y8, s8, xt8, xu8, xv8, xy8⟩
        have G_9 := G_7.trans (g8.wide (fun q hq => by have hq : q = o + 25 := hq; show q = o + 24 ∨ q = o + 25; omega))
        refine g_iload_n rfl rfl ?_
        refine g_bipush rfl ?_
        refine g_icmp_ge_t rfl (by omega) ?_
        refine g_iload_n rfl rfl ?_
        refine g_bipush rfl ?_
        refine g_icmp_ge_t rfl (by omega) ?_
        refine g_aload_n rfl rfl ?_
        refine g_iload_n rfl rfl ?_
        refine g_iload_n rfl rfl ?_
        refine g_callVI [aI 15, aI a] [] rfl rfl rfl rfl (Nat.le_of_ble_eq_true rfl) ms.1 (m_meeting15 (by omega) ms V8 ok (g8.mt (show ¬((o + 4) = o + 25) by omega) (show ¬((o + 5) = o + 25) by omega) (g6.mt (show ¬((o + 4) = o + 24) by omega) (show ¬((o + 5) = o + 24) by omega) mt)) (by have := G_9.2.2.1; omega) b a ha (show SB V8 o (o + 24) (tpR S a) (20) from ⟨_, _, _, _, (g8.sa (show SLa o ((o + 24)) by unfold SLa; omega) (show ¬(o + 24 = o + 25) by omega) s6), ((g8.rb xt6).up (by omega)), ((g8.rb xu6).up (by omega)), ((g8.rb xv6).up (by omega)), ((g8.rb xy6).up (by omega))⟩) (show SB V8 o (o + 25) (tpR S b) (20) from ⟨_, _, _, _, s8, (xt8.up (by omega)), (xu8.up (by omega)), (xv8.up (by omega)), (xy8.up (by omega))⟩)) ?_
        rintro r10 _ ⟨V10, rfl, k10, e10, m10⟩
        refine g_iret rfl ?_
        have es : stepM S 1 2 0 a b (m_s15_O S a b) = keepM S 0 (m_s15_O S a b) := by unfold stepM; rw [if_pos (by unfold isS; omega)]
        rw [es]
        exact ⟨_, rfl, (Gs.km (G_9.wide (fun q hq => by have hq : q = o + 24 ∨ q = o + 25 := hq; show o + 24 ≤ q ∧ q ≤ o + 31; omega)) k10 (T := fun q => o + 24 ≤ q ∧ q ≤ o + 31) (fun q hq => by omega)).fr (fun q hq => hq) eV0, e10, m10⟩
      · skip
        refine g_iconst rfl ?_
        refine g_iret rfl ?_
        have es : stepM S 1 2 0 a b (m_s15_O S a b) = (-1, S) := by unfold stepM; rw [if_neg (by unfold isS; omega)]
        rw [es]
        exact ⟨V0, rfl, (KM.of (G0.wide (fun q hq => by have hq : q = o + 24 ∨ q = o + 25 := hq; show o + 24 ≤ q ∧ q ≤ o + 31; omega))).fr (T := fun q => o + 24 ≤ q ∧ q ≤ o + 31) (fun q hq => hq) eV0, rfl, mt⟩
set_option maxHeartbeats 4000000 in
theorem m_step16 {w : aW} {d : Nat} (hd : 10 ≤ d) {h : aH} {o : Nat} (ms : MS h o) (V : Nat → Nat → Int) {S : aS} (ok : OkT S) (mt : MT V o S) (a b : Int) : WP w d 307 [aO (some o), aI 16, aI a, aI b] (hw h V) (RI (fun r h1 => ∃ V1, h1 = hw h V1 ∧ FR V V1 o ∧ r = (stepM S 2 2 0 a b (m_s16_O S a b)).1 ∧ MT V1 o (stepM S 2 2 0 a b (m_s16_O S a b)).2)) := by
  obtain ⟨d, rfl⟩ : ∃ d1, d = d1 + 1 := ⟨d - 1, by omega⟩
  refine WP.enter (cd := cd_X12_step) rfl ?_
  have hn := ok.1
  have hls : largs 0 [aO (some o), aI 16, aI a, aI b] = [(0, aO (some o)), (1, aI 16), (2, aI a), (3, aI b)] := rfl
  rw [hls]
  clear hls
  refine g_aload_n rfl rfl ?_
  refine g_iconst rfl ?_
  refine g_putI rfl ms.1 ?_
  refine g_hp (h2 := hw h (vset V o 31 0)) rfl ?_
  refine g_aload_n rfl rfl ?_
  refine g_iconst rfl ?_
  refine g_putI rfl ms.1 ?_
  obtain ⟨V0, eV0⟩ : ∃ W, W = vset (vset V o 31 0) o 1 0 := ⟨_, rfl⟩
  refine g_hp (h2 := hw h V0) (by rw [eV0]; rfl) ?_
  have mt : MT V0 o S := by rw [eV0]; exact mt.rs
  have f0 : V0 o 1 = 0 := by rw [eV0]; exact vset_eq _ _ _ _
  have G0 := Gs.refl V0 o (fun q => q = o + 24 ∨ q = o + 25)
  refine g_iload_n rfl rfl ?_
  refine g_i2l rfl ?_
  refine g_lconst0 rfl ?_
  refine g_ldc2 rfl ?_
  refine g_callSI [aJ 16, aJ 0, aJ 19] [] rfl rfl rfl rfl (Nat.le_of_ble_eq_true rfl) (c_in (by omega) _ _ _ _) ?_
  rintro r1 _ ⟨rfl, rfl⟩
  refine g_b_eq rfl (fun c19 => ?_) (fun c19 => ?_)
  · skip
    refine g_iconst rfl ?_
    refine g_iret rfl ?_
    have es : stepM S 2 2 0 a b (m_s16_O S a b) = (-1, S) := by unfold stepM; rw [if_neg (by unfold isS; omega)]
    rw [es]
    exact ⟨V0, rfl, (KM.of (G0.wide (fun q hq => by have hq : q = o + 24 ∨ q = o + 25 := hq; show o + 24 ≤ q ∧ q ≤ o + 31; omega))).fr (T := fun q => o + 24 ≤ q ∧ q ≤ o + 31) (fun q hq => hq) eV0, rfl, mt⟩
  · skip
    refine g_aload_n rfl rfl ?_
    refine g_iload_n rfl rfl ?_
    refine g_iload_n rfl rfl ?_
    refine g_callSI [aI 16] [aI a, aO (some o)] rfl rfl rfl rfl (Nat.le_of_ble_eq_true rfl) (m_wants16 (by omega) _) ?_
    rintro _ _ ⟨rfl, rfl⟩
    refine g_bipush rfl ?_
    refine g_idivN (m := 10) (n := 22) rfl (by omega) (by omega) ?_
    refine g_top (v2 := aI 2) (congrArg aI (by rfl)) ?_
    refine g_callVI [aI a, aI 2] [] rfl rfl rfl rfl (Nat.le_of_ble_eq_true rfl) ms.1 (m_fits (by omega) ms V0 ok mt a 2 (by omega)) ?_
    rintro r2 _ ⟨rfl, e3⟩
    rw [e3]
    clear e3 r2
    refine g_b_eq rfl (fun c34 => ?_) (fun c34 => ?_)
    · skip
      refine g_iconst rfl ?_
      refine g_iret rfl ?_
      have es : stepM S 2 2 0 a b (m_s16_O S a b) = (-1, S) := by unfold stepM; rw [if_neg (by unfold isS; omega)]
      rw [es]
      exact ⟨V0, rfl, (KM.of (G0.wide (fun q hq => by have hq : q = o + 24 ∨ q = o + 25 := hq; show o + 24 ≤ q ∧ q ≤ o + 31; omega))).fr (T := fun q => o + 24 ≤ q ∧ q ≤ o + 31) (fun q hq => hq) eV0, rfl, mt⟩
    · skip
      refine g_aload_n rfl rfl ?_
      refine g_iload_n rfl rfl ?_
      refine g_iload_n rfl rfl ?_
      refine g_callSI [aI 16] [aI b, aO (some o)] rfl rfl rfl rfl (Nat.le_of_ble_eq_true rfl) (m_wants16 (by omega) _) ?_
      rintro _ _ ⟨rfl, rfl⟩
      refine g_bipush rfl ?_
      refine g_iremN (m := 10) (n := 22) rfl (by omega) ?_
      refine g_top (v2 := aI 2) (congrArg aI (by rfl)) ?_
      refine g_callVI [aI b, aI 2] [] rfl rfl rfl rfl (Nat.le_of_ble_eq_true rfl) ms.1 (m_fits (by omega) ms V0 ok mt b 2 (by omega)) ?_
      rintro r4 _ ⟨rfl, e5⟩
      rw [e5]
      clear e5 r4
      refine g_b_ne rfl (fun c49 => ?_) (fun c49 => ?_)
      · skip
        refine g_iload_n rfl rfl ?_
        refine g_if_ne_t rfl (by omega) ?_
        have ha : 0 ≤ a ∧ a < sT S := by omega
        have hb : 0 ≤ b ∧ b < sT S := by omega
        refine g_aload_n rfl rfl ?_
        refine g_aload_n rfl rfl ?_
        refine g_getR rfl ms.1 (mr_one ms) ?_
        refine g_iload_n rfl rfl ?_
        refine g_callVN [aO (some (o + 24)), aI a] [] rfl rfl rfl rfl (Nat.le_of_ble_eq_true rfl) ms.1 (m_load (by omega) ms V0 ok mt (by have := G0.2.2.1; omega) ((o + 24)) (show SLa o ((o + 24)) by unfold SLa; omega) a ha) ?_
        rintro _ ⟨V6, rfl, g6, t6, u6, v6, y6, s6, xt6, xu6, xv6, xy6⟩
        have G_7 := G0.trans (g6.wide (fun q hq => by have hq : q = o + 24 := hq; show q = o + 24 ∨ q = o + 25; omega))
        refine g_aload_n rfl rfl ?_
        refine g_aload_n rfl rfl ?_
        refine g_getR rfl ms.1 (mr_two ms) ?_
        refine g_iload_n rfl rfl ?_
        refine g_callVN [aO (some (o + 25)), aI b] [] rfl rfl rfl rfl (Nat.le_of_ble_eq_true rfl) ms.1 (m_load (by omega) ms V6 ok (g6.mt (show ¬((o + 4) = o + 24) by omega) (show ¬((o + 5) = o + 24) by omega) mt) (by have := G_7.2.2.1; omega) ((o + 25)) (show SLa o ((o + 25)) by unfold SLa; omega) b hb) ?_
        rintro _ ⟨V8, rfl, g8, t8, u8, v8, y8, s8, xt8, xu8, xv8, xy8⟩
        have G_9 := G_7.trans (g8.wide (fun q hq => by have hq : q = o + 25 := hq; show q = o + 24 ∨ q = o + 25; omega))
        refine g_iload_n rfl rfl ?_
        refine g_bipush rfl ?_
        refine g_icmp_ge_t rfl (by omega) ?_
        refine g_iload_n rfl rfl ?_
        refine g_bipush rfl ?_
        refine g_icmp_ge_t rfl (by omega) ?_
        refine g_aload_n rfl rfl ?_
        refine g_iload_n rfl rfl ?_
        refine g_iload_n rfl rfl ?_
        refine g_callVI [aI 16, aI a] [] rfl rfl rfl rfl (Nat.le_of_ble_eq_true rfl) ms.1 (m_meeting16 (by omega) ms V8 ok (g8.mt (show ¬((o + 4) = o + 25) by omega) (show ¬((o + 5) = o + 25) by omega) (g6.mt (show ¬((o + 4) = o + 24) by omega) (show ¬((o + 5) = o + 24) by omega) mt)) (by have := G_9.2.2.1; omega) b a ha (show SB V8 o (o + 24) (tpR S a) (20) from ⟨_, _, _, _, (g8.sa (show SLa o ((o + 24)) by unfold SLa; omega) (show ¬(o + 24 = o + 25) by omega) s6), ((g8.rb xt6).up (by omega)), ((g8.rb xu6).up (by omega)), ((g8.rb xv6).up (by omega)), ((g8.rb xy6).up (by omega))⟩) (show SB V8 o (o + 25) (tpR S b) (20) from ⟨_, _, _, _, s8, (xt8.up (by omega)), (xu8.up (by omega)), (xv8.up (by omega)), (xy8.up (by omega))⟩)) ?_
        rintro r10 _ ⟨V10, rfl, k10, e10, m10⟩
        refine g_iret rfl ?_
        have es : stepM S 2 2 0 a b (m_s16_O S a b) = keepM S 0 (m_s16_O S a b) := by unfold stepM; rw [if_pos (by unfold isS; omega)]
        rw [es]
        exact ⟨_, rfl, (Gs.km (G_9.wide (fun q hq => by have hq : q = o + 24 ∨ q = o + 25 := hq; show o + 24 ≤ q ∧ q ≤ o + 31; omega)) k10 (T := fun q => o + 24 ≤ q ∧ q ≤ o + 31) (fun q hq => by omega)).fr (fun q hq => hq) eV0, e10, m10⟩
      · skip
        refine g_iconst rfl ?_
        refine g_iret rfl ?_
        have es : stepM S 2 2 0 a b (m_s16_O S a b) = (-1, S) := by unfold stepM; rw [if_neg (by unfold isS; omega)]
        rw [es]
        exact ⟨V0, rfl, (KM.of (G0.wide (fun q hq => by have hq : q = o + 24 ∨ q = o + 25 := hq; show o + 24 ≤ q ∧ q ≤ o + 31; omega))).fr (T := fun q => o + 24 ≤ q ∧ q ≤ o + 31) (fun q hq => hq) eV0, rfl, mt⟩
set_option maxHeartbeats 4000000 in
theorem m_step17 {w : aW} {d : Nat} (hd : 10 ≤ d) {h : aH} {o : Nat} (ms : MS h o) (V : Nat → Nat → Int) {S : aS} (ok : OkT S) (mt : MT V o S) (a b : Int) : WP w d 307 [aO (some o), aI 17, aI a, aI b] (hw h V) (RI (fun r h1 => ∃ V1, h1 = hw h V1 ∧ FR V V1 o ∧ r = (stepM S 2 2 0 a b (m_s17_O S a b)).1 ∧ MT V1 o (stepM S 2 2 0 a b (m_s17_O S a b)).2)) := by
  obtain ⟨d, rfl⟩ : ∃ d1, d = d1 + 1 := ⟨d - 1, by omega⟩
  refine WP.enter (cd := cd_X12_step) rfl ?_
  have hn := ok.1
  have hls : largs 0 [aO (some o), aI 17, aI a, aI b] = [(0, aO (some o)), (1, aI 17), (2, aI a), (3, aI b)] := rfl
  rw [hls]
  clear hls
  refine g_aload_n rfl rfl ?_
  refine g_iconst rfl ?_
  refine g_putI rfl ms.1 ?_
  refine g_hp (h2 := hw h (vset V o 31 0)) rfl ?_
  refine g_aload_n rfl rfl ?_
  refine g_iconst rfl ?_
  refine g_putI rfl ms.1 ?_
  obtain ⟨V0, eV0⟩ : ∃ W, W = vset (vset V o 31 0) o 1 0 := ⟨_, rfl⟩
  refine g_hp (h2 := hw h V0) (by rw [eV0]; rfl) ?_
  have mt : MT V0 o S := by rw [eV0]; exact mt.rs
  have f0 : V0 o 1 = 0 := by rw [eV0]; exact vset_eq _ _ _ _
  have G0 := Gs.refl V0 o (fun q => q = o + 24 ∨ q = o + 25)
  refine g_iload_n rfl rfl ?_
  refine g_i2l rfl ?_
  refine g_lconst0 rfl ?_
  refine g_ldc2 rfl ?_
  refine g_callSI [aJ 17, aJ 0, aJ 19] [] rfl rfl rfl rfl (Nat.le_of_ble_eq_true rfl) (c_in (by omega) _ _ _ _) ?_
  rintro r1 _ ⟨rfl, rfl⟩
  refine g_b_eq rfl (fun c19 => ?_) (fun c19 => ?_)
  · skip
    refine g_iconst rfl ?_
    refine g_iret rfl ?_
    have es : stepM S 2 2 0 a b (m_s17_O S a b) = (-1, S) := by unfold stepM; rw [if_neg (by unfold isS; omega)]
    rw [es]
    exact ⟨V0, rfl, (KM.of (G0.wide (fun q hq => by have hq : q = o + 24 ∨ q = o + 25 := hq; show o + 24 ≤ q ∧ q ≤ o + 31; omega))).fr (T := fun q => o + 24 ≤ q ∧ q ≤ o + 31) (fun q hq => hq) eV0, rfl, mt⟩
  · skip
    refine g_aload_n rfl rfl ?_
    refine g_iload_n rfl rfl ?_
    refine g_iload_n rfl rfl ?_
    refine g_callSI [aI 17] [aI a, aO (some o)] rfl rfl rfl rfl (Nat.le_of_ble_eq_true rfl) (m_wants17 (by omega) _) ?_
    rintro _ _ ⟨rfl, rfl⟩
    refine g_bipush rfl ?_
    refine g_idivN (m := 10) (n := 22) rfl (by omega) (by omega) ?_
    refine g_top (v2 := aI 2) (congrArg aI (by rfl)) ?_
    refine g_callVI [aI a, aI 2] [] rfl rfl rfl rfl (Nat.le_of_ble_eq_true rfl) ms.1 (m_fits (by omega) ms V0 ok mt a 2 (by omega)) ?_
    rintro r2 _ ⟨rfl, e3⟩
    rw [e3]
    clear e3 r2
    refine g_b_eq rfl (fun c34 => ?_) (fun c34 => ?_)
    · skip
      refine g_iconst rfl ?_
      refine g_iret rfl ?_
      have es : stepM S 2 2 0 a b (m_s17_O S a b) = (-1, S) := by unfold stepM; rw [if_neg (by unfold isS; omega)]
      rw [es]
      exact ⟨V0, rfl, (KM.of (G0.wide (fun q hq => by have hq : q = o + 24 ∨ q = o + 25 := hq; show o + 24 ≤ q ∧ q ≤ o + 31; omega))).fr (T := fun q => o + 24 ≤ q ∧ q ≤ o + 31) (fun q hq => hq) eV0, rfl, mt⟩
    · skip
      refine g_aload_n rfl rfl ?_
      refine g_iload_n rfl rfl ?_
      refine g_iload_n rfl rfl ?_
      refine g_callSI [aI 17] [aI b, aO (some o)] rfl rfl rfl rfl (Nat.le_of_ble_eq_true rfl) (m_wants17 (by omega) _) ?_
      rintro _ _ ⟨rfl, rfl⟩
      refine g_bipush rfl ?_
      refine g_iremN (m := 10) (n := 22) rfl (by omega) ?_
      refine g_top (v2 := aI 2) (congrArg aI (by rfl)) ?_
      refine g_callVI [aI b, aI 2] [] rfl rfl rfl rfl (Nat.le_of_ble_eq_true rfl) ms.1 (m_fits (by omega) ms V0 ok mt b 2 (by omega)) ?_
      rintro r4 _ ⟨rfl, e5⟩
      rw [e5]
      clear e5 r4
      refine g_b_ne rfl (fun c49 => ?_) (fun c49 => ?_)
      · skip
        refine g_iload_n rfl rfl ?_
        refine g_if_ne_t rfl (by omega) ?_
        have ha : 0 ≤ a ∧ a < sT S := by omega
        have hb : 0 ≤ b ∧ b < sT S := by omega
        refine g_aload_n rfl rfl ?_
        refine g_aload_n rfl rfl ?_
        refine g_getR rfl ms.1 (mr_one ms) ?_
        refine g_iload_n rfl rfl ?_
        refine g_callVN [aO (some (o + 24)), aI a] [] rfl rfl rfl rfl (Nat.le_of_ble_eq_true rfl) ms.1 (m_load (by omega) ms V0 ok mt (by have := G0.2.2.1; omega) ((o + 24)) (show SLa o ((o + 24)) by unfold SLa; omega) a ha) ?_
        rintro _ ⟨V6, rfl, g6, t6, u6, v6, y6, s6, xt6, xu6, xv6, xy6⟩
        have G_7 := G0.trans (g6.wide (fun q hq => by have hq : q = o + 24 := hq; show q = o + 24 ∨ q = o + 25; omega))
        refine g_aload_n rfl rfl ?_
        refine g_aload_n rfl rfl ?_
        refine g_getR rfl ms.1 (mr_two ms) ?_
        refine g_iload_n rfl rfl ?_
        refine g_callVN [aO (some (o + 25)), aI b] [] rfl rfl rfl rfl (Nat.le_of_ble_eq_true rfl) ms.1 (m_load (by omega) ms V6 ok (g6.mt (show ¬((o + 4) = o + 24) by omega) (show ¬((o + 5) = o + 24) by omega) mt) (by have := G_7.2.2.1; omega) ((o + 25)) (show SLa o ((o + 25)) by unfold SLa; omega) b hb) ?_
        rintro _ ⟨V8, rfl, g8, t8, u8, v8, y8, s8, xt8, xu8, xv8, xy8⟩
        have G_9 := G_7.trans (g8.wide (fun q hq => by have hq : q = o + 25 := hq; show q = o + 24 ∨ q = o + 25; omega))
        refine g_iload_n rfl rfl ?_
        refine g_bipush rfl ?_
        refine g_icmp_ge_t rfl (by omega) ?_
        refine g_iload_n rfl rfl ?_
        refine g_bipush rfl ?_
        refine g_icmp_ge_t rfl (by omega) ?_
        refine g_aload_n rfl rfl ?_
        refine g_iload_n rfl rfl ?_
        refine g_iload_n rfl rfl ?_
        refine g_callVI [aI 17, aI a] [] rfl rfl rfl rfl (Nat.le_of_ble_eq_true rfl) ms.1 (m_meeting17 (by omega) ms V8 ok (g8.mt (show ¬((o + 4) = o + 25) by omega) (show ¬((o + 5) = o + 25) by omega) (g6.mt (show ¬((o + 4) = o + 24) by omega) (show ¬((o + 5) = o + 24) by omega) mt)) (by have := G_9.2.2.1; omega) b a ha (show SB V8 o (o + 24) (tpR S a) (20) from ⟨_, _, _, _, (g8.sa (show SLa o ((o + 24)) by unfold SLa; omega) (show ¬(o + 24 = o + 25) by omega) s6), ((g8.rb xt6).up (by omega)), ((g8.rb xu6).up (by omega)), ((g8.rb xv6).up (by omega)), ((g8.rb xy6).up (by omega))⟩) (show SB V8 o (o + 25) (tpR S b) (20) from ⟨_, _, _, _, s8, (xt8.up (by omega)), (xu8.up (by omega)), (xv8.up (by omega)), (xy8.up (by omega))⟩)) ?_
        rintro r10 _ ⟨V10, rfl, k10, e10, m10⟩
        refine g_iret rfl ?_
        have es : stepM S 2 2 0 a b (m_s17_O S a b) = keepM S 0 (m_s17_O S a b) := by unfold stepM; rw [if_pos (by unfold isS; omega)]
        rw [es]
        exact ⟨_, rfl, (Gs.km (G_9.wide (fun q hq => by have hq : q = o + 24 ∨ q = o + 25 := hq; show o + 24 ≤ q ∧ q ≤ o + 31; omega)) k10 (T := fun q => o + 24 ≤ q ∧ q ≤ o + 31) (fun q hq => by omega)).fr (fun q hq => hq) eV0, e10, m10⟩
      · skip
        refine g_iconst rfl ?_
        refine g_iret rfl ?_
        have es : stepM S 2 2 0 a b (m_s17_O S a b) = (-1, S) := by unfold stepM; rw [if_neg (by unfold isS; omega)]
        rw [es]
        exact ⟨V0, rfl, (KM.of (G0.wide (fun q hq => by have hq : q = o + 24 ∨ q = o + 25 := hq; show o + 24 ≤ q ∧ q ≤ o + 31; omega))).fr (T := fun q => o + 24 ≤ q ∧ q ≤ o + 31) (fun q hq => hq) eV0, rfl, mt⟩
set_option maxHeartbeats 4000000 in
theorem m_step18 {w : aW} {d : Nat} (hd : 10 ≤ d) {h : aH} {o : Nat} (ms : MS h o) (V : Nat → Nat → Int) {S : aS} (ok : OkT S) (mt : MT V o S) (a b : Int) : WP w d 307 [aO (some o), aI 18, aI a, aI b] (hw h V) (RI (fun r h1 => ∃ V1, h1 = hw h V1 ∧ FR V V1 o ∧ r = (stepM S 0 2 1 a b (m_s18_O S a b)).1 ∧ MT V1 o (stepM S 0 2 1 a b (m_s18_O S a b)).2)) := by
  obtain ⟨d, rfl⟩ : ∃ d1, d = d1 + 1 := ⟨d - 1, by omega⟩
  refine WP.enter (cd := cd_X12_step) rfl ?_
  have hn := ok.1
  have hls : largs 0 [aO (some o), aI 18, aI a, aI b] = [(0, aO (some o)), (1, aI 18), (2, aI a), (3, aI b)] := rfl
  rw [hls]
  clear hls
  refine g_aload_n rfl rfl ?_
  refine g_iconst rfl ?_
  refine g_putI rfl ms.1 ?_
  refine g_hp (h2 := hw h (vset V o 31 0)) rfl ?_
  refine g_aload_n rfl rfl ?_
  refine g_iconst rfl ?_
  refine g_putI rfl ms.1 ?_
  obtain ⟨V0, eV0⟩ : ∃ W, W = vset (vset V o 31 0) o 1 0 := ⟨_, rfl⟩
  refine g_hp (h2 := hw h V0) (by rw [eV0]; rfl) ?_
  have mt : MT V0 o S := by rw [eV0]; exact mt.rs
  have f0 : V0 o 1 = 0 := by rw [eV0]; exact vset_eq _ _ _ _
  have G0 := Gs.refl V0 o (fun q => q = o + 24 ∨ q = o + 25)
  refine g_iload_n rfl rfl ?_
  refine g_i2l rfl ?_
  refine g_lconst0 rfl ?_
  refine g_ldc2 rfl ?_
  refine g_callSI [aJ 18, aJ 0, aJ 19] [] rfl rfl rfl rfl (Nat.le_of_ble_eq_true rfl) (c_in (by omega) _ _ _ _) ?_
  rintro r1 _ ⟨rfl, rfl⟩
  refine g_b_eq rfl (fun c19 => ?_) (fun c19 => ?_)
  · skip
    refine g_iconst rfl ?_
    refine g_iret rfl ?_
    have es : stepM S 0 2 1 a b (m_s18_O S a b) = (-1, S) := by unfold stepM; rw [if_neg (by unfold isS; omega)]
    rw [es]
    exact ⟨V0, rfl, (KM.of (G0.wide (fun q hq => by have hq : q = o + 24 ∨ q = o + 25 := hq; show o + 24 ≤ q ∧ q ≤ o + 31; omega))).fr (T := fun q => o + 24 ≤ q ∧ q ≤ o + 31) (fun q hq => hq) eV0, rfl, mt⟩
  · skip
    refine g_aload_n rfl rfl ?_
    refine g_iload_n rfl rfl ?_
    refine g_iload_n rfl rfl ?_
    refine g_callSI [aI 18] [aI a, aO (some o)] rfl rfl rfl rfl (Nat.le_of_ble_eq_true rfl) (m_wants18 (by omega) _) ?_
    rintro _ _ ⟨rfl, rfl⟩
    refine g_bipush rfl ?_
    refine g_idivN (m := 10) (n := 2) rfl (by omega) (by omega) ?_
    refine g_top (v2 := aI 0) (congrArg aI (by rfl)) ?_
    refine g_callVI [aI a, aI 0] [] rfl rfl rfl rfl (Nat.le_of_ble_eq_true rfl) ms.1 (m_fits (by omega) ms V0 ok mt a 0 (by omega)) ?_
    rintro r2 _ ⟨rfl, e3⟩
    rw [e3]
    clear e3 r2
    refine g_b_eq rfl (fun c34 => ?_) (fun c34 => ?_)
    · skip
      refine g_iconst rfl ?_
      refine g_iret rfl ?_
      have es : stepM S 0 2 1 a b (m_s18_O S a b) = (-1, S) := by unfold stepM; rw [if_neg (by unfold isS; omega)]
      rw [es]
      exact ⟨V0, rfl, (KM.of (G0.wide (fun q hq => by have hq : q = o + 24 ∨ q = o + 25 := hq; show o + 24 ≤ q ∧ q ≤ o + 31; omega))).fr (T := fun q => o + 24 ≤ q ∧ q ≤ o + 31) (fun q hq => hq) eV0, rfl, mt⟩
    · skip
      refine g_aload_n rfl rfl ?_
      refine g_iload_n rfl rfl ?_
      refine g_iload_n rfl rfl ?_
      refine g_callSI [aI 18] [aI b, aO (some o)] rfl rfl rfl rfl (Nat.le_of_ble_eq_true rfl) (m_wants18 (by omega) _) ?_
      rintro _ _ ⟨rfl, rfl⟩
      refine g_bipush rfl ?_
      refine g_iremN (m := 10) (n := 2) rfl (by omega) ?_
      refine g_top (v2 := aI 2) (congrArg aI (by rfl)) ?_
      refine g_callVI [aI b, aI 2] [] rfl rfl rfl rfl (Nat.le_of_ble_eq_true rfl) ms.1 (m_fits (by omega) ms V0 ok mt b 2 (by omega)) ?_
      rintro r4 _ ⟨rfl, e5⟩
      rw [e5]
      clear e5 r4
      refine g_b_ne rfl (fun c49 => ?_) (fun c49 => ?_)
      · skip
        refine g_iload_n rfl rfl ?_
        refine g_if_ne_t rfl (by omega) ?_
        have ha : 0 ≤ a ∧ a < sT S := by omega
        have hb : 0 ≤ b ∧ b < sT S := by omega
        refine g_aload_n rfl rfl ?_
        refine g_aload_n rfl rfl ?_
        refine g_getR rfl ms.1 (mr_one ms) ?_
        refine g_iload_n rfl rfl ?_
        refine g_callVN [aO (some (o + 24)), aI a] [] rfl rfl rfl rfl (Nat.le_of_ble_eq_true rfl) ms.1 (m_load (by omega) ms V0 ok mt (by have := G0.2.2.1; omega) ((o + 24)) (show SLa o ((o + 24)) by unfold SLa; omega) a ha) ?_
        rintro _ ⟨V6, rfl, g6, t6, u6, v6, y6, s6, xt6, xu6, xv6, xy6⟩
        have G_7 := G0.trans (g6.wide (fun q hq => by have hq : q = o + 24 := hq; show q = o + 24 ∨ q = o + 25; omega))
        refine g_aload_n rfl rfl ?_
        refine g_aload_n rfl rfl ?_
        refine g_getR rfl ms.1 (mr_two ms) ?_
        refine g_iload_n rfl rfl ?_
        refine g_callVN [aO (some (o + 25)), aI b] [] rfl rfl rfl rfl (Nat.le_of_ble_eq_true rfl) ms.1 (m_load (by omega) ms V6 ok (g6.mt (show ¬((o + 4) = o + 24) by omega) (show ¬((o + 5) = o + 24) by omega) mt) (by have := G_7.2.2.1; omega) ((o + 25)) (show SLa o ((o + 25)) by unfold SLa; omega) b hb) ?_
        rintro _ ⟨V8, rfl, g8, t8, u8, v8, y8, s8, xt8, xu8, xv8, xy8⟩
        have G_9 := G_7.trans (g8.wide (fun q hq => by have hq : q = o + 25 := hq; show q = o + 24 ∨ q = o + 25; omega))
        refine g_iload_n rfl rfl ?_
        refine g_bipush rfl ?_
        refine g_icmp_ge_t rfl (by omega) ?_
        refine g_iload_n rfl rfl ?_
        refine g_bipush rfl ?_
        refine g_icmp_ge_t rfl (by omega) ?_
        refine g_aload_n rfl rfl ?_
        refine g_iload_n rfl rfl ?_
        refine g_iload_n rfl rfl ?_
        refine g_callVI [aI 18, aI a] [] rfl rfl rfl rfl (Nat.le_of_ble_eq_true rfl) ms.1 (m_meeting18 (by omega) ms V8 ok (g8.mt (show ¬((o + 4) = o + 25) by omega) (show ¬((o + 5) = o + 25) by omega) (g6.mt (show ¬((o + 4) = o + 24) by omega) (show ¬((o + 5) = o + 24) by omega) mt)) (by have := G_9.2.2.1; omega) b a ha (show SB V8 o (o + 24) (tpR S a) (20) from ⟨_, _, _, _, (g8.sa (show SLa o ((o + 24)) by unfold SLa; omega) (show ¬(o + 24 = o + 25) by omega) s6), ((g8.rb xt6).up (by omega)), ((g8.rb xu6).up (by omega)), ((g8.rb xv6).up (by omega)), ((g8.rb xy6).up (by omega))⟩) (show SB V8 o (o + 25) (tpR S b) (20) from ⟨_, _, _, _, s8, (xt8.up (by omega)), (xu8.up (by omega)), (xv8.up (by omega)), (xy8.up (by omega))⟩)) ?_
        rintro r10 _ ⟨V10, rfl, k10, e10, m10⟩
        refine g_iret rfl ?_
        have es : stepM S 0 2 1 a b (m_s18_O S a b) = keepM S 1 (m_s18_O S a b) := by unfold stepM; rw [if_pos (by unfold isS; omega)]
        rw [es]
        exact ⟨_, rfl, (Gs.km (G_9.wide (fun q hq => by have hq : q = o + 24 ∨ q = o + 25 := hq; show o + 24 ≤ q ∧ q ≤ o + 31; omega)) k10 (T := fun q => o + 24 ≤ q ∧ q ≤ o + 31) (fun q hq => by omega)).fr (fun q hq => hq) eV0, e10, m10⟩
      · skip
        refine g_iconst rfl ?_
        refine g_iret rfl ?_
        have es : stepM S 0 2 1 a b (m_s18_O S a b) = (-1, S) := by unfold stepM; rw [if_neg (by unfold isS; omega)]
        rw [es]
        exact ⟨V0, rfl, (KM.of (G0.wide (fun q hq => by have hq : q = o + 24 ∨ q = o + 25 := hq; show o + 24 ≤ q ∧ q ≤ o + 31; omega))).fr (T := fun q => o + 24 ≤ q ∧ q ≤ o + 31) (fun q hq => hq) eV0, rfl, mt⟩
set_option maxHeartbeats 4000000 in
theorem m_step19 {w : aW} {d : Nat} (hd : 10 ≤ d) {h : aH} {o : Nat} (ms : MS h o) (V : Nat → Nat → Int) {S : aS} (ok : OkT S) (mt : MT V o S) (a b : Int) : WP w d 307 [aO (some o), aI 19, aI a, aI b] (hw h V) (RI (fun r h1 => ∃ V1, h1 = hw h V1 ∧ FR V V1 o ∧ r = (stepM S 0 2 1 a b (m_s19_O S a b)).1 ∧ MT V1 o (stepM S 0 2 1 a b (m_s19_O S a b)).2)) := by
  obtain ⟨d, rfl⟩ : ∃ d1, d = d1 + 1 := ⟨d - 1, by omega⟩
  refine WP.enter (cd := cd_X12_step) rfl ?_
  have hn := ok.1
  have hls : largs 0 [aO (some o), aI 19, aI a, aI b] = [(0, aO (some o)), (1, aI 19), (2, aI a), (3, aI b)] := rfl
  rw [hls]
  clear hls
  refine g_aload_n rfl rfl ?_
  refine g_iconst rfl ?_
  refine g_putI rfl ms.1 ?_
  refine g_hp (h2 := hw h (vset V o 31 0)) rfl ?_
  refine g_aload_n rfl rfl ?_
  refine g_iconst rfl ?_
  refine g_putI rfl ms.1 ?_
  obtain ⟨V0, eV0⟩ : ∃ W, W = vset (vset V o 31 0) o 1 0 := ⟨_, rfl⟩
  refine g_hp (h2 := hw h V0) (by rw [eV0]; rfl) ?_
  have mt : MT V0 o S := by rw [eV0]; exact mt.rs
  have f0 : V0 o 1 = 0 := by rw [eV0]; exact vset_eq _ _ _ _
  have G0 := Gs.refl V0 o (fun q => q = o + 24 ∨ q = o + 25)
  refine g_iload_n rfl rfl ?_
  refine g_i2l rfl ?_
  refine g_lconst0 rfl ?_
  refine g_ldc2 rfl ?_
  refine g_callSI [aJ 19, aJ 0, aJ 19] [] rfl rfl rfl rfl (Nat.le_of_ble_eq_true rfl) (c_in (by omega) _ _ _ _) ?_
  rintro r1 _ ⟨rfl, rfl⟩
  refine g_b_eq rfl (fun c19 => ?_) (fun c19 => ?_)
  · skip
    refine g_iconst rfl ?_
    refine g_iret rfl ?_
    have es : stepM S 0 2 1 a b (m_s19_O S a b) = (-1, S) := by unfold stepM; rw [if_neg (by unfold isS; omega)]
    rw [es]
    exact ⟨V0, rfl, (KM.of (G0.wide (fun q hq => by have hq : q = o + 24 ∨ q = o + 25 := hq; show o + 24 ≤ q ∧ q ≤ o + 31; omega))).fr (T := fun q => o + 24 ≤ q ∧ q ≤ o + 31) (fun q hq => hq) eV0, rfl, mt⟩
  · skip
    refine g_aload_n rfl rfl ?_
    refine g_iload_n rfl rfl ?_
    refine g_iload_n rfl rfl ?_
    refine g_callSI [aI 19] [aI a, aO (some o)] rfl rfl rfl rfl (Nat.le_of_ble_eq_true rfl) (m_wants19 (by omega) _) ?_
    rintro _ _ ⟨rfl, rfl⟩
    refine g_bipush rfl ?_
    refine g_idivN (m := 10) (n := 2) rfl (by omega) (by omega) ?_
    refine g_top (v2 := aI 0) (congrArg aI (by rfl)) ?_
    refine g_callVI [aI a, aI 0] [] rfl rfl rfl rfl (Nat.le_of_ble_eq_true rfl) ms.1 (m_fits (by omega) ms V0 ok mt a 0 (by omega)) ?_
    rintro r2 _ ⟨rfl, e3⟩
    rw [e3]
    clear e3 r2
    refine g_b_eq rfl (fun c34 => ?_) (fun c34 => ?_)
    · skip
      refine g_iconst rfl ?_
      refine g_iret rfl ?_
      have es : stepM S 0 2 1 a b (m_s19_O S a b) = (-1, S) := by unfold stepM; rw [if_neg (by unfold isS; omega)]
      rw [es]
      exact ⟨V0, rfl, (KM.of (G0.wide (fun q hq => by have hq : q = o + 24 ∨ q = o + 25 := hq; show o + 24 ≤ q ∧ q ≤ o + 31; omega))).fr (T := fun q => o + 24 ≤ q ∧ q ≤ o + 31) (fun q hq => hq) eV0, rfl, mt⟩
    · skip
      refine g_aload_n rfl rfl ?_
      refine g_iload_n rfl rfl ?_
      refine g_iload_n rfl rfl ?_
      refine g_callSI [aI 19] [aI b, aO (some o)] rfl rfl rfl rfl (Nat.le_of_ble_eq_true rfl) (m_wants19 (by omega) _) ?_
      rintro _ _ ⟨rfl, rfl⟩
      refine g_bipush rfl ?_
      refine g_iremN (m := 10) (n := 2) rfl (by omega) ?_
      refine g_top (v2 := aI 2) (congrArg aI (by rfl)) ?_
      refine g_callVI [aI b, aI 2] [] rfl rfl rfl rfl (Nat.le_of_ble_eq_true rfl) ms.1 (m_fits (by omega) ms V0 ok mt b 2 (by omega)) ?_
      rintro r4 _ ⟨rfl, e5⟩
      rw [e5]
      clear e5 r4
      refine g_b_ne rfl (fun c49 => ?_) (fun c49 => ?_)
      · skip
        refine g_iload_n rfl rfl ?_
        refine g_if_ne_t rfl (by omega) ?_
        have ha : 0 ≤ a ∧ a < sT S := by omega
        have hb : 0 ≤ b ∧ b < sT S := by omega
        refine g_aload_n rfl rfl ?_
        refine g_aload_n rfl rfl ?_
        refine g_getR rfl ms.1 (mr_one ms) ?_
        refine g_iload_n rfl rfl ?_
        refine g_callVN [aO (some (o + 24)), aI a] [] rfl rfl rfl rfl (Nat.le_of_ble_eq_true rfl) ms.1 (m_load (by omega) ms V0 ok mt (by have := G0.2.2.1; omega) ((o + 24)) (show SLa o ((o + 24)) by unfold SLa; omega) a ha) ?_
        rintro _ ⟨V6, rfl, g6, t6, u6, v6, y6, s6, xt6, xu6, xv6, xy6⟩
        have G_7 := G0.trans (g6.wide (fun q hq => by have hq : q = o + 24 := hq; show q = o + 24 ∨ q = o + 25; omega))
        refine g_aload_n rfl rfl ?_
        refine g_aload_n rfl rfl ?_
        refine g_getR rfl ms.1 (mr_two ms) ?_
        refine g_iload_n rfl rfl ?_
        refine g_callVN [aO (some (o + 25)), aI b] [] rfl rfl rfl rfl (Nat.le_of_ble_eq_true rfl) ms.1 (m_load (by omega) ms V6 ok (g6.mt (show ¬((o + 4) = o + 24) by omega) (show ¬((o + 5) = o + 24) by omega) mt) (by have := G_7.2.2.1; omega) ((o + 25)) (show SLa o ((o + 25)) by unfold SLa; omega) b hb) ?_
        rintro _ ⟨V8, rfl, g8, t8, u8, v8, y8, s8, xt8, xu8, xv8, xy8⟩
        have G_9 := G_7.trans (g8.wide (fun q hq => by have hq : q = o + 25 := hq; show q = o + 24 ∨ q = o + 25; omega))
        refine g_iload_n rfl rfl ?_
        refine g_bipush rfl ?_
        refine g_icmp_ge_t rfl (by omega) ?_
        refine g_iload_n rfl rfl ?_
        refine g_bipush rfl ?_
        refine g_icmp_ge_t rfl (by omega) ?_
        refine g_aload_n rfl rfl ?_
        refine g_iload_n rfl rfl ?_
        refine g_iload_n rfl rfl ?_
        refine g_callVI [aI 19, aI a] [] rfl rfl rfl rfl (Nat.le_of_ble_eq_true rfl) ms.1 (m_meeting19 (by omega) ms V8 ok (g8.mt (show ¬((o + 4) = o + 25) by omega) (show ¬((o + 5) = o + 25) by omega) (g6.mt (show ¬((o + 4) = o + 24) by omega) (show ¬((o + 5) = o + 24) by omega) mt)) (by have := G_9.2.2.1; omega) b a ha (show SB V8 o (o + 24) (tpR S a) (20) from ⟨_, _, _, _, (g8.sa (show SLa o ((o + 24)) by unfold SLa; omega) (show ¬(o + 24 = o + 25) by omega) s6), ((g8.rb xt6).up (by omega)), ((g8.rb xu6).up (by omega)), ((g8.rb xv6).up (by omega)), ((g8.rb xy6).up (by omega))⟩) (show SB V8 o (o + 25) (tpR S b) (20) from ⟨_, _, _, _, s8, (xt8.up (by omega)), (xu8.up (by omega)), (xv8.up (by omega)), (xy8.up (by omega))⟩)) ?_
        rintro r10 _ ⟨V10, rfl, k10, e10, m10⟩
        refine g_iret rfl ?_
        have es : stepM S 0 2 1 a b (m_s19_O S a b) = keepM S 1 (m_s19_O S a b) := by unfold stepM; rw [if_pos (by unfold isS; omega)]
        rw [es]
        exact ⟨_, rfl, (Gs.km (G_9.wide (fun q hq => by have hq : q = o + 24 ∨ q = o + 25 := hq; show o + 24 ≤ q ∧ q ≤ o + 31; omega)) k10 (T := fun q => o + 24 ≤ q ∧ q ≤ o + 31) (fun q hq => by omega)).fr (fun q hq => hq) eV0, e10, m10⟩
      · skip
        refine g_iconst rfl ?_
        refine g_iret rfl ?_
        have es : stepM S 0 2 1 a b (m_s19_O S a b) = (-1, S) := by unfold stepM; rw [if_neg (by unfold isS; omega)]
        rw [es]
        exact ⟨V0, rfl, (KM.of (G0.wide (fun q hq => by have hq : q = o + 24 ∨ q = o + 25 := hq; show o + 24 ≤ q ∧ q ≤ o + 31; omega))).fr (T := fun q => o + 24 ≤ q ∧ q ≤ o + 31) (fun q hq => hq) eV0, rfl, mt⟩
