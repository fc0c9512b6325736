/-! the reference's whole numbers, on: sums, products: printed by wip/whole/c3.py -/
/-- register r is in use, it holds z -/
def RV (V : Nat → Nat → Int) (o r : Nat) (z : Int) : Prop := ∃ i : Nat, r = 18 * i ∧ (i : Int) < V o 1 ∧ V o 1 ≤ 700 ∧ RW (mr V o r) z
/-- what stays while registers are taken: at most n of them -/
def Gm (V V1 : Nat → Nat → Int) (o n : Nat) : Prop := (∀ q, q ≠ o → q ≠ o + 1 → V1 q = V q) ∧ (∀ f, f ≠ 1 → V1 o f = V o f) ∧ (V o 1 ≤ V1 o 1 ∧ V1 o 1 ≤ V o 1 + n) ∧ ∀ r z, RV V o r z → RV V1 o r z
def RB (V : Nat → Nat → Int) (o r : Nat) (z : Int) (k : Nat) : Prop := RV V o r z ∧ -2 ^ k ≤ z ∧ z ≤ 2 ^ k
theorem Gm.rv {V V1 : Nat → Nat → Int} {o n : Nat} (g : Gm V V1 o n) {r : Nat} {z : Int} (x : RV V o r z) : RV V1 o r z := g.2.2.2 r z x
theorem Gm.rb {V V1 : Nat → Nat → Int} {o n : Nat} (g : Gm V V1 o n) {r : Nat} {z : Int} {k : Nat} (x : RB V o r z k) : RB V1 o r z k := ⟨g.rv x.1, x.2⟩
theorem Gm.refl (V : Nat → Nat → Int) (o : Nat) : Gm V V o 0 := ⟨fun _ _ _ => rfl, fun _ _ => rfl, by omega, fun _ _ x => x⟩
theorem Gm.mono {V V1 : Nat → Nat → Int} {o n m : Nat} (g : Gm V V1 o n) (h : n ≤ m) : Gm V V1 o m := ⟨g.1, g.2.1, by have := g.2.2.1; omega, g.2.2.2⟩
theorem Gm.trans {V V1 V2 : Nat → Nat → Int} {o n m : Nat} (g : Gm V V1 o n) (g2 : Gm V1 V2 o m) : Gm V V2 o (n + m) := ⟨fun q h1 h2 => by rw [g2.1 q h1 h2, g.1 q h1 h2], fun f hf => by rw [g2.2.1 f hf, g.2.1 f hf], by have := g.2.2.1; have := g2.2.2.1; omega, fun r z x => g2.2.2.2 r z (g.2.2.2 r z x)⟩
theorem RV.b {V : Nat → Nat → Int} {o r : Nat} {z : Int} (x : RV V o r z) : r + 18 ≤ 12600 := by
  obtain ⟨i, h1, h2, h3, -⟩ := x
  omega
theorem RV.w {V : Nat → Nat → Int} {o r : Nat} {z : Int} (x : RV V o r z) : RW (mr V o r) z := x.choose_spec.2.2.2
theorem RV.c {V : Nat → Nat → Int} {o r : Nat} {z : Int} (x : RV V o r z) : CN (mr V o r) (z.natAbs : Int) := x.w.1
theorem RV.l {V : Nat → Nat → Int} {o r : Nat} {z : Int} (x : RV V o r z) : ML (mr V o r) := x.w.1.1
theorem RV.v {V : Nat → Nat → Int} {o r : Nat} {z : Int} (x : RV V o r z) : mv (mr V o r) 16 = (z.natAbs : Int) := x.w.1.2.1
theorem RV.s {V : Nat → Nat → Int} {o r : Nat} {z : Int} (x : RV V o r z) : V (o + 1) (r + 16) = lcmp z 0 := x.w.2
theorem RV.dis {V : Nat → Nat → Int} {o r F : Nat} {z : Int} (x : RV V o r z) (hF : V o 1 = F) : r + 18 ≤ 18 * F ∧ r ≠ 18 * F := by
  obtain ⟨i, h1, h2, h3, -⟩ := x
  omega
theorem RV.fr {V V1 : Nat → Nat → Int} {o r F : Nat} {z : Int} (x : RV V o r z) (hF : V o 1 = F) (hF7 : F < 700) (m : MFr V V1 o F) : RV V1 o r z := by
  obtain ⟨i, h1, h2, h3, h4⟩ := x
  refine ⟨i, h1, ?_, ?_, h4.congr fun k hk => m.2.2.2.1 _ (by omega)⟩ <;> (have := m.2.2.1; omega)
theorem RV.mf {V V1 : Nat → Nat → Int} {o r r2 : Nat} {z : Int} (x : RV V o r z) (m : MF V V1 o r2) (h : r + 18 ≤ r2 ∨ r2 + 18 ≤ r) : RV V1 o r z := by
  obtain ⟨i, h1, h2, h3, h4⟩ := x
  have e : V1 o = V o := m.1 o (by omega)
  refine ⟨i, h1, by rw [e]; exact h2, by rw [e]; exact h3, h4.congr fun k hk => m.2 _ (by omega)⟩
theorem RW_of {V : Nat → Nat → Int} {o r : Nat} {u s z : Int} (h : RC V o r u s) (e : u = (z.natAbs : Int)) (hs : z ≠ 0 → s = lcmp z 0) : RW (mr V o r) z := by
  refine ⟨by rw [← e]; exact h.1, ?_⟩
  show V (o + 1) (r + 16) = _
  rw [h.2]
  by_cases q : z = 0
  · rw [if_pos (by omega), q]; rfl
  · rw [if_neg (by omega), hs q]
theorem RW_0 {f : Nat → Int} (h : ∀ k < 18, f k = 0) : RW f 0 := by
  refine ⟨⟨fun k hk => by rw [h k (by omega)]; omega, mv_zero fun j hj => h j (by omega), 0, by omega, h 17 (by omega), fun k _ hk => h k (by omega), Or.inl rfl⟩, ?_⟩
  rw [h 16 (by omega)]
  rfl
/-- a register taken and written -/
theorem fin_m {V V1 V2 : Nat → Nat → Int} {o F : Nat} {z : Int} (hF : V o 1 = F) (hF7 : F < 700) (m1 : MFr V V1 o F) (m2 : MF V1 V2 o (18 * F)) (h : RW (mr V2 o (18 * F)) z) : Gm V V2 o 1 ∧ RV V2 o (18 * F) z := by
  have e1 : V2 o = V1 o := m2.1 o (by omega)
  refine ⟨⟨fun q h1 h2 => by rw [m2.1 q h2, m1.1 q h1 h2], fun f hf => by rw [e1, m1.2.1 f hf], by rw [e1]; have := m1.2.2.1; omega, fun r z x => (x.fr hF hF7 m1).mf m2 (Or.inl (x.dis hF).1)⟩, F, rfl, ?_, ?_, h⟩ <;> (rw [e1]; have := m1.2.2.1; omega)
theorem lcmp_v (z : Int) : (z < 0 ∧ lcmp z 0 = -1) ∨ (z = 0 ∧ lcmp z 0 = 0) ∨ (0 < z ∧ lcmp z 0 = 1) := by
  unfold lcmp
  split
  · omega
  · split <;> omega
theorem M16 : (16777216 : Int) ^ 16 = 2 ^ 384 := by decide
set_option maxHeartbeats 4000000 in
theorem m_addSigned {w : aW} {d : Nat} (hd : 3 ≤ d) {h : aH} {o : Nat} (ms : MS h o) (V : Nat → Nat → Int) (F : Nat) (hF : V o 1 = F) (hF7 : F < 700) {a b : Nat} {x y y2 : Int} (xa : RV V o a x) (xb : RV V o b y) (e2 : y2.natAbs = y.natAbs) (sb : Int) (hsb : sb = lcmp y2 0) (m : Nat) (hm : m ≤ 382) (hbx : -2 ^ m ≤ x ∧ x ≤ 2 ^ m) (hby : -2 ^ m ≤ y2 ∧ y2 ≤ 2 ^ m) : WP w d 250 [aO (some o), aI ((a : Int)), aI ((b : Int)), aI sb] (hw h V) (RI (fun r h1 => ∃ p : Nat, r = p ∧ ∃ V1, h1 = hw h V1 ∧ Gm V V1 o 1 ∧ RV V1 o p (x + y2))) := by
  obtain ⟨d, rfl⟩ : ∃ d1, d = d1 + 1 := ⟨d - 1, by omega⟩
  refine WP.enter (cd := cd_X12_addSigned) rfl ?_
  have hls : largs 0 [aO (some o), aI ((a : Int)), aI ((b : Int)), aI sb] = [(0, aO (some o)), (1, aI ((a : Int))), (2, aI ((b : Int))), (3, aI sb)] := rfl
  rw [hls]
  clear hls
  refine g_aload_n rfl rfl ?_
  refine g_callVI [] [] rfl rfl rfl rfl (Nat.le_of_ble_eq_true rfl) ms.1 (m_fresh (by omega) ms V F hF hF7) ?_
  rintro _ _ ⟨⟨V1, rfl, m1⟩, rfl⟩
  have xa1 := xa.fr hF hF7 m1
  have xb1 := xb.fr hF hF7 m1
  have da := xa.dis hF
  have db := xb.dis hF
  have hbd : (x.natAbs : Int) + (y.natAbs : Int) < 2 ^ 384 := by
    have q1 := pw_le (show m ≤ 382 by omega)
    have q2 : (2 : Int) ^ 384 = 4 * 2 ^ 382 := by decide
    have := pw_pos 382
    omega
  have lx := lcmp_v x
  have ly := lcmp_v y2
  have lxy := lcmp_v (x + y2)
  refine g_istore (l1 := [(4, aI ((18 * F : Int))), (0, aO (some o)), (1, aI ((a : Int))), (2, aI ((b : Int))), (3, aI sb)]) rfl rfl ?_
  refine g_aload_n rfl rfl ?_
  refine g_iload_n rfl rfl ?_
  refine g_callVI [aI ((a : Int))] [] rfl rfl rfl rfl (Nat.le_of_ble_eq_true rfl) ms.1 (m_sign (by omega) ms V1 a xa.b) ?_
  rintro _ _ ⟨rfl, rfl⟩
  refine g_top (v2 := aI (lcmp x 0)) (congrArg aI xa1.s) ?_
  refine g_if_eq rfl (fun c11 => ?_) (fun c11 => ?_)
  · skip
    refine g_aload_n rfl rfl ?_
    refine g_iload_n rfl rfl ?_
    refine g_iload_n rfl rfl ?_
    refine g_iload rfl rfl ?_
    refine g_aload_n rfl rfl ?_
    refine g_iload_n rfl rfl ?_
    refine g_callVI [aI ((a : Int))] [aI ((18 * F : Int)), aI ((b : Int)), aI ((a : Int)), aO (some o)] rfl rfl rfl rfl (Nat.le_of_ble_eq_true rfl) ms.1 (m_sign (by omega) ms V1 a xa.b) ?_
    rintro _ _ ⟨rfl, rfl⟩
    refine g_top (v2 := aI (lcmp x 0)) (congrArg aI xa1.s) ?_
    refine g_if_ne rfl (fun c37 => ?_) (fun c37 => ?_)
    · skip
      refine g_aload_n rfl rfl ?_
      refine g_iload_n rfl rfl ?_
      refine g_callVI [aI ((a : Int))] [aI ((18 * F : Int)), aI ((b : Int)), aI ((a : Int)), aO (some o)] rfl rfl rfl rfl (Nat.le_of_ble_eq_true rfl) ms.1 (m_sign (by omega) ms V1 a xa.b) ?_
      rintro _ _ ⟨rfl, rfl⟩
      refine g_top (v2 := aI (lcmp x 0)) (congrArg aI xa1.s) ?_
      refine g_callVN [aI ((a : Int)), aI ((b : Int)), aI ((18 * F : Int)), aI (lcmp x 0)] [] rfl rfl rfl rfl (Nat.le_of_ble_eq_true rfl) ms.1 (m_addSizes (by omega) ms V1 a b (18 * F) xa.b xb.b (by omega) xa1.l xb1.l (by omega) (by omega) (lcmp x 0) (by rw [xa1.v, xb1.v, M16]; omega)) ?_
      rintro _ ⟨V2, rfl, m2, r2⟩
      rw [xa1.v, xb1.v] at r2
      refine g_iload rfl rfl ?_
      refine g_iret rfl ?_
      obtain ⟨f1, f2⟩ := fin_m hF hF7 m1 m2 (z := x + y2) (RW_of r2 (by omega) (fun _ => by omega))
      exact ⟨18 * F, rfl, V2, rfl, f1, f2⟩
    · skip
      refine g_iload_n rfl rfl ?_
      refine g_goto rfl ?_
      refine g_callVN [aI ((a : Int)), aI ((b : Int)), aI ((18 * F : Int)), aI sb] [] rfl rfl rfl rfl (Nat.le_of_ble_eq_true rfl) ms.1 (m_addSizes (by omega) ms V1 a b (18 * F) xa.b xb.b (by omega) xa1.l xb1.l (by omega) (by omega) sb (by rw [xa1.v, xb1.v, M16]; omega)) ?_
      rintro _ ⟨V2, rfl, m2, r2⟩
      rw [xa1.v, xb1.v] at r2
      refine g_iload rfl rfl ?_
      refine g_iret rfl ?_
      obtain ⟨f1, f2⟩ := fin_m hF hF7 m1 m2 (z := x + y2) (RW_of r2 (by omega) (fun _ => by omega))
      exact ⟨18 * F, rfl, V2, rfl, f1, f2⟩
  · skip
    refine g_iload_n rfl rfl ?_
    refine g_if_eq rfl (fun c15 => ?_) (fun c15 => ?_)
    · skip
      refine g_aload_n rfl rfl ?_
      refine g_iload_n rfl rfl ?_
      refine g_iload_n rfl rfl ?_
      refine g_iload rfl rfl ?_
      refine g_aload_n rfl rfl ?_
      refine g_iload_n rfl rfl ?_
      refine g_callVI [aI ((a : Int))] [aI ((18 * F : Int)), aI ((b : Int)), aI ((a : Int)), aO (some o)] rfl rfl rfl rfl (Nat.le_of_ble_eq_true rfl) ms.1 (m_sign (by omega) ms V1 a xa.b) ?_
      rintro _ _ ⟨rfl, rfl⟩
      refine g_top (v2 := aI (lcmp x 0)) (congrArg aI xa1.s) ?_
      refine g_if_ne rfl (fun c37 => ?_) (fun c37 => ?_)
      · skip
        refine g_aload_n rfl rfl ?_
        refine g_iload_n rfl rfl ?_
        refine g_callVI [aI ((a : Int))] [aI ((18 * F : Int)), aI ((b : Int)), aI ((a : Int)), aO (some o)] rfl rfl rfl rfl (Nat.le_of_ble_eq_true rfl) ms.1 (m_sign (by omega) ms V1 a xa.b) ?_
        rintro _ _ ⟨rfl, rfl⟩
        refine g_top (v2 := aI (lcmp x 0)) (congrArg aI xa1.s) ?_
        refine g_callVN [aI ((a : Int)), aI ((b : Int)), aI ((18 * F : Int)), aI (lcmp x 0)] [] rfl rfl rfl rfl (Nat.le_of_ble_eq_true rfl) ms.1 (m_addSizes (by omega) ms V1 a b (18 * F) xa.b xb.b (by omega) xa1.l xb1.l (by omega) (by omega) (lcmp x 0) (by rw [xa1.v, xb1.v, M16]; omega)) ?_
        rintro _ ⟨V2, rfl, m2, r2⟩
        rw [xa1.v, xb1.v] at r2
        refine g_iload rfl rfl ?_
        refine g_iret rfl ?_
        obtain ⟨f1, f2⟩ := fin_m hF hF7 m1 m2 (z := x + y2) (RW_of r2 (by omega) (fun _ => by omega))
        exact ⟨18 * F, rfl, V2, rfl, f1, f2⟩
      · skip
        refine g_iload_n rfl rfl ?_
        refine g_goto rfl ?_
        refine g_callVN [aI ((a : Int)), aI ((b : Int)), aI ((18 * F : Int)), aI sb] [] rfl rfl rfl rfl (Nat.le_of_ble_eq_true rfl) ms.1 (m_addSizes (by omega) ms V1 a b (18 * F) xa.b xb.b (by omega) xa1.l xb1.l (by omega) (by omega) sb (by rw [xa1.v, xb1.v, M16]; omega)) ?_
        rintro _ ⟨V2, rfl, m2, r2⟩
        rw [xa1.v, xb1.v] at r2
        refine g_iload rfl rfl ?_
        refine g_iret rfl ?_
        obtain ⟨f1, f2⟩ := fin_m hF hF7 m1 m2 (z := x + y2) (RW_of r2 (by omega) (fun _ => by omega))
        exact ⟨18 * F, rfl, V2, rfl, f1, f2⟩
    · skip
      refine g_aload_n rfl rfl ?_
      refine g_iload_n rfl rfl ?_
      refine g_callVI [aI ((a : Int))] [] rfl rfl rfl rfl (Nat.le_of_ble_eq_true rfl) ms.1 (m_sign (by omega) ms V1 a xa.b) ?_
      rintro _ _ ⟨rfl, rfl⟩
      refine g_top (v2 := aI (lcmp x 0)) (congrArg aI xa1.s) ?_
      refine g_iload_n rfl rfl ?_
      refine g_icmp_ne rfl (fun c24 => ?_) (fun c24 => ?_)
      · skip
        refine g_aload_n rfl rfl ?_
        refine g_iload_n rfl rfl ?_
        refine g_iload_n rfl rfl ?_
        refine g_callVI [aI ((a : Int)), aI ((b : Int))] [] rfl rfl rfl rfl (Nat.le_of_ble_eq_true rfl) ms.1 (m_compareSizes (by omega) ms V1 a b xa.b xb.b xa1.c xb1.c) ?_
        rintro _ _ ⟨rfl, rfl⟩
        refine g_istore (l1 := [(5, aI (lcmp (x.natAbs : Int) (y.natAbs : Int))), (4, aI ((18 * F : Int))), (0, aO (some o)), (1, aI ((a : Int))), (2, aI ((b : Int))), (3, aI sb)]) rfl rfl ?_
        refine g_iload rfl rfl ?_
        have lc1 := @lcmp_gt (x.natAbs : Int) (y.natAbs : Int)
        have lc2 := @lcmp_lt (x.natAbs : Int) (y.natAbs : Int)
        refine g_if_le rfl (fun c65 => ?_) (fun c65 => ?_)
        · skip
          refine g_iload rfl rfl ?_
          refine g_if_ge rfl (fun c86 => ?_) (fun c86 => ?_)
          · skip
            refine g_iload rfl rfl ?_
            refine g_iret rfl ?_
            first
              | (have q5 := m2
                 obtain ⟨f1, f2⟩ := fin_m hF hF7 m1 m2 (z := x + y2) (RW_of r2 (by omega) (fun _ => by omega))
                 exact ⟨18 * F, rfl, V2, rfl, f1, f2⟩)
              | (obtain ⟨f1, f2⟩ := fin_m hF hF7 m1 (MF.refl _ _ _) (z := x + y2) (by rw [show x + y2 = 0 by omega]; exact RW_0 fun k hk => m1.2.2.2.2 k hk)
                 exact ⟨18 * F, rfl, V1, rfl, f1, f2⟩)
          · skip
            refine g_aload_n rfl rfl ?_
            refine g_iload_n rfl rfl ?_
            refine g_iload_n rfl rfl ?_
            refine g_iload rfl rfl ?_
            refine g_iload_n rfl rfl ?_
            refine g_callVN [aI ((b : Int)), aI ((a : Int)), aI ((18 * F : Int)), aI sb] [] rfl rfl rfl rfl (Nat.le_of_ble_eq_true rfl) ms.1 (m_takeSizes (by omega) ms V1 b a (18 * F) xb.b xa.b (by omega) xb1.l xa1.l (by omega) (by omega) sb (by rw [xa1.v, xb1.v]; omega)) ?_
            rintro _ ⟨V2, rfl, m2, r2⟩
            rw [xa1.v, xb1.v] at r2
            refine g_iload rfl rfl ?_
            refine g_iret rfl ?_
            first
              | (have q5 := m2
                 obtain ⟨f1, f2⟩ := fin_m hF hF7 m1 m2 (z := x + y2) (RW_of r2 (by omega) (fun _ => by omega))
                 exact ⟨18 * F, rfl, V2, rfl, f1, f2⟩)
              | (obtain ⟨f1, f2⟩ := fin_m hF hF7 m1 (MF.refl _ _ _) (z := x + y2) (by rw [show x + y2 = 0 by omega]; exact RW_0 fun k hk => m1.2.2.2.2 k hk)
                 exact ⟨18 * F, rfl, V1, rfl, f1, f2⟩)
        · skip
          refine g_aload_n rfl rfl ?_
          refine g_iload_n rfl rfl ?_
          refine g_iload_n rfl rfl ?_
          refine g_iload rfl rfl ?_
          refine g_aload_n rfl rfl ?_
          refine g_iload_n rfl rfl ?_
          refine g_callVI [aI ((a : Int))] [aI ((18 * F : Int)), aI ((b : Int)), aI ((a : Int)), aO (some o)] rfl rfl rfl rfl (Nat.le_of_ble_eq_true rfl) ms.1 (m_sign (by omega) ms V1 a xa.b) ?_
          rintro _ _ ⟨rfl, rfl⟩
          refine g_top (v2 := aI (lcmp x 0)) (congrArg aI xa1.s) ?_
          refine g_callVN [aI ((a : Int)), aI ((b : Int)), aI ((18 * F : Int)), aI (lcmp x 0)] [] rfl rfl rfl rfl (Nat.le_of_ble_eq_true rfl) ms.1 (m_takeSizes (by omega) ms V1 a b (18 * F) xa.b xb.b (by omega) xa1.l xb1.l (by omega) (by omega) (lcmp x 0) (by rw [xa1.v, xb1.v]; omega)) ?_
          rintro _ ⟨V2, rfl, m2, r2⟩
          rw [xa1.v, xb1.v] at r2
          refine g_goto rfl ?_
          refine g_iload rfl rfl ?_
          refine g_iret rfl ?_
          first
            | (have q5 := m2
               obtain ⟨f1, f2⟩ := fin_m hF hF7 m1 m2 (z := x + y2) (RW_of r2 (by omega) (fun _ => by omega))
               exact ⟨18 * F, rfl, V2, rfl, f1, f2⟩)
            | (obtain ⟨f1, f2⟩ := fin_m hF hF7 m1 (MF.refl _ _ _) (z := x + y2) (by rw [show x + y2 = 0 by omega]; exact RW_0 fun k hk => m1.2.2.2.2 k hk)
               exact ⟨18 * F, rfl, V1, rfl, f1, f2⟩)
      · skip
        refine g_aload_n rfl rfl ?_
        refine g_iload_n rfl rfl ?_
        refine g_iload_n rfl rfl ?_
        refine g_iload rfl rfl ?_
        refine g_aload_n rfl rfl ?_
        refine g_iload_n rfl rfl ?_
        refine g_callVI [aI ((a : Int))] [aI ((18 * F : Int)), aI ((b : Int)), aI ((a : Int)), aO (some o)] rfl rfl rfl rfl (Nat.le_of_ble_eq_true rfl) ms.1 (m_sign (by omega) ms V1 a xa.b) ?_
        rintro _ _ ⟨rfl, rfl⟩
        refine g_top (v2 := aI (lcmp x 0)) (congrArg aI xa1.s) ?_
        refine g_if_ne rfl (fun c37 => ?_) (fun c37 => ?_)
        · skip
          refine g_aload_n rfl rfl ?_
          refine g_iload_n rfl rfl ?_
          refine g_callVI [aI ((a : Int))] [aI ((18 * F : Int)), aI ((b : Int)), aI ((a : Int)), aO (some o)] rfl rfl rfl rfl (Nat.le_of_ble_eq_true rfl) ms.1 (m_sign (by omega) ms V1 a xa.b) ?_
          rintro _ _ ⟨rfl, rfl⟩
          refine g_top (v2 := aI (lcmp x 0)) (congrArg aI xa1.s) ?_
          refine g_callVN [aI ((a : Int)), aI ((b : Int)), aI ((18 * F : Int)), aI (lcmp x 0)] [] rfl rfl rfl rfl (Nat.le_of_ble_eq_true rfl) ms.1 (m_addSizes (by omega) ms V1 a b (18 * F) xa.b xb.b (by omega) xa1.l xb1.l (by omega) (by omega) (lcmp x 0) (by rw [xa1.v, xb1.v, M16]; omega)) ?_
          rintro _ ⟨V2, rfl, m2, r2⟩
          rw [xa1.v, xb1.v] at r2
          refine g_iload rfl rfl ?_
          refine g_iret rfl ?_
          obtain ⟨f1, f2⟩ := fin_m hF hF7 m1 m2 (z := x + y2) (RW_of r2 (by omega) (fun _ => by omega))
          exact ⟨18 * F, rfl, V2, rfl, f1, f2⟩
        · skip
          refine g_iload_n rfl rfl ?_
          refine g_goto rfl ?_
          refine g_callVN [aI ((a : Int)), aI ((b : Int)), aI ((18 * F : Int)), aI sb] [] rfl rfl rfl rfl (Nat.le_of_ble_eq_true rfl) ms.1 (m_addSizes (by omega) ms V1 a b (18 * F) xa.b xb.b (by omega) xa1.l xb1.l (by omega) (by omega) sb (by rw [xa1.v, xb1.v, M16]; omega)) ?_
          rintro _ ⟨V2, rfl, m2, r2⟩
          rw [xa1.v, xb1.v] at r2
          refine g_iload rfl rfl ?_
          refine g_iret rfl ?_
          obtain ⟨f1, f2⟩ := fin_m hF hF7 m1 m2 (z := x + y2) (RW_of r2 (by omega) (fun _ => by omega))
          exact ⟨18 * F, rfl, V2, rfl, f1, f2⟩
theorem r_add {w : aW} {d : Nat} (hd : 4 ≤ d) {h : aH} {o : Nat} (ms : MS h o) (V : Nat → Nat → Int) (hF : 0 ≤ V o 1 ∧ V o 1 < 700) {a b : Nat} {x y : Int} {j k : Nat} (xa : RB V o a x j) (xb : RB V o b y k) (m : Nat) (hj : j + 1 ≤ m) (hk : k + 1 ≤ m) (hm : m ≤ 382) : WP w d 251 [aO (some o), aI ((a : Int)), aI ((b : Int))] (hw h V) (RI (fun r h1 => ∃ p : Nat, r = p ∧ ∃ V1, h1 = hw h V1 ∧ Gm V V1 o 1 ∧ RB V1 o p (x + y) (m))) := by
  obtain ⟨d, rfl⟩ : ∃ d1, d = d1 + 1 := ⟨d - 1, by omega⟩
  refine WP.enter (cd := cd_X12_add) rfl ?_
  obtain ⟨F, hFF⟩ : ∃ F : Nat, V o 1 = F := ⟨(V o 1).toNat, by omega⟩
  have hls : largs 0 [aO (some o), aI ((a : Int)), aI ((b : Int))] = [(0, aO (some o)), (1, aI ((a : Int))), (2, aI ((b : Int)))] := rfl
  rw [hls]
  clear hls
  refine g_aload_n rfl rfl ?_
  refine g_iload_n rfl rfl ?_
  refine g_iload_n rfl rfl ?_
  refine g_aload_n rfl rfl ?_
  refine g_iload_n rfl rfl ?_
  refine g_callVI [aI ((b : Int))] [aI ((b : Int)), aI ((a : Int)), aO (some o)] rfl rfl rfl rfl (Nat.le_of_ble_eq_true rfl) ms.1 (m_sign (by omega) ms V b xb.1.b) ?_
  rintro _ _ ⟨rfl, rfl⟩
  refine g_top (v2 := aI (lcmp y 0)) (congrArg aI xb.1.s) ?_
  refine g_callVI [aI ((a : Int)), aI ((b : Int)), aI (lcmp y 0)] [] rfl rfl rfl rfl (Nat.le_of_ble_eq_true rfl) ms.1 (m_addSigned (by omega) ms V F hFF (by omega) (y2 := y) xa.1 xb.1 rfl (lcmp y 0) rfl m hm (bd_up (by omega) xa.2) (bd_up (by omega) xb.2)) ?_
  rintro _ _ ⟨p, rfl, V1, rfl, g1, v1⟩
  refine g_iret rfl ?_
  exact ⟨p, rfl, V1, rfl, g1, v1, bd_add hj hk xa.2 xb.2⟩
theorem r_sub {w : aW} {d : Nat} (hd : 4 ≤ d) {h : aH} {o : Nat} (ms : MS h o) (V : Nat → Nat → Int) (hF : 0 ≤ V o 1 ∧ V o 1 < 700) {a b : Nat} {x y : Int} {j k : Nat} (xa : RB V o a x j) (xb : RB V o b y k) (m : Nat) (hj : j + 1 ≤ m) (hk : k + 1 ≤ m) (hm : m ≤ 382) : WP w d 252 [aO (some o), aI ((a : Int)), aI ((b : Int))] (hw h V) (RI (fun r h1 => ∃ p : Nat, r = p ∧ ∃ V1, h1 = hw h V1 ∧ Gm V V1 o 1 ∧ RB V1 o p (x - y) (m))) := by
  obtain ⟨d, rfl⟩ : ∃ d1, d = d1 + 1 := ⟨d - 1, by omega⟩
  refine WP.enter (cd := cd_X12_sub) rfl ?_
  obtain ⟨F, hFF⟩ : ∃ F : Nat, V o 1 = F := ⟨(V o 1).toNat, by omega⟩
  have ly := lcmp_v y
  have ly2 := lcmp_v (-y)
  have hls : largs 0 [aO (some o), aI ((a : Int)), aI ((b : Int))] = [(0, aO (some o)), (1, aI ((a : Int))), (2, aI ((b : Int)))] := rfl
  rw [hls]
  clear hls
  refine g_aload_n rfl rfl ?_
  refine g_iload_n rfl rfl ?_
  refine g_iload_n rfl rfl ?_
  refine g_aload_n rfl rfl ?_
  refine g_iload_n rfl rfl ?_
  refine g_callVI [aI ((b : Int))] [aI ((b : Int)), aI ((a : Int)), aO (some o)] rfl rfl rfl rfl (Nat.le_of_ble_eq_true rfl) ms.1 (m_sign (by omega) ms V b xb.1.b) ?_
  rintro _ _ ⟨rfl, rfl⟩
  refine g_top (v2 := aI (lcmp y 0)) (congrArg aI xb.1.s) ?_
  refine g_ineg2 rfl (by omega) (by omega) ?_
  refine g_callVI [aI ((a : Int)), aI ((b : Int)), aI (-(lcmp y 0))] [] rfl rfl rfl rfl (Nat.le_of_ble_eq_true rfl) ms.1 (m_addSigned (by omega) ms V F hFF (by omega) (y2 := -y) xa.1 xb.1 (by omega) (-(lcmp y 0)) (by omega) m hm (bd_up (by omega) xa.2) (by have := bd_up (show k ≤ m by omega) xb.2; omega)) ?_
  rintro _ _ ⟨p, rfl, V1, rfl, g1, v1⟩
  refine g_iret rfl ?_
  exact ⟨p, rfl, V1, rfl, g1, by rw [Int.sub_eq_add_neg]; exact v1, bd_sub hj hk xa.2 xb.2⟩
theorem num_i {u v : Int} {i : Nat} (hu : 0 < u) (hub : u * 16777216 ^ i ≤ (v.natAbs : Int)) (hv : -4611686018427387904 ≤ v ∧ v ≤ 4611686018427387904) : i + 1 ≤ 3 := by
  refine Classical.byContradiction fun q => ?_
  have h1 := Nat.pow_le_pow_right (show 0 < 16777216 by decide) (show 3 ≤ i by omega)
  have h2 : ((16777216 ^ 3 : Nat) : Int) ≤ ((16777216 ^ i : Nat) : Int) := by omega
  rw [Int.natCast_pow] at h2
  have h3 := Int.mul_le_mul_of_nonneg_right (show 1 ≤ u by omega) (show (0 : Int) ≤ 16777216 ^ i from Int.le_of_lt (mp_pos i))
  have h4 : ((16777216 ^ i : Nat) : Int) = 16777216 ^ i := Int.natCast_pow 16777216 i
  have h5 : (((16777216 : Nat) : Int)) ^ 3 = 4722366482869645213696 := by decide
  omega
theorem num_ub {u v : Int} {i : Nat} (hu : 0 ≤ u) (hub : u * 16777216 ^ i ≤ v) : u / 16777216 * 16777216 ^ (i + 1) ≤ v := by
  rw [mp_succ]
  have h1 := mdig u (16777216 ^ i)
  have h2 := Int.mul_nonneg (Int.emod_nonneg u (show (16777216 : Int) ≠ 0 by decide)) (Int.le_of_lt (mp_pos i))
  omega
theorem num_fin {V V1 V2 : Nat → Nat → Int} {o F i : Nat} {u v s : Int} (hF : V o 1 = F) (hF7 : F < 700) (m1 : MFr V V1 o F) (mf : MF V1 V2 o (18 * F)) (hi : i ≤ 3) (hl : ∀ j < i, 0 ≤ V2 (o + 1) (18 * F + j) ∧ V2 (o + 1) (18 * F + j) < 16777216) (hz : ∀ j, i ≤ j → j < 18 → V2 (o + 1) (18 * F + j) = 0) (hu0 : u = 0) (hu : mv (mr V2 o (18 * F)) i + u * 16777216 ^ i = (v.natAbs : Int)) (ht : i = 0 ∨ 0 < u ∨ V2 (o + 1) (18 * F + (i - 1)) ≠ 0) (hs : s = lcmp v 0) : Gm V (vset (vset V2 (o + 1) (18 * F + 16) s) (o + 1) (18 * F + 17) (i : Int)) o 1 ∧ RV (vset (vset V2 (o + 1) (18 * F + 16) s) (o + 1) (18 * F + 17) (i : Int)) o (18 * F) v := by
  rw [hu0, Int.zero_mul, Int.add_zero] at hu
  refine fin_m hF hF7 m1 ((mf.trans (MF.set (r := 18 * F) (x := 18 * F + 16) s (by omega))).trans (MF.set (r := 18 * F) (x := 18 * F + 17) (i : Int) (by omega))) (z := v) ⟨⟨fun k hk => ?_, ?_, i, by omega, ?_, fun k h1 h2 => ?_, ?_⟩, ?_⟩
  · show 0 ≤ vset _ _ _ _ _ _ ∧ vset _ _ _ _ _ _ < _
    rw [vset_ne _ _ _ _ (by omega), vset_ne _ _ _ _ (by omega)]
    by_cases q : k < i
    · exact hl k q
    · rw [hz k (by omega) (by omega)]; omega
  · rw [← hu, ← mv_cut (f := mr V2 o (18 * F)) (n := i) (by omega) (fun k h1 h2 => hz k h1 (by omega))]
    refine mv_congr fun j hj => ?_
    show vset _ _ _ _ _ _ = _
    rw [vset_ne _ _ _ _ (by omega), vset_ne _ _ _ _ (by omega)]
  · exact vset_eq _ _ _ _
  · show vset _ _ _ _ _ _ = _
    rw [vset_ne _ _ _ _ (by omega), vset_ne _ _ _ _ (by omega)]
    exact hz k h1 (by omega)
  · rcases ht with q | q | q
    · exact Or.inl q
    · omega
    · refine Or.inr ?_
      show vset _ _ _ _ _ _ ≠ _
      rw [vset_ne _ _ _ _ (by omega), vset_ne _ _ _ _ (by omega)]
      exact q
  · show vset _ _ _ _ _ _ = _
    rw [vset_ne _ _ _ _ (by omega), vset_eq]
    exact hs
set_option maxHeartbeats 4000000 in
theorem m_num {w : aW} {d : Nat} (hd : 2 ≤ d) {h : aH} {o : Nat} (ms : MS h o) (V : Nat → Nat → Int) (F : Nat) (hF : V o 1 = F) (hF7 : F < 700) (v : Int) (hv : -4611686018427387904 ≤ v ∧ v ≤ 4611686018427387904) : WP w d 244 [aO (some o), aJ v] (hw h V) (RI (fun r h1 => ∃ p : Nat, r = p ∧ ∃ V1, h1 = hw h V1 ∧ Gm V V1 o 1 ∧ RV V1 o p v)) := by
  obtain ⟨d, rfl⟩ : ∃ d1, d = d1 + 1 := ⟨d - 1, by omega⟩
  refine WP.enter (cd := cd_X12_num) rfl ?_
  have hls : largs 0 [aO (some o), aJ v] = [(0, aO (some o)), (1, aJ v)] := rfl
  rw [hls]
  clear hls
  have l22 : ∀ (V1 : Nat → Nat → Int), (MFr V V1 o F) → ∀ (fuel : Nat) (i : Nat) (u : Int) (V2 : Nat → Nat → Int), (i ≤ 3) → (0 ≤ u) → (u * 16777216 ^ i ≤ (v.natAbs : Int)) → (MF V1 V2 o (18 * F)) → (∀ j < i, 0 ≤ V2 (o + 1) (18 * F + j) ∧ V2 (o + 1) (18 * F + j) < 16777216) → (∀ j, i ≤ j → j < 18 → V2 (o + 1) (18 * F + j) = 0) → (mv (mr V2 o (18 * F)) i + u * 16777216 ^ i = (v.natAbs : Int)) → (i = 0 ∨ 0 < u ∨ V2 (o + 1) (18 * F + (i - 1)) ≠ 0) → 3 - i < fuel → Wk w d cd_X12_num 22 [(6, aI ((i : Int))), (4, aJ u), (3, aI ((18 * F : Int))), (0, aO (some o)), (1, aJ v)] [] (hw h V2) (RI (fun r h1 => ∃ p : Nat, r = p ∧ ∃ V1, h1 = hw h V1 ∧ Gm V V1 o 1 ∧ RV V1 o p v)) := by
    intro V1 m1 fuel
    induction fuel with
    | zero => intros; omega
    | succ fuel ih22 =>
      intro i u V2 hi hu0 hub mf hl hz hu ht hfuel
      refine g_lload rfl rfl ?_
      refine g_lconst0 rfl ?_
      refine g_lc_le rfl rfl (fun c25 => ?_) (fun c25 => ?_)
      · skip
        refine g_aload_n rfl rfl ?_
        refine g_getR rfl ms.1 (mr_limb ms) ?_
        refine g_iload_n rfl rfl ?_
        refine g_bipush rfl ?_
        refine g_iadd rfl (by omega) (by omega) ?_
        refine g_lload_n rfl rfl ?_
        refine g_lconst0 rfl ?_
        refine g_lc_ge rfl rfl (fun c68 => ?_) (fun c68 => ?_)
        · skip
          refine g_lload_n rfl rfl ?_
          refine g_lconst0 rfl ?_
          refine g_lc_le rfl rfl (fun c78 => ?_) (fun c78 => ?_)
          · skip
            refine g_iconst rfl ?_
            refine g_iast (i := (18 * F) + 16) rfl (mt_limb ms) (by omega) (by omega) ?_
            refine g_hp (h2 := hw h (vset V2 (o + 1) ((18 * F) + 16) 0)) rfl ?_
            refine g_aload_n rfl rfl ?_
            refine g_getR rfl ms.1 (mr_limb ms) ?_
            refine g_iload_n rfl rfl ?_
            refine g_bipush rfl ?_
            refine g_iadd rfl (by omega) (by omega) ?_
            refine g_iload rfl rfl ?_
            refine g_iast (i := (18 * F) + 17) rfl (mt_limb ms) (by omega) (by omega) ?_
            refine g_hp (h2 := hw h (vset (vset V2 (o + 1) ((18 * F) + 16) 0) (o + 1) ((18 * F) + 17) ((i : Int)))) rfl ?_
            refine g_iload_n rfl rfl ?_
            refine g_iret rfl ?_
            have hlv := lcmp_v v
            refine ⟨18 * F, rfl, _, rfl, ?_⟩
            refine num_fin hF hF7 m1 mf hi hl hz (by omega) hu ht ?_
            omega
          · skip
            refine g_iconst rfl ?_
            refine g_goto rfl ?_
            refine g_iast (i := (18 * F) + 16) rfl (mt_limb ms) (by omega) (by omega) ?_
            refine g_hp (h2 := hw h (vset V2 (o + 1) ((18 * F) + 16) 1)) rfl ?_
            refine g_aload_n rfl rfl ?_
            refine g_getR rfl ms.1 (mr_limb ms) ?_
            refine g_iload_n rfl rfl ?_
            refine g_bipush rfl ?_
            refine g_iadd rfl (by omega) (by omega) ?_
            refine g_iload rfl rfl ?_
            refine g_iast (i := (18 * F) + 17) rfl (mt_limb ms) (by omega) (by omega) ?_
            refine g_hp (h2 := hw h (vset (vset V2 (o + 1) ((18 * F) + 16) 1) (o + 1) ((18 * F) + 17) ((i : Int)))) rfl ?_
            refine g_iload_n rfl rfl ?_
            refine g_iret rfl ?_
            have hlv := lcmp_v v
            refine ⟨18 * F, rfl, _, rfl, ?_⟩
            refine num_fin hF hF7 m1 mf hi hl hz (by omega) hu ht ?_
            omega
        · skip
          refine g_iconst rfl ?_
          refine g_goto rfl ?_
          refine g_iast (i := (18 * F) + 16) rfl (mt_limb ms) (by omega) (by omega) ?_
          refine g_hp (h2 := hw h (vset V2 (o + 1) ((18 * F) + 16) ((-1)))) rfl ?_
          refine g_aload_n rfl rfl ?_
          refine g_getR rfl ms.1 (mr_limb ms) ?_
          refine g_iload_n rfl rfl ?_
          refine g_bipush rfl ?_
          refine g_iadd rfl (by omega) (by omega) ?_
          refine g_iload rfl rfl ?_
          refine g_iast (i := (18 * F) + 17) rfl (mt_limb ms) (by omega) (by omega) ?_
          refine g_hp (h2 := hw h (vset (vset V2 (o + 1) ((18 * F) + 16) ((-1))) (o + 1) ((18 * F) + 17) ((i : Int)))) rfl ?_
          refine g_iload_n rfl rfl ?_
          refine g_iret rfl ?_
          have hlv := lcmp_v v
          refine ⟨18 * F, rfl, _, rfl, ?_⟩
          refine num_fin hF hF7 m1 mf hi hl hz (by omega) hu ht ?_
          omega
      · skip
        refine g_aload_n rfl rfl ?_
        refine g_getR rfl ms.1 (mr_limb ms) ?_
        refine g_iload_n rfl rfl ?_
        refine g_iload rfl rfl ?_
        refine g_iadd rfl (by omega) (by omega) ?_
        refine g_lload rfl rfl ?_
        refine g_ldc2 rfl ?_
        refine g_land rfl ?_
        have hi2 := num_i c25 hub hv
        refine g_top (v2 := aJ (u % 16777216)) (congrArg aJ (by exact land_24 _)) ?_
        refine g_l2i rfl ?_
        refine g_top (v2 := aI (u % 16777216)) (congrArg aI (by unfold w32; omega)) ?_
        refine g_iast (i := (18 * F) + i) rfl (mt_limb ms) (by omega) (by omega) ?_
        refine g_hp (h2 := hw h (vset V2 (o + 1) ((18 * F) + i) (u % 16777216))) rfl ?_
        refine g_lload rfl rfl ?_
        refine g_bipush rfl ?_
        refine g_lshr rfl ?_
        refine g_top (v2 := aJ (u / 16777216)) (congrArg aJ (by exact lshr_24 _)) ?_
        refine g_lstore (l1 := [(4, aJ (u / 16777216)), (6, aI ((i : Int))), (3, aI ((18 * F : Int))), (0, aO (some o)), (1, aJ v)]) rfl rfl ?_
        refine g_iinc (l1 := [(6, aI ((i : Int) + 1)), (4, aJ (u / 16777216)), (3, aI ((18 * F : Int))), (0, aO (some o)), (1, aJ v)]) rfl rfl (by omega) (by omega) rfl ?_
        refine g_goto rfl ?_
        exact ih22 (i + 1) (u / 16777216) _ (by exact num_i c25 hub hv) (by omega) (by exact num_ub hu0 hub) (by exact mf.trans (MF.set _ (by omega))) (by intro j hj; by_cases e : j = i; (rw [e, vset_eq]; omega); (rw [vset_ne _ _ _ _ (by omega)]; exact hl j (by omega))) (by intro j h1 h2; rw [vset_ne _ _ _ _ (by omega)]; exact hz j (by omega) h2) (by rw [mv_set1, mp_succ]; have := mdig u (16777216 ^ i); omega) (by rw [Nat.add_sub_cancel, vset_eq]; omega) (by have := num_i c25 hub hv; omega)
  have j17 : ∀ (u0 : Int) (V1 : Nat → Nat → Int), (u0 = (v.natAbs : Int)) → (MFr V V1 o F) → Wk w d cd_X12_num 17 [(3, aI ((18 * F : Int))), (0, aO (some o)), (1, aJ v)] [aJ u0] (hw h V1) (RI (fun r h1 => ∃ p : Nat, r = p ∧ ∃ V1, h1 = hw h V1 ∧ Gm V V1 o 1 ∧ RV V1 o p v)) := by
    intro u0 V1 hu00 m1
    refine g_lstore (l1 := [(4, aJ u0), (3, aI ((18 * F : Int))), (0, aO (some o)), (1, aJ v)]) rfl rfl ?_
    refine g_iconst rfl ?_
    refine g_istore (l1 := [(6, aI 0), (4, aJ u0), (3, aI ((18 * F : Int))), (0, aO (some o)), (1, aJ v)]) rfl rfl ?_
    exact l22 V1 (by exact m1) _ 0 _ V1 (by omega) (by omega) (by rw [Int.pow_zero]; omega) (by exact MF.refl _ _ _) (by intro j hj; omega) (by intro j _ h2; exact m1.2.2.2.2 j h2) (by show 0 + _ * 1 = _; omega) (by exact Or.inl rfl) (Nat.lt_succ_self _)
  refine g_aload_n rfl rfl ?_
  refine g_callVI [] [] rfl rfl rfl rfl (Nat.le_of_ble_eq_true rfl) ms.1 (m_fresh (by omega) ms V F hF hF7) ?_
  rintro _ _ ⟨⟨V1, rfl, m1⟩, rfl⟩
  refine g_istore_n (l1 := [(3, aI ((18 * F : Int))), (0, aO (some o)), (1, aJ v)]) rfl rfl ?_
  refine g_lload_n rfl rfl ?_
  refine g_lconst0 rfl ?_
  refine g_lc_ge rfl rfl (fun c7 => ?_) (fun c7 => ?_)
  · skip
    refine g_lload_n rfl rfl ?_
    exact j17 _ V1 (by omega) (by exact m1)
  · skip
    refine g_lload_n rfl rfl ?_
    refine g_lneg2 rfl (by omega) (by omega) ?_
    refine g_goto rfl ?_
    exact j17 _ V1 (by omega) (by exact m1)
