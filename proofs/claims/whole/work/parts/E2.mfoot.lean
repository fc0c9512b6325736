/-! the reference's geometry, on: printed by wip/whole/e2.py -/
theorem Gm.sc {V V1 : Nat → Nat → Int} {o n p i a : Nat} (g : Gm V V1 o n) (hp : SLa o p) (f : V p i = (a : Int)) : V1 p i = (a : Int) := by
  unfold SLa at hp
  rw [g.1 p (by omega) (by omega)]
  exact f
theorem Gs.sc {V V1 : Nat → Nat → Int} {o n p i a : Nat} {T : Nat → Prop} (g : Gs V V1 o n T) (hp : SLa o p) (hn : ¬ T p) (f : V p i = (a : Int)) : V1 p i = (a : Int) := by
  unfold SLa at hp
  rw [g.1 p (by omega) (by omega) hn]
  exact f
theorem gcd_bd {x y : Int} {k : Nat} (h1 : -2 ^ k ≤ x ∧ x ≤ 2 ^ k) (h2 : -2 ^ k ≤ y ∧ y ≤ 2 ^ k) : -2 ^ k ≤ ((Int.gcd x y : Nat) : Int) ∧ ((Int.gcd x y : Nat) : Int) ≤ 2 ^ k := by
  have hp : (0 : Int) < 2 ^ k := Int.pow_pos (by omega)
  refine ⟨by omega, ?_⟩
  rcases Int.lt_trichotomy x 0 with hx | hx | hx
  · have q := Nat.le_of_dvd (by omega) (Int.gcd_dvd_natAbs_left x y)
    omega
  · subst hx
    rw [Int.gcd_zero_left]
    omega
  · have q := Nat.le_of_dvd (by omega) (Int.gcd_dvd_natAbs_left x y)
    omega
theorem tdiv_bd {x y : Int} {k : Nat} (h1 : -2 ^ k ≤ x ∧ x ≤ 2 ^ k) : -2 ^ k ≤ x.tdiv y ∧ x.tdiv y ≤ 2 ^ k := by
  have q := Int.natAbs_tdiv x y
  have q2 : (x.tdiv y).natAbs ≤ x.natAbs := by rw [q]; exact Nat.div_le_self _ _
  clear q
  generalize x.tdiv y = t at q2 ⊢
  generalize (2 : Int) ^ k = K at h1 ⊢
  omega
theorem r_gcd {w : aW} {d : Nat} (hd : 3 ≤ d) {h : aH} {o : Nat} (ms : MS h o) (V : Nat → Nat → Int) (hF : 0 ≤ V o 1 ∧ V o 1 + 2 ≤ 700) {a b : Nat} {x y : Int} {k : Nat} (xa : RB V o a x k) (xb : RB V o b y k) : WP w d 262 [aO (some o), aI ((a : Int)), aI ((b : Int))] (hw h V) (RI (fun r h1 => ∃ p : Nat, r = p ∧ ∃ V1, h1 = hw h V1 ∧ Gm V V1 o 2 ∧ RB V1 o p ((Int.gcd x y : Nat) : Int) k)) := by
  obtain ⟨F, hF0⟩ : ∃ F : Nat, V o 1 = F := ⟨(V o 1).toNat, by omega⟩
  refine (m_gcd hd ms V F hF0 (by omega) xa.1 xb.1).imp ?_
  rintro _ h1 ⟨r, rfl, p, rfl, V1, rfl, g, q⟩
  exact ⟨_, rfl, p, rfl, V1, rfl, g, q, gcd_bd xa.2 xb.2⟩
theorem r_div {w : aW} {d : Nat} (hd : 3 ≤ d) {h : aH} {o : Nat} (ms : MS h o) (V : Nat → Nat → Int) (hF : 0 ≤ V o 1 ∧ V o 1 + 2 ≤ 700) {a b : Nat} {x y : Int} {j k : Nat} (xa : RB V o a x j) (xb : RB V o b y k) (hy0 : y = 0 → x = 0) (hj : j ≤ 381) (hk : k ≤ 382) : WP w d 263 [aO (some o), aI ((a : Int)), aI ((b : Int))] (hw h V) (RI (fun r h1 => ∃ p : Nat, r = p ∧ ∃ V1, h1 = hw h V1 ∧ Gm V V1 o 2 ∧ RB V1 o p (x.tdiv y) j)) := by
  obtain ⟨F, hF0⟩ : ∃ F : Nat, V o 1 = F := ⟨(V o 1).toNat, by omega⟩
  have b1 := bd_up hj xa.2
  have b2 := bd_up hk xb.2
  refine (m_div hd ms V F hF0 (by omega) xa.1 xb.1 hy0 (by omega) (by omega)).imp ?_
  rintro _ h1 ⟨r, rfl, p, rfl, V1, rfl, g, q⟩
  exact ⟨_, rfl, p, rfl, V1, rfl, g, q, tdiv_bd xa.2⟩
def RR_ (V : Nat → Nat → Int) (o : Nat) (r : Int) (z : Option Int) (k : Nat) : Prop := match z with
  | none => r = -1
  | some z => ∃ p : Nat, r = p ∧ RB V o p z k
theorem r_root {w : aW} {d : Nat} (hd : 4 ≤ d) {h : aH} {o : Nat} (ms : MS h o) (V : Nat → Nat → Int) (hF : 0 ≤ V o 1 ∧ V o 1 + 3 ≤ 700) {a : Nat} {x : Int} {k : Nat} (xa : RB V o a x k) (hx0 : 0 ≤ x) (hk : k ≤ 330) : WP w d 264 [aO (some o), aI ((a : Int))] (hw h V) (RI (fun r h1 => ∃ V1, h1 = hw h V1 ∧ Gm V V1 o 2 ∧ RR_ V1 o r (rootO x) 165)) := by
  obtain ⟨F, hF0⟩ : ∃ F : Nat, V o 1 = F := ⟨(V o 1).toNat, by omega⟩
  have b1 := bd_up hk xa.2
  refine (m_root hd ms V F hF0 (by omega) xa.1 hx0 (by omega)).imp ?_
  rintro _ h1 ⟨r, rfl, V1, rfl, g, q⟩
  refine ⟨_, rfl, V1, rfl, g, ?_⟩
  rcases q with ⟨q1, q2⟩ | ⟨p, s, q1, q2, q3, q4⟩
  · rw [rootO_no q2]
    exact q1
  · rw [rootO_yes q2]
    exact ⟨p, q1, q3, by omega, by omega⟩
theorem rootO_neg {x : Int} (h : x < 0) : rootO x = none := rootO_no (by rintro ⟨s, q⟩; omega)
def g4 (R : T4) : Int := ((Int.gcd ((Int.gcd R.1 R.2.1 : Nat) : Int) ((Int.gcd R.2.2.1 R.2.2.2 : Nat) : Int) : Nat) : Int)
theorem g4_0 {R : T4} (h : g4 R = 0) : R.1 = 0 ∧ R.2.1 = 0 ∧ R.2.2.1 = 0 ∧ R.2.2.2 = 0 := by
  unfold g4 at h
  have h1 : Int.gcd ((Int.gcd R.1 R.2.1 : Nat) : Int) ((Int.gcd R.2.2.1 R.2.2.2 : Nat) : Int) = 0 := by omega
  rw [Int.gcd_eq_zero_iff] at h1
  have h2 : Int.gcd R.1 R.2.1 = 0 := by omega
  have h3 : Int.gcd R.2.2.1 R.2.2.2 = 0 := by omega
  rw [Int.gcd_eq_zero_iff] at h2 h3
  exact ⟨h2.1, h2.2, h3.1, h3.2⟩
def set_dn (R : T4) : T4 := (R.1.tdiv (g4 R), R.2.1.tdiv (g4 R), R.2.2.1.tdiv (g4 R), R.2.2.2.tdiv (g4 R))
def set_up (R : T4) : T4 := (-(R.1.tdiv (g4 R)), -(R.2.1.tdiv (g4 R)), -(R.2.2.1.tdiv (g4 R)), -(R.2.2.2.tdiv (g4 R)))
def m_low (R : T4) : T4 := if R.2.2.1 < 0 ∨ R.2.2.1 = 0 ∧ (R.2.1 < 0 ∨ R.2.1 = 0 ∧ R.1 < 0) then set_up R else set_dn R
def m_lowR (R : T4) : T4 := if R.1 < 0 then set_up R else set_dn R
set_option maxHeartbeats 4000000 in
theorem m_settle0 {w : aW} {d : Nat} (hd : 7 ≤ d) {k : Nat} {h : aH} {o : Nat} (ms : MS h o) (V : Nat → Nat → Int) (hF : 0 ≤ V o 1 ∧ V o 1 + 22 ≤ 700) {P : T4} (aP : Nat) (hP : SLa o aP) (tP : SB V o aP P (k))  (hk : k ≤ 381) : WP w d 288 [aO (some o), aO (some aP), aI 0] (hw h V) (RN (fun h1 => ∃ V1, h1 = hw h V1 ∧ Gs V V1 o 22 (fun q => q = aP) ∧ SB V1 o aP (m_low P) (k))) := by
  obtain ⟨d, rfl⟩ : ∃ d1, d = d1 + 1 := ⟨d - 1, by omega⟩
  refine WP.enter (cd := cd_X12_settle) rfl ?_
  have G0 := Gs.refl V o (fun q => q = aP)
  obtain ⟨Pp, Pq, Pr, Ps, sP, xPp, xPq, xPr, xPs⟩ := tP
  have hs_P := hP
  unfold SLa at hs_P
  have hls : largs 0 [aO (some o), aO (some aP), aI 0] = [(0, aO (some o)), (1, aO (some aP)), (2, aI 0)] := rfl
  rw [hls]
  clear hls
  refine g_aload_n rfl rfl ?_
  refine g_aload_n rfl rfl ?_
  refine g_aload_n rfl rfl ?_
  refine g_iconst rfl ?_
  refine g_iald (i := 0) rfl (ms.slot hP) (by omega) (by omega) ?_
  refine g_top (v2 := aI ((Pp : Int))) (congrArg aI (by exact sP.1)) ?_
  refine g_aload_n rfl rfl ?_
  refine g_iconst rfl ?_
  refine g_iald (i := 1) rfl (ms.slot hP) (by omega) (by omega) ?_
  refine g_top (v2 := aI ((Pq : Int))) (congrArg aI (by exact sP.2.1)) ?_
  refine g_callVI [aI ((Pp : Int)), aI ((Pq : Int))] [aO (some o)] rfl rfl rfl rfl (Nat.le_of_ble_eq_true rfl) ms.1 (r_gcd (by omega) ms V (by have := G0.2.2.1; omega) (show RB V o Pp P.1 (k) from (xPp.up (by omega))) (show RB V o Pq P.2.1 (k) from (xPq.up (by omega)))) ?_
  rintro _ _ ⟨p1, rfl, V1, rfl, g1, xp1⟩
  have G_2 := G0.trans (g1.gs _)
  refine g_aload_n rfl rfl ?_
  refine g_aload_n rfl rfl ?_
  refine g_iconst rfl ?_
  refine g_iald (i := 2) rfl (ms.slot hP) (by omega) (by omega) ?_
  refine g_top (v2 := aI ((Pr : Int))) (congrArg aI (by exact (g1.sa hP sP).2.2.1)) ?_
  refine g_aload_n rfl rfl ?_
  refine g_iconst rfl ?_
  refine g_iald (i := 3) rfl (ms.slot hP) (by omega) (by omega) ?_
  refine g_top (v2 := aI ((Ps : Int))) (congrArg aI (by exact (g1.sa hP sP).2.2.2)) ?_
  refine g_callVI [aI ((Pr : Int)), aI ((Ps : Int))] [aI ((p1 : Int)), aO (some o)] rfl rfl rfl rfl (Nat.le_of_ble_eq_true rfl) ms.1 (r_gcd (by omega) ms V1 (by have := G_2.2.2.1; omega) (show RB V1 o Pr P.2.2.1 (k) from ((g1.rb xPr).up (by omega))) (show RB V1 o Ps P.2.2.2 (k) from ((g1.rb xPs).up (by omega)))) ?_
  rintro _ _ ⟨p3, rfl, V3, rfl, g3, xp3⟩
  have G_4 := G_2.trans (g3.gs _)
  refine g_callVI [aI ((p1 : Int)), aI ((p3 : Int))] [] rfl rfl rfl rfl (Nat.le_of_ble_eq_true rfl) ms.1 (r_gcd (by omega) ms V3 (by have := G_4.2.2.1; omega) (show RB V3 o p1 (((Int.gcd P.1 P.2.1 : Nat) : Int)) (k) from ((g3.rb xp1).up (by omega))) (show RB V3 o p3 (((Int.gcd P.2.2.1 P.2.2.2 : Nat) : Int)) (k) from (xp3.up (by omega)))) ?_
  rintro _ _ ⟨p5, rfl, V5, rfl, g5, xp5⟩
  have xp5 : RB V5 o p5 (g4 P) (k) := xp5
  have G_6 := G_4.trans (g5.gs _)
  refine g_istore_n (l1 := [(3, aI ((p5 : Int))), (0, aO (some o)), (1, aO (some aP)), (2, aI 0)]) rfl rfl ?_
  refine g_iconst rfl ?_
  refine g_istore (l1 := [(4, aI 0), (3, aI ((p5 : Int))), (0, aO (some o)), (1, aO (some aP)), (2, aI 0)]) rfl rfl ?_
  refine g_iload_n rfl rfl ?_
  refine g_iconst rfl ?_
  refine g_icmp_ne_t rfl (by omega) ?_
  refine g_iconst rfl ?_
  refine g_istore (l1 := [(5, aI 0), (4, aI 0), (3, aI ((p5 : Int))), (0, aO (some o)), (1, aO (some aP)), (2, aI 0)]) rfl rfl ?_
  refine g_iload rfl rfl ?_
  refine g_iconst rfl ?_
  refine g_icmp_ge_f rfl (by omega) ?_
  refine g_aload_n rfl rfl ?_
  refine g_aload_n rfl rfl ?_
  refine g_iload rfl rfl ?_
  refine g_iald (i := 0) rfl (ms.slot hP) (by omega) (by omega) ?_
  refine g_top (v2 := aI ((Pp : Int))) (congrArg aI (by exact (g5.sa hP (g3.sa hP (g1.sa hP sP))).1)) ?_
  refine g_callVI [aI ((Pp : Int))] [] rfl rfl rfl rfl (Nat.le_of_ble_eq_true rfl) ms.1 (r_sign (by omega) ms V5 (g5.rb (g3.rb (g1.rb xPp)))) ?_
  rintro r7 _ ⟨rfl, e8⟩
  rw [e8]
  clear e8 r7
  refine g_if_eq rfl (fun c62 => ?_) (fun c62 => ?_)
  · skip
    refine g_iload rfl rfl ?_
    refine g_istore (l1 := [(4, aI 0), (5, aI 0), (3, aI ((p5 : Int))), (0, aO (some o)), (1, aO (some aP)), (2, aI 0)]) rfl rfl ?_
    refine g_iinc (l1 := [(5, aI 1), (4, aI 0), (3, aI ((p5 : Int))), (0, aO (some o)), (1, aO (some aP)), (2, aI 0)]) rfl rfl (by omega) (by omega) rfl ?_
    refine g_goto rfl ?_
    refine g_iload rfl rfl ?_
    refine g_iconst rfl ?_
    refine g_icmp_ge_f rfl (by omega) ?_
    refine g_aload_n rfl rfl ?_
    refine g_aload_n rfl rfl ?_
    refine g_iload rfl rfl ?_
    refine g_iald (i := 1) rfl (ms.slot hP) (by omega) (by omega) ?_
    refine g_top (v2 := aI ((Pq : Int))) (congrArg aI (by exact (g5.sa hP (g3.sa hP (g1.sa hP sP))).2.1)) ?_
    refine g_callVI [aI ((Pq : Int))] [] rfl rfl rfl rfl (Nat.le_of_ble_eq_true rfl) ms.1 (r_sign (by omega) ms V5 (g5.rb (g3.rb (g1.rb xPq)))) ?_
    rintro r9 _ ⟨rfl, e10⟩
    rw [e10]
    clear e10 r9
    refine g_if_eq rfl (fun c62 => ?_) (fun c62 => ?_)
    · skip
      refine g_iload rfl rfl ?_
      refine g_istore (l1 := [(4, aI 0), (5, aI 1), (3, aI ((p5 : Int))), (0, aO (some o)), (1, aO (some aP)), (2, aI 0)]) rfl rfl ?_
      refine g_iinc (l1 := [(5, aI 2), (4, aI 0), (3, aI ((p5 : Int))), (0, aO (some o)), (1, aO (some aP)), (2, aI 0)]) rfl rfl (by omega) (by omega) rfl ?_
      refine g_goto rfl ?_
      refine g_iload rfl rfl ?_
      refine g_iconst rfl ?_
      refine g_icmp_ge_f rfl (by omega) ?_
      refine g_aload_n rfl rfl ?_
      refine g_aload_n rfl rfl ?_
      refine g_iload rfl rfl ?_
      refine g_iald (i := 2) rfl (ms.slot hP) (by omega) (by omega) ?_
      refine g_top (v2 := aI ((Pr : Int))) (congrArg aI (by exact (g5.sa hP (g3.sa hP (g1.sa hP sP))).2.2.1)) ?_
      refine g_callVI [aI ((Pr : Int))] [] rfl rfl rfl rfl (Nat.le_of_ble_eq_true rfl) ms.1 (r_sign (by omega) ms V5 (g5.rb (g3.rb (g1.rb xPr)))) ?_
      rintro r11 _ ⟨rfl, e12⟩
      rw [e12]
      clear e12 r11
      refine g_if_eq rfl (fun c62 => ?_) (fun c62 => ?_)
      · skip
        refine g_iload rfl rfl ?_
        refine g_istore (l1 := [(4, aI 0), (5, aI 2), (3, aI ((p5 : Int))), (0, aO (some o)), (1, aO (some aP)), (2, aI 0)]) rfl rfl ?_
        refine g_iinc (l1 := [(5, aI 3), (4, aI 0), (3, aI ((p5 : Int))), (0, aO (some o)), (1, aO (some aP)), (2, aI 0)]) rfl rfl (by omega) (by omega) rfl ?_
        refine g_goto rfl ?_
        refine g_iload rfl rfl ?_
        refine g_iconst rfl ?_
        refine g_icmp_ge_t rfl (by omega) ?_
        refine g_iconst rfl ?_
        refine g_istore (l1 := [(5, aI 0), (4, aI 0), (3, aI ((p5 : Int))), (0, aO (some o)), (1, aO (some aP)), (2, aI 0)]) rfl rfl ?_
        refine g_iload rfl rfl ?_
        refine g_iconst rfl ?_
        refine g_icmp_ge_f rfl (by omega) ?_
        refine g_aload_n rfl rfl ?_
        refine g_iload rfl rfl ?_
        refine g_aload_n rfl rfl ?_
        refine g_aload_n rfl rfl ?_
        refine g_iload rfl rfl ?_
        refine g_iald (i := 0) rfl (ms.slot hP) (by omega) (by omega) ?_
        refine g_top (v2 := aI ((Pp : Int))) (congrArg aI (by exact (g5.sa hP (g3.sa hP (g1.sa hP sP))).1)) ?_
        refine g_iload_n rfl rfl ?_
        refine g_callVI [aI ((Pp : Int)), aI ((p5 : Int))] [aI 0, aO (some aP)] rfl rfl rfl rfl (Nat.le_of_ble_eq_true rfl) ms.1 (r_div (by omega) ms V5 (by have := G_6.2.2.1; omega) (g5.rb (g3.rb (g1.rb xPp))) xp5 (by intro h0; have q4 := g4_0 h0; omega) (by omega) (by omega)) ?_
        rintro _ _ ⟨p13, rfl, V13, rfl, g13, xp13⟩
        have G_14 := G_6.trans (g13.gs _)
        refine g_iast (i := 0) rfl (ms.slot hP) (by omega) (by omega) ?_
        obtain ⟨V15, eV15⟩ : ∃ W, W = vset V13 aP 0 (p13 : Int) := ⟨_, rfl⟩
        refine g_hp (h2 := hw h V15) (by rw [eV15]; rfl) ?_
        have g15 : Gs V13 V15 o 0 (fun q => q = aP) := by rw [eV15]; exact Gs.cell hP
        have s15 : SA V15 aP p13 Pq Pr Ps := by rw [eV15]; exact SA.c0 (g13.sa hP (g5.sa hP (g3.sa hP (g1.sa hP sP)))) p13
        have G_16 := G_14.trans (g15.wide (fun q hq => by have hq : q = aP := hq; show q = aP; omega))
        refine g_aload_n rfl rfl ?_
        refine g_iload rfl rfl ?_
        refine g_iload rfl rfl ?_
        refine g_if_ge_t rfl (by omega) ?_
        refine g_aload_n rfl rfl ?_
        refine g_iload rfl rfl ?_
        refine g_iald (i := 0) rfl (ms.slot hP) (by omega) (by omega) ?_
        refine g_top (v2 := aI ((p13 : Int))) (congrArg aI (by exact s15.1)) ?_
        refine g_iast (i := 0) rfl (ms.slot hP) (by omega) (by omega) ?_
        obtain ⟨V17, eV17⟩ : ∃ W, W = vset V15 aP 0 (p13 : Int) := ⟨_, rfl⟩
        refine g_hp (h2 := hw h V17) (by rw [eV17]; rfl) ?_
        have g17 : Gs V15 V17 o 0 (fun q => q = aP) := by rw [eV17]; exact Gs.cell hP
        have s17 : SA V17 aP p13 Pq Pr Ps := by rw [eV17]; exact SA.c0 s15 p13
        have G_18 := G_16.trans (g17.wide (fun q hq => by have hq : q = aP := hq; show q = aP; omega))
        refine g_iinc (l1 := [(5, aI 1), (4, aI 0), (3, aI ((p5 : Int))), (0, aO (some o)), (1, aO (some aP)), (2, aI 0)]) rfl rfl (by omega) (by omega) rfl ?_
        refine g_goto rfl ?_
        refine g_iload rfl rfl ?_
        refine g_iconst rfl ?_
        refine g_icmp_ge_f rfl (by omega) ?_
        refine g_aload_n rfl rfl ?_
        refine g_iload rfl rfl ?_
        refine g_aload_n rfl rfl ?_
        refine g_aload_n rfl rfl ?_
        refine g_iload rfl rfl ?_
        refine g_iald (i := 1) rfl (ms.slot hP) (by omega) (by omega) ?_
        refine g_top (v2 := aI ((Pq : Int))) (congrArg aI (by exact s17.2.1)) ?_
        refine g_iload_n rfl rfl ?_
        refine g_callVI [aI ((Pq : Int)), aI ((p5 : Int))] [aI 1, aO (some aP)] rfl rfl rfl rfl (Nat.le_of_ble_eq_true rfl) ms.1 (r_div (by omega) ms V17 (by have := G_18.2.2.1; omega) (g17.rb (g15.rb (g13.rb (g5.rb (g3.rb (g1.rb xPq)))))) (g17.rb (g15.rb (g13.rb xp5))) (by intro h0; have q4 := g4_0 h0; omega) (by omega) (by omega)) ?_
        rintro _ _ ⟨p19, rfl, V19, rfl, g19, xp19⟩
        have G_20 := G_18.trans (g19.gs _)
        refine g_iast (i := 1) rfl (ms.slot hP) (by omega) (by omega) ?_
        obtain ⟨V21, eV21⟩ : ∃ W, W = vset V19 aP 1 (p19 : Int) := ⟨_, rfl⟩
        refine g_hp (h2 := hw h V21) (by rw [eV21]; rfl) ?_
        have g21 : Gs V19 V21 o 0 (fun q => q = aP) := by rw [eV21]; exact Gs.cell hP
        have s21 : SA V21 aP p13 p19 Pr Ps := by rw [eV21]; exact SA.c1 (g19.sa hP s17) p19
        have G_22 := G_20.trans (g21.wide (fun q hq => by have hq : q = aP := hq; show q = aP; omega))
        refine g_aload_n rfl rfl ?_
        refine g_iload rfl rfl ?_
        refine g_iload rfl rfl ?_
        refine g_if_ge_t rfl (by omega) ?_
        refine g_aload_n rfl rfl ?_
        refine g_iload rfl rfl ?_
        refine g_iald (i := 1) rfl (ms.slot hP) (by omega) (by omega) ?_
        refine g_top (v2 := aI ((p19 : Int))) (congrArg aI (by exact s21.2.1)) ?_
        refine g_iast (i := 1) rfl (ms.slot hP) (by omega) (by omega) ?_
        obtain ⟨V23, eV23⟩ : ∃ W, W = vset V21 aP 1 (p19 : Int) := ⟨_, rfl⟩
        refine g_hp (h2 := hw h V23) (by rw [eV23]; rfl) ?_
        have g23 : Gs V21 V23 o 0 (fun q => q = aP) := by rw [eV23]; exact Gs.cell hP
        have s23 : SA V23 aP p13 p19 Pr Ps := by rw [eV23]; exact SA.c1 s21 p19
        have G_24 := G_22.trans (g23.wide (fun q hq => by have hq : q = aP := hq; show q = aP; omega))
        refine g_iinc (l1 := [(5, aI 2), (4, aI 0), (3, aI ((p5 : Int))), (0, aO (some o)), (1, aO (some aP)), (2, aI 0)]) rfl rfl (by omega) (by omega) rfl ?_
        refine g_goto rfl ?_
        refine g_iload rfl rfl ?_
        refine g_iconst rfl ?_
        refine g_icmp_ge_f rfl (by omega) ?_
        refine g_aload_n rfl rfl ?_
        refine g_iload rfl rfl ?_
        refine g_aload_n rfl rfl ?_
        refine g_aload_n rfl rfl ?_
        refine g_iload rfl rfl ?_
        refine g_iald (i := 2) rfl (ms.slot hP) (by omega) (by omega) ?_
        refine g_top (v2 := aI ((Pr : Int))) (congrArg aI (by exact s23.2.2.1)) ?_
        refine g_iload_n rfl rfl ?_
        refine g_callVI [aI ((Pr : Int)), aI ((p5 : Int))] [aI 2, aO (some aP)] rfl rfl rfl rfl (Nat.le_of_ble_eq_true rfl) ms.1 (r_div (by omega) ms V23 (by have := G_24.2.2.1; omega) (g23.rb (g21.rb (g19.rb (g17.rb (g15.rb (g13.rb (g5.rb (g3.rb (g1.rb xPr))))))))) (g23.rb (g21.rb (g19.rb (g17.rb (g15.rb (g13.rb xp5)))))) (by intro h0; have q4 := g4_0 h0; omega) (by omega) (by omega)) ?_
        rintro _ _ ⟨p25, rfl, V25, rfl, g25, xp25⟩
        have G_26 := G_24.trans (g25.gs _)
        refine g_iast (i := 2) rfl (ms.slot hP) (by omega) (by omega) ?_
        obtain ⟨V27, eV27⟩ : ∃ W, W = vset V25 aP 2 (p25 : Int) := ⟨_, rfl⟩
        refine g_hp (h2 := hw h V27) (by rw [eV27]; rfl) ?_
        have g27 : Gs V25 V27 o 0 (fun q => q = aP) := by rw [eV27]; exact Gs.cell hP
        have s27 : SA V27 aP p13 p19 p25 Ps := by rw [eV27]; exact SA.c2 (g25.sa hP s23) p25
        have G_28 := G_26.trans (g27.wide (fun q hq => by have hq : q = aP := hq; show q = aP; omega))
        refine g_aload_n rfl rfl ?_
        refine g_iload rfl rfl ?_
        refine g_iload rfl rfl ?_
        refine g_if_ge_t rfl (by omega) ?_
        refine g_aload_n rfl rfl ?_
        refine g_iload rfl rfl ?_
        refine g_iald (i := 2) rfl (ms.slot hP) (by omega) (by omega) ?_
        refine g_top (v2 := aI ((p25 : Int))) (congrArg aI (by exact s27.2.2.1)) ?_
        refine g_iast (i := 2) rfl (ms.slot hP) (by omega) (by omega) ?_
        obtain ⟨V29, eV29⟩ : ∃ W, W = vset V27 aP 2 (p25 : Int) := ⟨_, rfl⟩
        refine g_hp (h2 := hw h V29) (by rw [eV29]; rfl) ?_
        have g29 : Gs V27 V29 o 0 (fun q => q = aP) := by rw [eV29]; exact Gs.cell hP
        have s29 : SA V29 aP p13 p19 p25 Ps := by rw [eV29]; exact SA.c2 s27 p25
        have G_30 := G_28.trans (g29.wide (fun q hq => by have hq : q = aP := hq; show q = aP; omega))
        refine g_iinc (l1 := [(5, aI 3), (4, aI 0), (3, aI ((p5 : Int))), (0, aO (some o)), (1, aO (some aP)), (2, aI 0)]) rfl rfl (by omega) (by omega) rfl ?_
        refine g_goto rfl ?_
        refine g_iload rfl rfl ?_
        refine g_iconst rfl ?_
        refine g_icmp_ge_f rfl (by omega) ?_
        refine g_aload_n rfl rfl ?_
        refine g_iload rfl rfl ?_
        refine g_aload_n rfl rfl ?_
        refine g_aload_n rfl rfl ?_
        refine g_iload rfl rfl ?_
        refine g_iald (i := 3) rfl (ms.slot hP) (by omega) (by omega) ?_
        refine g_top (v2 := aI ((Ps : Int))) (congrArg aI (by exact s29.2.2.2)) ?_
        refine g_iload_n rfl rfl ?_
        refine g_callVI [aI ((Ps : Int)), aI ((p5 : Int))] [aI 3, aO (some aP)] rfl rfl rfl rfl (Nat.le_of_ble_eq_true rfl) ms.1 (r_div (by omega) ms V29 (by have := G_30.2.2.1; omega) (g29.rb (g27.rb (g25.rb (g23.rb (g21.rb (g19.rb (g17.rb (g15.rb (g13.rb (g5.rb (g3.rb (g1.rb xPs)))))))))))) (g29.rb (g27.rb (g25.rb (g23.rb (g21.rb (g19.rb (g17.rb (g15.rb (g13.rb xp5))))))))) (by intro h0; have q4 := g4_0 h0; omega) (by omega) (by omega)) ?_
        rintro _ _ ⟨p31, rfl, V31, rfl, g31, xp31⟩
        have G_32 := G_30.trans (g31.gs _)
        refine g_iast (i := 3) rfl (ms.slot hP) (by omega) (by omega) ?_
        obtain ⟨V33, eV33⟩ : ∃ W, W = vset V31 aP 3 (p31 : Int) := ⟨_, rfl⟩
        refine g_hp (h2 := hw h V33) (by rw [eV33]; rfl) ?_
        have g33 : Gs V31 V33 o 0 (fun q => q = aP) := by rw [eV33]; exact Gs.cell hP
        have s33 : SA V33 aP p13 p19 p25 p31 := by rw [eV33]; exact SA.c3 (g31.sa hP s29) p31
        have G_34 := G_32.trans (g33.wide (fun q hq => by have hq : q = aP := hq; show q = aP; omega))
        refine g_aload_n rfl rfl ?_
        refine g_iload rfl rfl ?_
        refine g_iload rfl rfl ?_
        refine g_if_ge_t rfl (by omega) ?_
        refine g_aload_n rfl rfl ?_
        refine g_iload rfl rfl ?_
        refine g_iald (i := 3) rfl (ms.slot hP) (by omega) (by omega) ?_
        refine g_top (v2 := aI ((p31 : Int))) (congrArg aI (by exact s33.2.2.2)) ?_
        refine g_iast (i := 3) rfl (ms.slot hP) (by omega) (by omega) ?_
        obtain ⟨V35, eV35⟩ : ∃ W, W = vset V33 aP 3 (p31 : Int) := ⟨_, rfl⟩
        refine g_hp (h2 := hw h V35) (by rw [eV35]; rfl) ?_
        have g35 : Gs V33 V35 o 0 (fun q => q = aP) := by rw [eV35]; exact Gs.cell hP
        have s35 : SA V35 aP p13 p19 p25 p31 := by rw [eV35]; exact SA.c3 s33 p31
        have G_36 := G_34.trans (g35.wide (fun q hq => by have hq : q = aP := hq; show q = aP; omega))
        refine g_iinc (l1 := [(5, aI 4), (4, aI 0), (3, aI ((p5 : Int))), (0, aO (some o)), (1, aO (some aP)), (2, aI 0)]) rfl rfl (by omega) (by omega) rfl ?_
        refine g_goto rfl ?_
        refine g_iload rfl rfl ?_
        refine g_iconst rfl ?_
        refine g_icmp_ge_t rfl (by omega) ?_
        refine g_vret rfl ?_
        refine ⟨V35, rfl, G_36.mono (by omega), ?_⟩
        have l0 := @lcmp_0 P.1 0
        have m0 := @lcmp_lt P.1 0
        have n0 := @lcmp_gt P.1 0
        have l1 := @lcmp_0 P.2.1 0
        have m1 := @lcmp_lt P.2.1 0
        have n1 := @lcmp_gt P.2.1 0
        have l2 := @lcmp_0 P.2.2.1 0
        have m2 := @lcmp_lt P.2.2.1 0
        have n2 := @lcmp_gt P.2.2.1 0
        unfold m_low
        first
          | (rw [if_pos (by omega)]; unfold set_up)
          | (rw [if_neg (by omega)]; unfold set_dn)
        exact ⟨_, _, _, _, s35, ((g35.rb (g33.rb (g31.rb (g29.rb (g27.rb (g25.rb (g23.rb (g21.rb (g19.rb (g17.rb (g15.rb xp13))))))))))).up (by omega)), ((g35.rb (g33.rb (g31.rb (g29.rb (g27.rb (g25.rb (g23.rb (g21.rb xp19)))))))).up (by omega)), ((g35.rb (g33.rb (g31.rb (g29.rb (g27.rb xp25))))).up (by omega)), ((g35.rb (g33.rb xp31)).up (by omega))⟩
      · skip
        refine g_aload_n rfl rfl ?_
        refine g_aload_n rfl rfl ?_
        refine g_iload rfl rfl ?_
        refine g_iald (i := 2) rfl (ms.slot hP) (by omega) (by omega) ?_
        refine g_top (v2 := aI ((Pr : Int))) (congrArg aI (by exact (g5.sa hP (g3.sa hP (g1.sa hP sP))).2.2.1)) ?_
        refine g_callVI [aI ((Pr : Int))] [] rfl rfl rfl rfl (Nat.le_of_ble_eq_true rfl) ms.1 (r_sign (by omega) ms V5 (g5.rb (g3.rb (g1.rb xPr)))) ?_
        rintro r37 _ ⟨rfl, e38⟩
        rw [e38]
        clear e38 r37
        refine g_goto rfl ?_
        refine g_istore (l1 := [(4, aI (lcmp P.2.2.1 0)), (5, aI 2), (3, aI ((p5 : Int))), (0, aO (some o)), (1, aO (some aP)), (2, aI 0)]) rfl rfl ?_
        refine g_iinc (l1 := [(5, aI 3), (4, aI (lcmp P.2.2.1 0)), (3, aI ((p5 : Int))), (0, aO (some o)), (1, aO (some aP)), (2, aI 0)]) rfl rfl (by omega) (by omega) rfl ?_
        refine g_goto rfl ?_
        refine g_iload rfl rfl ?_
        refine g_iconst rfl ?_
        refine g_icmp_ge_t rfl (by omega) ?_
        refine g_iconst rfl ?_
        refine g_istore (l1 := [(5, aI 0), (4, aI (lcmp P.2.2.1 0)), (3, aI ((p5 : Int))), (0, aO (some o)), (1, aO (some aP)), (2, aI 0)]) rfl rfl ?_
        refine g_iload rfl rfl ?_
        refine g_iconst rfl ?_
        refine g_icmp_ge_f rfl (by omega) ?_
        refine g_aload_n rfl rfl ?_
        refine g_iload rfl rfl ?_
        refine g_aload_n rfl rfl ?_
        refine g_aload_n rfl rfl ?_
        refine g_iload rfl rfl ?_
        refine g_iald (i := 0) rfl (ms.slot hP) (by omega) (by omega) ?_
        refine g_top (v2 := aI ((Pp : Int))) (congrArg aI (by exact (g5.sa hP (g3.sa hP (g1.sa hP sP))).1)) ?_
        refine g_iload_n rfl rfl ?_
        refine g_callVI [aI ((Pp : Int)), aI ((p5 : Int))] [aI 0, aO (some aP)] rfl rfl rfl rfl (Nat.le_of_ble_eq_true rfl) ms.1 (r_div (by omega) ms V5 (by have := G_6.2.2.1; omega) (g5.rb (g3.rb (g1.rb xPp))) xp5 (by intro h0; have q4 := g4_0 h0; omega) (by omega) (by omega)) ?_
        rintro _ _ ⟨p39, rfl, V39, rfl, g39, xp39⟩
        have G_40 := G_6.trans (g39.gs _)
        refine g_iast (i := 0) rfl (ms.slot hP) (by omega) (by omega) ?_
        obtain ⟨V41, eV41⟩ : ∃ W, W = vset V39 aP 0 (p39 : Int) := ⟨_, rfl⟩
        refine g_hp (h2 := hw h V41) (by rw [eV41]; rfl) ?_
        have g41 : Gs V39 V41 o 0 (fun q => q = aP) := by rw [eV41]; exact Gs.cell hP
        have s41 : SA V41 aP p39 Pq Pr Ps := by rw [eV41]; exact SA.c0 (g39.sa hP (g5.sa hP (g3.sa hP (g1.sa hP sP)))) p39
        have G_42 := G_40.trans (g41.wide (fun q hq => by have hq : q = aP := hq; show q = aP; omega))
        refine g_aload_n rfl rfl ?_
        refine g_iload rfl rfl ?_
        refine g_iload rfl rfl ?_
        refine g_if_ge rfl (fun c113 => ?_) (fun c113 => ?_)
        · skip
          refine g_aload_n rfl rfl ?_
          refine g_iload rfl rfl ?_
          refine g_iald (i := 0) rfl (ms.slot hP) (by omega) (by omega) ?_
          refine g_top (v2 := aI ((p39 : Int))) (congrArg aI (by exact s41.1)) ?_
          refine g_iast (i := 0) rfl (ms.slot hP) (by omega) (by omega) ?_
          obtain ⟨V43, eV43⟩ : ∃ W, W = vset V41 aP 0 (p39 : Int) := ⟨_, rfl⟩
          refine g_hp (h2 := hw h V43) (by rw [eV43]; rfl) ?_
          have g43 : Gs V41 V43 o 0 (fun q => q = aP) := by rw [eV43]; exact Gs.cell hP
          have s43 : SA V43 aP p39 Pq Pr Ps := by rw [eV43]; exact SA.c0 s41 p39
          have G_44 := G_42.trans (g43.wide (fun q hq => by have hq : q = aP := hq; show q = aP; omega))
          refine g_iinc (l1 := [(5, aI 1), (4, aI (lcmp P.2.2.1 0)), (3, aI ((p5 : Int))), (0, aO (some o)), (1, aO (some aP)), (2, aI 0)]) rfl rfl (by omega) (by omega) rfl ?_
          refine g_goto rfl ?_
          refine g_iload rfl rfl ?_
          refine g_iconst rfl ?_
          refine g_icmp_ge_f rfl (by omega) ?_
          refine g_aload_n rfl rfl ?_
          refine g_iload rfl rfl ?_
          refine g_aload_n rfl rfl ?_
          refine g_aload_n rfl rfl ?_
          refine g_iload rfl rfl ?_
          refine g_iald (i := 1) rfl (ms.slot hP) (by omega) (by omega) ?_
          refine g_top (v2 := aI ((Pq : Int))) (congrArg aI (by exact s43.2.1)) ?_
          refine g_iload_n rfl rfl ?_
          refine g_callVI [aI ((Pq : Int)), aI ((p5 : Int))] [aI 1, aO (some aP)] rfl rfl rfl rfl (Nat.le_of_ble_eq_true rfl) ms.1 (r_div (by omega) ms V43 (by have := G_44.2.2.1; omega) (g43.rb (g41.rb (g39.rb (g5.rb (g3.rb (g1.rb xPq)))))) (g43.rb (g41.rb (g39.rb xp5))) (by intro h0; have q4 := g4_0 h0; omega) (by omega) (by omega)) ?_
          rintro _ _ ⟨p45, rfl, V45, rfl, g45, xp45⟩
          have G_46 := G_44.trans (g45.gs _)
          refine g_iast (i := 1) rfl (ms.slot hP) (by omega) (by omega) ?_
          obtain ⟨V47, eV47⟩ : ∃ W, W = vset V45 aP 1 (p45 : Int) := ⟨_, rfl⟩
          refine g_hp (h2 := hw h V47) (by rw [eV47]; rfl) ?_
          have g47 : Gs V45 V47 o 0 (fun q => q = aP) := by rw [eV47]; exact Gs.cell hP
          have s47 : SA V47 aP p39 p45 Pr Ps := by rw [eV47]; exact SA.c1 (g45.sa hP s43) p45
          have G_48 := G_46.trans (g47.wide (fun q hq => by have hq : q = aP := hq; show q = aP; omega))
          refine g_aload_n rfl rfl ?_
          refine g_iload rfl rfl ?_
          refine g_iload rfl rfl ?_
          refine g_if_ge_t rfl (by omega) ?_
          refine g_aload_n rfl rfl ?_
          refine g_iload rfl rfl ?_
          refine g_iald (i := 1) rfl (ms.slot hP) (by omega) (by omega) ?_
          refine g_top (v2 := aI ((p45 : Int))) (congrArg aI (by exact s47.2.1)) ?_
          refine g_iast (i := 1) rfl (ms.slot hP) (by omega) (by omega) ?_
          obtain ⟨V49, eV49⟩ : ∃ W, W = vset V47 aP 1 (p45 : Int) := ⟨_, rfl⟩
          refine g_hp (h2 := hw h V49) (by rw [eV49]; rfl) ?_
          have g49 : Gs V47 V49 o 0 (fun q => q = aP) := by rw [eV49]; exact Gs.cell hP
          have s49 : SA V49 aP p39 p45 Pr Ps := by rw [eV49]; exact SA.c1 s47 p45
          have G_50 := G_48.trans (g49.wide (fun q hq => by have hq : q = aP := hq; show q = aP; omega))
          refine g_iinc (l1 := [(5, aI 2), (4, aI (lcmp P.2.2.1 0)), (3, aI ((p5 : Int))), (0, aO (some o)), (1, aO (some aP)), (2, aI 0)]) rfl rfl (by omega) (by omega) rfl ?_
          refine g_goto rfl ?_
          refine g_iload rfl rfl ?_
          refine g_iconst rfl ?_
          refine g_icmp_ge_f rfl (by omega) ?_
          refine g_aload_n rfl rfl ?_
          refine g_iload rfl rfl ?_
          refine g_aload_n rfl rfl ?_
          refine g_aload_n rfl rfl ?_
          refine g_iload rfl rfl ?_
          refine g_iald (i := 2) rfl (ms.slot hP) (by omega) (by omega) ?_
          refine g_top (v2 := aI ((Pr : Int))) (congrArg aI (by exact s49.2.2.1)) ?_
          refine g_iload_n rfl rfl ?_
          refine g_callVI [aI ((Pr : Int)), aI ((p5 : Int))] [aI 2, aO (some aP)] rfl rfl rfl rfl (Nat.le_of_ble_eq_true rfl) ms.1 (r_div (by omega) ms V49 (by have := G_50.2.2.1; omega) (g49.rb (g47.rb (g45.rb (g43.rb (g41.rb (g39.rb (g5.rb (g3.rb (g1.rb xPr))))))))) (g49.rb (g47.rb (g45.rb (g43.rb (g41.rb (g39.rb xp5)))))) (by intro h0; have q4 := g4_0 h0; omega) (by omega) (by omega)) ?_
          rintro _ _ ⟨p51, rfl, V51, rfl, g51, xp51⟩
          have G_52 := G_50.trans (g51.gs _)
          refine g_iast (i := 2) rfl (ms.slot hP) (by omega) (by omega) ?_
          obtain ⟨V53, eV53⟩ : ∃ W, W = vset V51 aP 2 (p51 : Int) := ⟨_, rfl⟩
          refine g_hp (h2 := hw h V53) (by rw [eV53]; rfl) ?_
          have g53 : Gs V51 V53 o 0 (fun q => q = aP) := by rw [eV53]; exact Gs.cell hP
          have s53 : SA V53 aP p39 p45 p51 Ps := by rw [eV53]; exact SA.c2 (g51.sa hP s49) p51
          have G_54 := G_52.trans (g53.wide (fun q hq => by have hq : q = aP := hq; show q = aP; omega))
          refine g_aload_n rfl rfl ?_
          refine g_iload rfl rfl ?_
          refine g_iload rfl rfl ?_
          refine g_if_ge_t rfl (by omega) ?_
          refine g_aload_n rfl rfl ?_
          refine g_iload rfl rfl ?_
          refine g_iald (i := 2) rfl (ms.slot hP) (by omega) (by omega) ?_
          refine g_top (v2 := aI ((p51 : Int))) (congrArg aI (by exact s53.2.2.1)) ?_
          refine g_iast (i := 2) rfl (ms.slot hP) (by omega) (by omega) ?_
          obtain ⟨V55, eV55⟩ : ∃ W, W = vset V53 aP 2 (p51 : Int) := ⟨_, rfl⟩
          refine g_hp (h2 := hw h V55) (by rw [eV55]; rfl) ?_
          have g55 : Gs V53 V55 o 0 (fun q => q = aP) := by rw [eV55]; exact Gs.cell hP
          have s55 : SA V55 aP p39 p45 p51 Ps := by rw [eV55]; exact SA.c2 s53 p51
          have G_56 := G_54.trans (g55.wide (fun q hq => by have hq : q = aP := hq; show q = aP; omega))
          refine g_iinc (l1 := [(5, aI 3), (4, aI (lcmp P.2.2.1 0)), (3, aI ((p5 : Int))), (0, aO (some o)), (1, aO (some aP)), (2, aI 0)]) rfl rfl (by omega) (by omega) rfl ?_
          refine g_goto rfl ?_
          refine g_iload rfl rfl ?_
          refine g_iconst rfl ?_
          refine g_icmp_ge_f rfl (by omega) ?_
          refine g_aload_n rfl rfl ?_
          refine g_iload rfl rfl ?_
          refine g_aload_n rfl rfl ?_
          refine g_aload_n rfl rfl ?_
          refine g_iload rfl rfl ?_
          refine g_iald (i := 3) rfl (ms.slot hP) (by omega) (by omega) ?_
          refine g_top (v2 := aI ((Ps : Int))) (congrArg aI (by exact s55.2.2.2)) ?_
          refine g_iload_n rfl rfl ?_
          refine g_callVI [aI ((Ps : Int)), aI ((p5 : Int))] [aI 3, aO (some aP)] rfl rfl rfl rfl (Nat.le_of_ble_eq_true rfl) ms.1 (r_div (by omega) ms V55 (by have := G_56.2.2.1; omega) (g55.rb (g53.rb (g51.rb (g49.rb (g47.rb (g45.rb (g43.rb (g41.rb (g39.rb (g5.rb (g3.rb (g1.rb xPs)))))))))))) (g55.rb (g53.rb (g51.rb (g49.rb (g47.rb (g45.rb (g43.rb (g41.rb (g39.rb xp5))))))))) (by intro h0; have q4 := g4_0 h0; omega) (by omega) (by omega)) ?_
          rintro _ _ ⟨p57, rfl, V57, rfl, g57, xp57⟩
          have G_58 := G_56.trans (g57.gs _)
          refine g_iast (i := 3) rfl (ms.slot hP) (by omega) (by omega) ?_
          obtain ⟨V59, eV59⟩ : ∃ W, W = vset V57 aP 3 (p57 : Int) := ⟨_, rfl⟩
          refine g_hp (h2 := hw h V59) (by rw [eV59]; rfl) ?_
          have g59 : Gs V57 V59 o 0 (fun q => q = aP) := by rw [eV59]; exact Gs.cell hP
          have s59 : SA V59 aP p39 p45 p51 p57 := by rw [eV59]; exact SA.c3 (g57.sa hP s55) p57
          have G_60 := G_58.trans (g59.wide (fun q hq => by have hq : q = aP := hq; show q = aP; omega))
          refine g_aload_n rfl rfl ?_
          refine g_iload rfl rfl ?_
          refine g_iload rfl rfl ?_
          refine g_if_ge_t rfl (by omega) ?_
          refine g_aload_n rfl rfl ?_
          refine g_iload rfl rfl ?_
          refine g_iald (i := 3) rfl (ms.slot hP) (by omega) (by omega) ?_
          refine g_top (v2 := aI ((p57 : Int))) (congrArg aI (by exact s59.2.2.2)) ?_
          refine g_iast (i := 3) rfl (ms.slot hP) (by omega) (by omega) ?_
          obtain ⟨V61, eV61⟩ : ∃ W, W = vset V59 aP 3 (p57 : Int) := ⟨_, rfl⟩
          refine g_hp (h2 := hw h V61) (by rw [eV61]; rfl) ?_
          have g61 : Gs V59 V61 o 0 (fun q => q = aP) := by rw [eV61]; exact Gs.cell hP
          have s61 : SA V61 aP p39 p45 p51 p57 := by rw [eV61]; exact SA.c3 s59 p57
          have G_62 := G_60.trans (g61.wide (fun q hq => by have hq : q = aP := hq; show q = aP; omega))
          refine g_iinc (l1 := [(5, aI 4), (4, aI (lcmp P.2.2.1 0)), (3, aI ((p5 : Int))), (0, aO (some o)), (1, aO (some aP)), (2, aI 0)]) rfl rfl (by omega) (by omega) rfl ?_
          refine g_goto rfl ?_
          refine g_iload rfl rfl ?_
          refine g_iconst rfl ?_
          refine g_icmp_ge_t rfl (by omega) ?_
          refine g_vret rfl ?_
          refine ⟨V61, rfl, G_62.mono (by omega), ?_⟩
          have l0 := @lcmp_0 P.1 0
          have m0 := @lcmp_lt P.1 0
          have n0 := @lcmp_gt P.1 0
          have l1 := @lcmp_0 P.2.1 0
          have m1 := @lcmp_lt P.2.1 0
          have n1 := @lcmp_gt P.2.1 0
          have l2 := @lcmp_0 P.2.2.1 0
          have m2 := @lcmp_lt P.2.2.1 0
          have n2 := @lcmp_gt P.2.2.1 0
          unfold m_low
          first
            | (rw [if_pos (by omega)]; unfold set_up)
            | (rw [if_neg (by omega)]; unfold set_dn)
          exact ⟨_, _, _, _, s61, ((g61.rb (g59.rb (g57.rb (g55.rb (g53.rb (g51.rb (g49.rb (g47.rb (g45.rb (g43.rb (g41.rb xp39))))))))))).up (by omega)), ((g61.rb (g59.rb (g57.rb (g55.rb (g53.rb (g51.rb (g49.rb (g47.rb xp45)))))))).up (by omega)), ((g61.rb (g59.rb (g57.rb (g55.rb (g53.rb xp51))))).up (by omega)), ((g61.rb (g59.rb xp57)).up (by omega))⟩
        · skip
          refine g_aload_n rfl rfl ?_
          refine g_aload_n rfl rfl ?_
          refine g_iload rfl rfl ?_
          refine g_iald (i := 0) rfl (ms.slot hP) (by omega) (by omega) ?_
          refine g_top (v2 := aI ((p39 : Int))) (congrArg aI (by exact s41.1)) ?_
          refine g_callVI [aI ((p39 : Int))] [aI 0, aO (some aP)] rfl rfl rfl rfl (Nat.le_of_ble_eq_true rfl) ms.1 (r_neg (by omega) ms V41 (by have := G_42.2.2.1; omega) (g41.rb xp39) (by omega)) ?_
          rintro _ _ ⟨p63, rfl, V63, rfl, g63, xp63⟩
          have G_64 := G_42.trans (g63.gs _)
          refine g_goto rfl ?_
          refine g_iast (i := 0) rfl (ms.slot hP) (by omega) (by omega) ?_
          obtain ⟨V65, eV65⟩ : ∃ W, W = vset V63 aP 0 (p63 : Int) := ⟨_, rfl⟩
          refine g_hp (h2 := hw h V65) (by rw [eV65]; rfl) ?_
          have g65 : Gs V63 V65 o 0 (fun q => q = aP) := by rw [eV65]; exact Gs.cell hP
          have s65 : SA V65 aP p63 Pq Pr Ps := by rw [eV65]; exact SA.c0 (g63.sa hP s41) p63
          have G_66 := G_64.trans (g65.wide (fun q hq => by have hq : q = aP := hq; show q = aP; omega))
          refine g_iinc (l1 := [(5, aI 1), (4, aI (lcmp P.2.2.1 0)), (3, aI ((p5 : Int))), (0, aO (some o)), (1, aO (some aP)), (2, aI 0)]) rfl rfl (by omega) (by omega) rfl ?_
          refine g_goto rfl ?_
          refine g_iload rfl rfl ?_
          refine g_iconst rfl ?_
          refine g_icmp_ge_f rfl (by omega) ?_
          refine g_aload_n rfl rfl ?_
          refine g_iload rfl rfl ?_
          refine g_aload_n rfl rfl ?_
          refine g_aload_n rfl rfl ?_
          refine g_iload rfl rfl ?_
          refine g_iald (i := 1) rfl (ms.slot hP) (by omega) (by omega) ?_
          refine g_top (v2 := aI ((Pq : Int))) (congrArg aI (by exact s65.2.1)) ?_
          refine g_iload_n rfl rfl ?_
          refine g_callVI [aI ((Pq : Int)), aI ((p5 : Int))] [aI 1, aO (some aP)] rfl rfl rfl rfl (Nat.le_of_ble_eq_true rfl) ms.1 (r_div (by omega) ms V65 (by have := G_66.2.2.1; omega) (g65.rb (g63.rb (g41.rb (g39.rb (g5.rb (g3.rb (g1.rb xPq))))))) (g65.rb (g63.rb (g41.rb (g39.rb xp5)))) (by intro h0; have q4 := g4_0 h0; omega) (by omega) (by omega)) ?_
          rintro _ _ ⟨p67, rfl, V67, rfl, g67, xp67⟩
          have G_68 := G_66.trans (g67.gs _)
          refine g_iast (i := 1) rfl (ms.slot hP) (by omega) (by omega) ?_
          obtain ⟨V69, eV69⟩ : ∃ W, W = vset V67 aP 1 (p67 : Int) := ⟨_, rfl⟩
          refine g_hp (h2 := hw h V69) (by rw [eV69]; rfl) ?_
          have g69 : Gs V67 V69 o 0 (fun q => q = aP) := by rw [eV69]; exact Gs.cell hP
          have s69 : SA V69 aP p63 p67 Pr Ps := by rw [eV69]; exact SA.c1 (g67.sa hP s65) p67
          have G_70 := G_68.trans (g69.wide (fun q hq => by have hq : q = aP := hq; show q = aP; omega))
          refine g_aload_n rfl rfl ?_
          refine g_iload rfl rfl ?_
          refine g_iload rfl rfl ?_
          refine g_if_ge_f rfl (by omega) ?_
          refine g_aload_n rfl rfl ?_
          refine g_aload_n rfl rfl ?_
          refine g_iload rfl rfl ?_
          refine g_iald (i := 1) rfl (ms.slot hP) (by omega) (by omega) ?_
          refine g_top (v2 := aI ((p67 : Int))) (congrArg aI (by exact s69.2.1)) ?_
          refine g_callVI [aI ((p67 : Int))] [aI 1, aO (some aP)] rfl rfl rfl rfl (Nat.le_of_ble_eq_true rfl) ms.1 (r_neg (by omega) ms V69 (by have := G_70.2.2.1; omega) (g69.rb xp67) (by omega)) ?_
          rintro _ _ ⟨p71, rfl, V71, rfl, g71, xp71⟩
          have G_72 := G_70.trans (g71.gs _)
          refine g_goto rfl ?_
          refine g_iast (i := 1) rfl (ms.slot hP) (by omega) (by omega) ?_
          obtain ⟨V73, eV73⟩ : ∃ W, W = vset V71 aP 1 (p71 : Int) := ⟨_, rfl⟩
          refine g_hp (h2 := hw h V73) (by rw [eV73]; rfl) ?_
          have g73 : Gs V71 V73 o 0 (fun q => q = aP) := by rw [eV73]; exact Gs.cell hP
          have s73 : SA V73 aP p63 p71 Pr Ps := by rw [eV73]; exact SA.c1 (g71.sa hP s69) p71
          have G_74 := G_72.trans (g73.wide (fun q hq => by have hq : q = aP := hq; show q = aP; omega))
          refine g_iinc (l1 := [(5, aI 2), (4, aI (lcmp P.2.2.1 0)), (3, aI ((p5 : Int))), (0, aO (some o)), (1, aO (some aP)), (2, aI 0)]) rfl rfl (by omega) (by omega) rfl ?_
          refine g_goto rfl ?_
          refine g_iload rfl rfl ?_
          refine g_iconst rfl ?_
          refine g_icmp_ge_f rfl (by omega) ?_
          refine g_aload_n rfl rfl ?_
          refine g_iload rfl rfl ?_
          refine g_aload_n rfl rfl ?_
          refine g_aload_n rfl rfl ?_
          refine g_iload rfl rfl ?_
          refine g_iald (i := 2) rfl (ms.slot hP) (by omega) (by omega) ?_
          refine g_top (v2 := aI ((Pr : Int))) (congrArg aI (by exact s73.2.2.1)) ?_
          refine g_iload_n rfl rfl ?_
          refine g_callVI [aI ((Pr : Int)), aI ((p5 : Int))] [aI 2, aO (some aP)] rfl rfl rfl rfl (Nat.le_of_ble_eq_true rfl) ms.1 (r_div (by omega) ms V73 (by have := G_74.2.2.1; omega) (g73.rb (g71.rb (g69.rb (g67.rb (g65.rb (g63.rb (g41.rb (g39.rb (g5.rb (g3.rb (g1.rb xPr))))))))))) (g73.rb (g71.rb (g69.rb (g67.rb (g65.rb (g63.rb (g41.rb (g39.rb xp5)))))))) (by intro h0; have q4 := g4_0 h0; omega) (by omega) (by omega)) ?_
          rintro _ _ ⟨p75, rfl, V75, rfl, g75, xp75⟩
          have G_76 := G_74.trans (g75.gs _)
          refine g_iast (i := 2) rfl (ms.slot hP) (by omega) (by omega) ?_
          obtain ⟨V77, eV77⟩ : ∃ W, W = vset V75 aP 2 (p75 : Int) := ⟨_, rfl⟩
          refine g_hp (h2 := hw h V77) (by rw [eV77]; rfl) ?_
          have g77 : Gs V75 V77 o 0 (fun q => q = aP) := by rw [eV77]; exact Gs.cell hP
          have s77 : SA V77 aP p63 p71 p75 Ps := by rw [eV77]; exact SA.c2 (g75.sa hP s73) p75
          have G_78 := G_76.trans (g77.wide (fun q hq => by have hq : q = aP := hq; show q = aP; omega))
          refine g_aload_n rfl rfl ?_
          refine g_iload rfl rfl ?_
          refine g_iload rfl rfl ?_
          refine g_if_ge_f rfl (by omega) ?_
          refine g_aload_n rfl rfl ?_
          refine g_aload_n rfl rfl ?_
          refine g_iload rfl rfl ?_
          refine g_iald (i := 2) rfl (ms.slot hP) (by omega) (by omega) ?_
          refine g_top (v2 := aI ((p75 : Int))) (congrArg aI (by exact s77.2.2.1)) ?_
          refine g_callVI [aI ((p75 : Int))] [aI 2, aO (some aP)] rfl rfl rfl rfl (Nat.le_of_ble_eq_true rfl) ms.1 (r_neg (by omega) ms V77 (by have := G_78.2.2.1; omega) (g77.rb xp75) (by omega)) ?_
          rintro _ _ ⟨p79, rfl, V79, rfl, g79, xp79⟩
          have G_80 := G_78.trans (g79.gs _)
          refine g_goto rfl ?_
          refine g_iast (i := 2) rfl (ms.slot hP) (by omega) (by omega) ?_
          obtain ⟨V81, eV81⟩ : ∃ W, W = vset V79 aP 2 (p79 : Int) := ⟨_, rfl⟩
          refine g_hp (h2 := hw h V81) (by rw [eV81]; rfl) ?_
          have g81 : Gs V79 V81 o 0 (fun q => q = aP) := by rw [eV81]; exact Gs.cell hP
          have s81 : SA V81 aP p63 p71 p79 Ps := by rw [eV81]; exact SA.c2 (g79.sa hP s77) p79
          have G_82 := G_80.trans (g81.wide (fun q hq => by have hq : q = aP := hq; show q = aP; omega))
          refine g_iinc (l1 := [(5, aI 3), (4, aI (lcmp P.2.2.1 0)), (3, aI ((p5 : Int))), (0, aO (some o)), (1, aO (some aP)), (2, aI 0)]) rfl rfl (by omega) (by omega) rfl ?_
          refine g_goto rfl ?_
          refine g_iload rfl rfl ?_
          refine g_iconst rfl ?_
          refine g_icmp_ge_f rfl (by omega) ?_
          refine g_aload_n rfl rfl ?_
          refine g_iload rfl rfl ?_
          refine g_aload_n rfl rfl ?_
          refine g_aload_n rfl rfl ?_
          refine g_iload rfl rfl ?_
          refine g_iald (i := 3) rfl (ms.slot hP) (by omega) (by omega) ?_
          refine g_top (v2 := aI ((Ps : Int))) (congrArg aI (by exact s81.2.2.2)) ?_
          refine g_iload_n rfl rfl ?_
          refine g_callVI [aI ((Ps : Int)), aI ((p5 : Int))] [aI 3, aO (some aP)] rfl rfl rfl rfl (Nat.le_of_ble_eq_true rfl) ms.1 (r_div (by omega) ms V81 (by have := G_82.2.2.1; omega) (g81.rb (g79.rb (g77.rb (g75.rb (g73.rb (g71.rb (g69.rb (g67.rb (g65.rb (g63.rb (g41.rb (g39.rb (g5.rb (g3.rb (g1.rb xPs))))))))))))))) (g81.rb (g79.rb (g77.rb (g75.rb (g73.rb (g71.rb (g69.rb (g67.rb (g65.rb (g63.rb (g41.rb (g39.rb xp5)))))))))))) (by intro h0; have q4 := g4_0 h0; omega) (by omega) (by omega)) ?_
          rintro _ _ ⟨p83, rfl, V83, rfl, g83, xp83⟩
          have G_84 := G_82.trans (g83.gs _)
          refine g_iast (i := 3) rfl (ms.slot hP) (by omega) (by omega) ?_
          obtain ⟨V85, eV85⟩ : ∃ W, W = vset V83 aP 3 (p83 : Int) := ⟨_, rfl⟩
          refine g_hp (h2 := hw h V85) (by rw [eV85]; rfl) ?_
          have g85 : Gs V83 V85 o 0 (fun q => q = aP) := by rw [eV85]; exact Gs.cell hP
          have s85 : SA V85 aP p63 p71 p79 p83 := by rw [eV85]; exact SA.c3 (g83.sa hP s81) p83
          have G_86 := G_84.trans (g85.wide (fun q hq => by have hq : q = aP := hq; show q = aP; omega))
          refine g_aload_n rfl rfl ?_
          refine g_iload rfl rfl ?_
          refine g_iload rfl rfl ?_
          refine g_if_ge_f rfl (by omega) ?_
          refine g_aload_n rfl rfl ?_
          refine g_aload_n rfl rfl ?_
          refine g_iload rfl rfl ?_
          refine g_iald (i := 3) rfl (ms.slot hP) (by omega) (by omega) ?_
          refine g_top (v2 := aI ((p83 : Int))) (congrArg aI (by exact s85.2.2.2)) ?_
          refine g_callVI [aI ((p83 : Int))] [aI 3, aO (some aP)] rfl rfl rfl rfl (Nat.le_of_ble_eq_true rfl) ms.1 (r_neg (by omega) ms V85 (by have := G_86.2.2.1; omega) (g85.rb xp83) (by omega)) ?_
          rintro _ _ ⟨p87, rfl, V87, rfl, g87, xp87⟩
          have G_88 := G_86.trans (g87.gs _)
          refine g_goto rfl ?_
          refine g_iast (i := 3) rfl (ms.slot hP) (by omega) (by omega) ?_
          obtain ⟨V89, eV89⟩ : ∃ W, W = vset V87 aP 3 (p87 : Int) := ⟨_, rfl⟩
          refine g_hp (h2 := hw h V89) (by rw [eV89]; rfl) ?_
          have g89 : Gs V87 V89 o 0 (fun q => q = aP) := by rw [eV89]; exact Gs.cell hP
          have s89 : SA V89 aP p63 p71 p79 p87 := by rw [eV89]; exact SA.c3 (g87.sa hP s85) p87
          have G_90 := G_88.trans (g89.wide (fun q hq => by have hq : q = aP := hq; show q = aP; omega))
          refine g_iinc (l1 := [(5, aI 4), (4, aI (lcmp P.2.2.1 0)), (3, aI ((p5 : Int))), (0, aO (some o)), (1, aO (some aP)), (2, aI 0)]) rfl rfl (by omega) (by omega) rfl ?_
          refine g_goto rfl ?_
          refine g_iload rfl rfl ?_
          refine g_iconst rfl ?_
          refine g_icmp_ge_t rfl (by omega) ?_
          refine g_vret rfl ?_
          refine ⟨V89, rfl, G_90.mono (by omega), ?_⟩
          have l0 := @lcmp_0 P.1 0
          have m0 := @lcmp_lt P.1 0
          have n0 := @lcmp_gt P.1 0
          have l1 := @lcmp_0 P.2.1 0
          have m1 := @lcmp_lt P.2.1 0
          have n1 := @lcmp_gt P.2.1 0
          have l2 := @lcmp_0 P.2.2.1 0
          have m2 := @lcmp_lt P.2.2.1 0
          have n2 := @lcmp_gt P.2.2.1 0
          unfold m_low
          first
            | (rw [if_pos (by omega)]; unfold set_up)
            | (rw [if_neg (by omega)]; unfold set_dn)
          exact ⟨_, _, _, _, s89, ((g89.rb (g87.rb (g85.rb (g83.rb (g81.rb (g79.rb (g77.rb (g75.rb (g73.rb (g71.rb (g69.rb (g67.rb (g65.rb xp63))))))))))))).up (by omega)), ((g89.rb (g87.rb (g85.rb (g83.rb (g81.rb (g79.rb (g77.rb (g75.rb (g73.rb xp71))))))))).up (by omega)), ((g89.rb (g87.rb (g85.rb (g83.rb (g81.rb xp79))))).up (by omega)), ((g89.rb xp87).up (by omega))⟩
    · skip
      refine g_aload_n rfl rfl ?_
      refine g_aload_n rfl rfl ?_
      refine g_iload rfl rfl ?_
      refine g_iald (i := 1) rfl (ms.slot hP) (by omega) (by omega) ?_
      refine g_top (v2 := aI ((Pq : Int))) (congrArg aI (by exact (g5.sa hP (g3.sa hP (g1.sa hP sP))).2.1)) ?_
      refine g_callVI [aI ((Pq : Int))] [] rfl rfl rfl rfl (Nat.le_of_ble_eq_true rfl) ms.1 (r_sign (by omega) ms V5 (g5.rb (g3.rb (g1.rb xPq)))) ?_
      rintro r91 _ ⟨rfl, e92⟩
      rw [e92]
      clear e92 r91
      refine g_goto rfl ?_
      refine g_istore (l1 := [(4, aI (lcmp P.2.1 0)), (5, aI 1), (3, aI ((p5 : Int))), (0, aO (some o)), (1, aO (some aP)), (2, aI 0)]) rfl rfl ?_
      refine g_iinc (l1 := [(5, aI 2), (4, aI (lcmp P.2.1 0)), (3, aI ((p5 : Int))), (0, aO (some o)), (1, aO (some aP)), (2, aI 0)]) rfl rfl (by omega) (by omega) rfl ?_
      refine g_goto rfl ?_
      refine g_iload rfl rfl ?_
      refine g_iconst rfl ?_
      refine g_icmp_ge_f rfl (by omega) ?_
      refine g_aload_n rfl rfl ?_
      refine g_aload_n rfl rfl ?_
      refine g_iload rfl rfl ?_
      refine g_iald (i := 2) rfl (ms.slot hP) (by omega) (by omega) ?_
      refine g_top (v2 := aI ((Pr : Int))) (congrArg aI (by exact (g5.sa hP (g3.sa hP (g1.sa hP sP))).2.2.1)) ?_
      refine g_callVI [aI ((Pr : Int))] [] rfl rfl rfl rfl (Nat.le_of_ble_eq_true rfl) ms.1 (r_sign (by omega) ms V5 (g5.rb (g3.rb (g1.rb xPr)))) ?_
      rintro r93 _ ⟨rfl, e94⟩
      rw [e94]
      clear e94 r93
      refine g_if_eq rfl (fun c62 => ?_) (fun c62 => ?_)
      · skip
        refine g_iload rfl rfl ?_
        refine g_istore (l1 := [(4, aI (lcmp P.2.1 0)), (5, aI 2), (3, aI ((p5 : Int))), (0, aO (some o)), (1, aO (some aP)), (2, aI 0)]) rfl rfl ?_
        refine g_iinc (l1 := [(5, aI 3), (4, aI (lcmp P.2.1 0)), (3, aI ((p5 : Int))), (0, aO (some o)), (1, aO (some aP)), (2, aI 0)]) rfl rfl (by omega) (by omega) rfl ?_
        refine g_goto rfl ?_
        refine g_iload rfl rfl ?_
        refine g_iconst rfl ?_
        refine g_icmp_ge_t rfl (by omega) ?_
        refine g_iconst rfl ?_
        refine g_istore (l1 := [(5, aI 0), (4, aI (lcmp P.2.1 0)), (3, aI ((p5 : Int))), (0, aO (some o)), (1, aO (some aP)), (2, aI 0)]) rfl rfl ?_
        refine g_iload rfl rfl ?_
        refine g_iconst rfl ?_
        refine g_icmp_ge_f rfl (by omega) ?_
        refine g_aload_n rfl rfl ?_
        refine g_iload rfl rfl ?_
        refine g_aload_n rfl rfl ?_
        refine g_aload_n rfl rfl ?_
        refine g_iload rfl rfl ?_
        refine g_iald (i := 0) rfl (ms.slot hP) (by omega) (by omega) ?_
        refine g_top (v2 := aI ((Pp : Int))) (congrArg aI (by exact (g5.sa hP (g3.sa hP (g1.sa hP sP))).1)) ?_
        refine g_iload_n rfl rfl ?_
        refine g_callVI [aI ((Pp : Int)), aI ((p5 : Int))] [aI 0, aO (some aP)] rfl rfl rfl rfl (Nat.le_of_ble_eq_true rfl) ms.1 (r_div (by omega) ms V5 (by have := G_6.2.2.1; omega) (g5.rb (g3.rb (g1.rb xPp))) xp5 (by intro h0; have q4 := g4_0 h0; omega) (by omega) (by omega)) ?_
        rintro _ _ ⟨p95, rfl, V95, rfl, g95, xp95⟩
        have G_96 := G_6.trans (g95.gs _)
        refine g_iast (i := 0) rfl (ms.slot hP) (by omega) (by omega) ?_
        obtain ⟨V97, eV97⟩ : ∃ W, W = vset V95 aP 0 (p95 : Int) := ⟨_, rfl⟩
        refine g_hp (h2 := hw h V97) (by rw [eV97]; rfl) ?_
        have g97 : Gs V95 V97 o 0 (fun q => q = aP) := by rw [eV97]; exact Gs.cell hP
        have s97 : SA V97 aP p95 Pq Pr Ps := by rw [eV97]; exact SA.c0 (g95.sa hP (g5.sa hP (g3.sa hP (g1.sa hP sP)))) p95
        have G_98 := G_96.trans (g97.wide (fun q hq => by have hq : q = aP := hq; show q = aP; omega))
        refine g_aload_n rfl rfl ?_
        refine g_iload rfl rfl ?_
        refine g_iload rfl rfl ?_
        refine g_if_ge rfl (fun c113 => ?_) (fun c113 => ?_)
        · skip
          refine g_aload_n rfl rfl ?_
          refine g_iload rfl rfl ?_
          refine g_iald (i := 0) rfl (ms.slot hP) (by omega) (by omega) ?_
          refine g_top (v2 := aI ((p95 : Int))) (congrArg aI (by exact s97.1)) ?_
          refine g_iast (i := 0) rfl (ms.slot hP) (by omega) (by omega) ?_
          obtain ⟨V99, eV99⟩ : ∃ W, W = vset V97 aP 0 (p95 : Int) := ⟨_, rfl⟩
          refine g_hp (h2 := hw h V99) (by rw [eV99]; rfl) ?_
          have g99 : Gs V97 V99 o 0 (fun q => q = aP) := by rw [eV99]; exact Gs.cell hP
          have s99 : SA V99 aP p95 Pq Pr Ps := by rw [eV99]; exact SA.c0 s97 p95
          have G_100 := G_98.trans (g99.wide (fun q hq => by have hq : q = aP := hq; show q = aP; omega))
          refine g_iinc (l1 := [(5, aI 1), (4, aI (lcmp P.2.1 0)), (3, aI ((p5 : Int))), (0, aO (some o)), (1, aO (some aP)), (2, aI 0)]) rfl rfl (by omega) (by omega) rfl ?_
          refine g_goto rfl ?_
          refine g_iload rfl rfl ?_
          refine g_iconst rfl ?_
          refine g_icmp_ge_f rfl (by omega) ?_
          refine g_aload_n rfl rfl ?_
          refine g_iload rfl rfl ?_
          refine g_aload_n rfl rfl ?_
          refine g_aload_n rfl rfl ?_
          refine g_iload rfl rfl ?_
          refine g_iald (i := 1) rfl (ms.slot hP) (by omega) (by omega) ?_
          refine g_top (v2 := aI ((Pq : Int))) (congrArg aI (by exact s99.2.1)) ?_
          refine g_iload_n rfl rfl ?_
          refine g_callVI [aI ((Pq : Int)), aI ((p5 : Int))] [aI 1, aO (some aP)] rfl rfl rfl rfl (Nat.le_of_ble_eq_true rfl) ms.1 (r_div (by omega) ms V99 (by have := G_100.2.2.1; omega) (g99.rb (g97.rb (g95.rb (g5.rb (g3.rb (g1.rb xPq)))))) (g99.rb (g97.rb (g95.rb xp5))) (by intro h0; have q4 := g4_0 h0; omega) (by omega) (by omega)) ?_
          rintro _ _ ⟨p101, rfl, V101, rfl, g101, xp101⟩
          have G_102 := G_100.trans (g101.gs _)
          refine g_iast (i := 1) rfl (ms.slot hP) (by omega) (by omega) ?_
          obtain ⟨V103, eV103⟩ : ∃ W, W = vset V101 aP 1 (p101 : Int) := ⟨_, rfl⟩
          refine g_hp (h2 := hw h V103) (by rw [eV103]; rfl) ?_
          have g103 : Gs V101 V103 o 0 (fun q => q = aP) := by rw [eV103]; exact Gs.cell hP
          have s103 : SA V103 aP p95 p101 Pr Ps := by rw [eV103]; exact SA.c1 (g101.sa hP s99) p101
          have G_104 := G_102.trans (g103.wide (fun q hq => by have hq : q = aP := hq; show q = aP; omega))
          refine g_aload_n rfl rfl ?_
          refine g_iload rfl rfl ?_
          refine g_iload rfl rfl ?_
          refine g_if_ge_t rfl (by omega) ?_
          refine g_aload_n rfl rfl ?_
          refine g_iload rfl rfl ?_
          refine g_iald (i := 1) rfl (ms.slot hP) (by omega) (by omega) ?_
          refine g_top (v2 := aI ((p101 : Int))) (congrArg aI (by exact s103.2.1)) ?_
          refine g_iast (i := 1) rfl (ms.slot hP) (by omega) (by omega) ?_
          obtain ⟨V105, eV105⟩ : ∃ W, W = vset V103 aP 1 (p101 : Int) := ⟨_, rfl⟩
          refine g_hp (h2 := hw h V105) (by rw [eV105]; rfl) ?_
          have g105 : Gs V103 V105 o 0 (fun q => q = aP) := by rw [eV105]; exact Gs.cell hP
          have s105 : SA V105 aP p95 p101 Pr Ps := by rw [eV105]; exact SA.c1 s103 p101
          have G_106 := G_104.trans (g105.wide (fun q hq => by have hq : q = aP := hq; show q = aP; omega))
          refine g_iinc (l1 := [(5, aI 2), (4, aI (lcmp P.2.1 0)), (3, aI ((p5 : Int))), (0, aO (some o)), (1, aO (some aP)), (2, aI 0)]) rfl rfl (by omega) (by omega) rfl ?_
          refine g_goto rfl ?_
          refine g_iload rfl rfl ?_
          refine g_iconst rfl ?_
          refine g_icmp_ge_f rfl (by omega) ?_
          refine g_aload_n rfl rfl ?_
          refine g_iload rfl rfl ?_
          refine g_aload_n rfl rfl ?_
          refine g_aload_n rfl rfl ?_
          refine g_iload rfl rfl ?_
          refine g_iald (i := 2) rfl (ms.slot hP) (by omega) (by omega) ?_
          refine g_top (v2 := aI ((Pr : Int))) (congrArg aI (by exact s105.2.2.1)) ?_
          refine g_iload_n rfl rfl ?_
          refine g_callVI [aI ((Pr : Int)), aI ((p5 : Int))] [aI 2, aO (some aP)] rfl rfl rfl rfl (Nat.le_of_ble_eq_true rfl) ms.1 (r_div (by omega) ms V105 (by have := G_106.2.2.1; omega) (g105.rb (g103.rb (g101.rb (g99.rb (g97.rb (g95.rb (g5.rb (g3.rb (g1.rb xPr))))))))) (g105.rb (g103.rb (g101.rb (g99.rb (g97.rb (g95.rb xp5)))))) (by intro h0; have q4 := g4_0 h0; omega) (by omega) (by omega)) ?_
          rintro _ _ ⟨p107, rfl, V107, rfl, g107, xp107⟩
          have G_108 := G_106.trans (g107.gs _)
          refine g_iast (i := 2) rfl (ms.slot hP) (by omega) (by omega) ?_
          obtain ⟨V109, eV109⟩ : ∃ W, W = vset V107 aP 2 (p107 : Int) := ⟨_, rfl⟩
          refine g_hp (h2 := hw h V109) (by rw [eV109]; rfl) ?_
          have g109 : Gs V107 V109 o 0 (fun q => q = aP) := by rw [eV109]; exact Gs.cell hP
          have s109 : SA V109 aP p95 p101 p107 Ps := by rw [eV109]; exact SA.c2 (g107.sa hP s105) p107
          have G_110 := G_108.trans (g109.wide (fun q hq => by have hq : q = aP := hq; show q = aP; omega))
          refine g_aload_n rfl rfl ?_
          refine g_iload rfl rfl ?_
          refine g_iload rfl rfl ?_
          refine g_if_ge_t rfl (by omega) ?_
          refine g_aload_n rfl rfl ?_
          refine g_iload rfl rfl ?_
          refine g_iald (i := 2) rfl (ms.slot hP) (by omega) (by omega) ?_
          refine g_top (v2 := aI ((p107 : Int))) (congrArg aI (by exact s109.2.2.1)) ?_
          refine g_iast (i := 2) rfl (ms.slot hP) (by omega) (by omega) ?_
          obtain ⟨V111, eV111⟩ : ∃ W, W = vset V109 aP 2 (p107 : Int) := ⟨_, rfl⟩
          refine g_hp (h2 := hw h V111) (by rw [eV111]; rfl) ?_
          have g111 : Gs V109 V111 o 0 (fun q => q = aP) := by rw [eV111]; exact Gs.cell hP
          have s111 : SA V111 aP p95 p101 p107 Ps := by rw [eV111]; exact SA.c2 s109 p107
          have G_112 := G_110.trans (g111.wide (fun q hq => by have hq : q = aP := hq; show q = aP; omega))
          refine g_iinc (l1 := [(5, aI 3), (4, aI (lcmp P.2.1 0)), (3, aI ((p5 : Int))), (0, aO (some o)), (1, aO (some aP)), (2, aI 0)]) rfl rfl (by omega) (by omega) rfl ?_
          refine g_goto rfl ?_
          refine g_iload rfl rfl ?_
          refine g_iconst rfl ?_
          refine g_icmp_ge_f rfl (by omega) ?_
          refine g_aload_n rfl rfl ?_
          refine g_iload rfl rfl ?_
          refine g_aload_n rfl rfl ?_
          refine g_aload_n rfl rfl ?_
          refine g_iload rfl rfl ?_
          refine g_iald (i := 3) rfl (ms.slot hP) (by omega) (by omega) ?_
          refine g_top (v2 := aI ((Ps : Int))) (congrArg aI (by exact s111.2.2.2)) ?_
          refine g_iload_n rfl rfl ?_
          refine g_callVI [aI ((Ps : Int)), aI ((p5 : Int))] [aI 3, aO (some aP)] rfl rfl rfl rfl (Nat.le_of_ble_eq_true rfl) ms.1 (r_div (by omega) ms V111 (by have := G_112.2.2.1; omega) (g111.rb (g109.rb (g107.rb (g105.rb (g103.rb (g101.rb (g99.rb (g97.rb (g95.rb (g5.rb (g3.rb (g1.rb xPs)))))))))))) (g111.rb (g109.rb (g107.rb (g105.rb (g103.rb (g101.rb (g99.rb (g97.rb (g95.rb xp5))))))))) (by intro h0; have q4 := g4_0 h0; omega) (by omega) (by omega)) ?_
          rintro _ _ ⟨p113, rfl, V113, rfl, g113, xp113⟩
          have G_114 := G_112.trans (g113.gs _)
          refine g_iast (i := 3) rfl (ms.slot hP) (by omega) (by omega) ?_
          obtain ⟨V115, eV115⟩ : ∃ W, W = vset V113 aP 3 (p113 : Int) := ⟨_, rfl⟩
          refine g_hp (h2 := hw h V115) (by rw [eV115]; rfl) ?_
          have g115 : Gs V113 V115 o 0 (fun q => q = aP) := by rw [eV115]; exact Gs.cell hP
          have s115 : SA V115 aP p95 p101 p107 p113 := by rw [eV115]; exact SA.c3 (g113.sa hP s111) p113
          have G_116 := G_114.trans (g115.wide (fun q hq => by have hq : q = aP := hq; show q = aP; omega))
          refine g_aload_n rfl rfl ?_
          refine g_iload rfl rfl ?_
          refine g_iload rfl rfl ?_
          refine g_if_ge_t rfl (by omega) ?_
          refine g_aload_n rfl rfl ?_
          refine g_iload rfl rfl ?_
          refine g_iald (i := 3) rfl (ms.slot hP) (by omega) (by omega) ?_
          refine g_top (v2 := aI ((p113 : Int))) (congrArg aI (by exact s115.2.2.2)) ?_
          refine g_iast (i := 3) rfl (ms.slot hP) (by omega) (by omega) ?_
          obtain ⟨V117, eV117⟩ : ∃ W, W = vset V115 aP 3 (p113 : Int) := ⟨_, rfl⟩
          refine g_hp (h2 := hw h V117) (by rw [eV117]; rfl) ?_
          have g117 : Gs V115 V117 o 0 (fun q => q = aP) := by rw [eV117]; exact Gs.cell hP
          have s117 : SA V117 aP p95 p101 p107 p113 := by rw [eV117]; exact SA.c3 s115 p113
          have G_118 := G_116.trans (g117.wide (fun q hq => by have hq : q = aP := hq; show q = aP; omega))
          refine g_iinc (l1 := [(5, aI 4), (4, aI (lcmp P.2.1 0)), (3, aI ((p5 : Int))), (0, aO (some o)), (1, aO (some aP)), (2, aI 0)]) rfl rfl (by omega) (by omega) rfl ?_
          refine g_goto rfl ?_
          refine g_iload rfl rfl ?_
          refine g_iconst rfl ?_
          refine g_icmp_ge_t rfl (by omega) ?_
          refine g_vret rfl ?_
          refine ⟨V117, rfl, G_118.mono (by omega), ?_⟩
          have l0 := @lcmp_0 P.1 0
          have m0 := @lcmp_lt P.1 0
          have n0 := @lcmp_gt P.1 0
          have l1 := @lcmp_0 P.2.1 0
          have m1 := @lcmp_lt P.2.1 0
          have n1 := @lcmp_gt P.2.1 0
          have l2 := @lcmp_0 P.2.2.1 0
          have m2 := @lcmp_lt P.2.2.1 0
          have n2 := @lcmp_gt P.2.2.1 0
          unfold m_low
          first
            | (rw [if_pos (by omega)]; unfold set_up)
            | (rw [if_neg (by omega)]; unfold set_dn)
          exact ⟨_, _, _, _, s117, ((g117.rb (g115.rb (g113.rb (g111.rb (g109.rb (g107.rb (g105.rb (g103.rb (g101.rb (g99.rb (g97.rb xp95))))))))))).up (by omega)), ((g117.rb (g115.rb (g113.rb (g111.rb (g109.rb (g107.rb (g105.rb (g103.rb xp101)))))))).up (by omega)), ((g117.rb (g115.rb (g113.rb (g111.rb (g109.rb xp107))))).up (by omega)), ((g117.rb (g115.rb xp113)).up (by omega))⟩
        · skip
          refine g_aload_n rfl rfl ?_
          refine g_aload_n rfl rfl ?_
          refine g_iload rfl rfl ?_
          refine g_iald (i := 0) rfl (ms.slot hP) (by omega) (by omega) ?_
          refine g_top (v2 := aI ((p95 : Int))) (congrArg aI (by exact s97.1)) ?_
          refine g_callVI [aI ((p95 : Int))] [aI 0, aO (some aP)] rfl rfl rfl rfl (Nat.le_of_ble_eq_true rfl) ms.1 (r_neg (by omega) ms V97 (by have := G_98.2.2.1; omega) (g97.rb xp95) (by omega)) ?_
          rintro _ _ ⟨p119, rfl, V119, rfl, g119, xp119⟩
          have G_120 := G_98.trans (g119.gs _)
          refine g_goto rfl ?_
          refine g_iast (i := 0) rfl (ms.slot hP) (by omega) (by omega) ?_
          obtain ⟨V121, eV121⟩ : ∃ W, W = vset V119 aP 0 (p119 : Int) := ⟨_, rfl⟩
          refine g_hp (h2 := hw h V121) (by rw [eV121]; rfl) ?_
          have g121 : Gs V119 V121 o 0 (fun q => q = aP) := by rw [eV121]; exact Gs.cell hP
          have s121 : SA V121 aP p119 Pq Pr Ps := by rw [eV121]; exact SA.c0 (g119.sa hP s97) p119
          have G_122 := G_120.trans (g121.wide (fun q hq => by have hq : q = aP := hq; show q = aP; omega))
          refine g_iinc (l1 := [(5, aI 1), (4, aI (lcmp P.2.1 0)), (3, aI ((p5 : Int))), (0, aO (some o)), (1, aO (some aP)), (2, aI 0)]) rfl rfl (by omega) (by omega) rfl ?_
          refine g_goto rfl ?_
          refine g_iload rfl rfl ?_
          refine g_iconst rfl ?_
          refine g_icmp_ge_f rfl (by omega) ?_
          refine g_aload_n rfl rfl ?_
          refine g_iload rfl rfl ?_
          refine g_aload_n rfl rfl ?_
          refine g_aload_n rfl rfl ?_
          refine g_iload rfl rfl ?_
          refine g_iald (i := 1) rfl (ms.slot hP) (by omega) (by omega) ?_
          refine g_top (v2 := aI ((Pq : Int))) (congrArg aI (by exact s121.2.1)) ?_
          refine g_iload_n rfl rfl ?_
          refine g_callVI [aI ((Pq : Int)), aI ((p5 : Int))] [aI 1, aO (some aP)] rfl rfl rfl rfl (Nat.le_of_ble_eq_true rfl) ms.1 (r_div (by omega) ms V121 (by have := G_122.2.2.1; omega) (g121.rb (g119.rb (g97.rb (g95.rb (g5.rb (g3.rb (g1.rb xPq))))))) (g121.rb (g119.rb (g97.rb (g95.rb xp5)))) (by intro h0; have q4 := g4_0 h0; omega) (by omega) (by omega)) ?_
          rintro _ _ ⟨p123, rfl, V123, rfl, g123, xp123⟩
          have G_124 := G_122.trans (g123.gs _)
          refine g_iast (i := 1) rfl (ms.slot hP) (by omega) (by omega) ?_
          obtain ⟨V125, eV125⟩ : ∃ W, W = vset V123 aP 1 (p123 : Int) := ⟨_, rfl⟩
          refine g_hp (h2 := hw h V125) (by rw [eV125]; rfl) ?_
          have g125 : Gs V123 V125 o 0 (fun q => q = aP) := by rw [eV125]; exact Gs.cell hP
          have s125 : SA V125 aP p119 p123 Pr Ps := by rw [eV125]; exact SA.c1 (g123.sa hP s121) p123
          have G_126 := G_124.trans (g125.wide (fun q hq => by have hq : q = aP := hq; show q = aP; omega))
          refine g_aload_n rfl rfl ?_
          refine g_iload rfl rfl ?_
          refine g_iload rfl rfl ?_
          refine g_if_ge_f rfl (by omega) ?_
          refine g_aload_n rfl rfl ?_
          refine g_aload_n rfl rfl ?_
          refine g_iload rfl rfl ?_
          refine g_iald (i := 1) rfl (ms.slot hP) (by omega) (by omega) ?_
          refine g_top (v2 := aI ((p123 : Int))) (congrArg aI (by exact s125.2.1)) ?_
          refine g_callVI [aI ((p123 : Int))] [aI 1, aO (some aP)] rfl rfl rfl rfl (Nat.le_of_ble_eq_true rfl) ms.1 (r_neg (by omega) ms V125 (by have := G_126.2.2.1; omega) (g125.rb xp123) (by omega)) ?_
          rintro _ _ ⟨p127, rfl, V127, rfl, g127, xp127⟩
          have G_128 := G_126.trans (g127.gs _)
          refine g_goto rfl ?_
          refine g_iast (i := 1) rfl (ms.slot hP) (by omega) (by omega) ?_
          obtain ⟨V129, eV129⟩ : ∃ W, W = vset V127 aP 1 (p127 : Int) := ⟨_, rfl⟩
          refine g_hp (h2 := hw h V129) (by rw [eV129]; rfl) ?_
          have g129 : Gs V127 V129 o 0 (fun q => q = aP) := by rw [eV129]; exact Gs.cell hP
          have s129 : SA V129 aP p119 p127 Pr Ps := by rw [eV129]; exact SA.c1 (g127.sa hP s125) p127
          have G_130 := G_128.trans (g129.wide (fun q hq => by have hq : q = aP := hq; show q = aP; omega))
          refine g_iinc (l1 := [(5, aI 2), (4, aI (lcmp P.2.1 0)), (3, aI ((p5 : Int))), (0, aO (some o)), (1, aO (some aP)), (2, aI 0)]) rfl rfl (by omega) (by omega) rfl ?_
          refine g_goto rfl ?_
          refine g_iload rfl rfl ?_
          refine g_iconst rfl ?_
          refine g_icmp_ge_f rfl (by omega) ?_
          refine g_aload_n rfl rfl ?_
          refine g_iload rfl rfl ?_
          refine g_aload_n rfl rfl ?_
          refine g_aload_n rfl rfl ?_
          refine g_iload rfl rfl ?_
          refine g_iald (i := 2) rfl (ms.slot hP) (by omega) (by omega) ?_
          refine g_top (v2 := aI ((Pr : Int))) (congrArg aI (by exact s129.2.2.1)) ?_
          refine g_iload_n rfl rfl ?_
          refine g_callVI [aI ((Pr : Int)), aI ((p5 : Int))] [aI 2, aO (some aP)] rfl rfl rfl rfl (Nat.le_of_ble_eq_true rfl) ms.1 (r_div (by omega) ms V129 (by have := G_130.2.2.1; omega) (g129.rb (g127.rb (g125.rb (g123.rb (g121.rb (g119.rb (g97.rb (g95.rb (g5.rb (g3.rb (g1.rb xPr))))))))))) (g129.rb (g127.rb (g125.rb (g123.rb (g121.rb (g119.rb (g97.rb (g95.rb xp5)))))))) (by intro h0; have q4 := g4_0 h0; omega) (by omega) (by omega)) ?_
          rintro _ _ ⟨p131, rfl, V131, rfl, g131, xp131⟩
          have G_132 := G_130.trans (g131.gs _)
          refine g_iast (i := 2) rfl (ms.slot hP) (by omega) (by omega) ?_
          obtain ⟨V133, eV133⟩ : ∃ W, W = vset V131 aP 2 (p131 : Int) := ⟨_, rfl⟩
          refine g_hp (h2 := hw h V133) (by rw [eV133]; rfl) ?_
          have g133 : Gs V131 V133 o 0 (fun q => q = aP) := by rw [eV133]; exact Gs.cell hP
          have s133 : SA V133 aP p119 p127 p131 Ps := by rw [eV133]; exact SA.c2 (g131.sa hP s129) p131
          have G_134 := G_132.trans (g133.wide (fun q hq => by have hq : q = aP := hq; show q = aP; omega))
          refine g_aload_n rfl rfl ?_
          refine g_iload rfl rfl ?_
          refine g_iload rfl rfl ?_
          refine g_if_ge_f rfl (by omega) ?_
          refine g_aload_n rfl rfl ?_
          refine g_aload_n rfl rfl ?_
          refine g_iload rfl rfl ?_
          refine g_iald (i := 2) rfl (ms.slot hP) (by omega) (by omega) ?_
          refine g_top (v2 := aI ((p131 : Int))) (congrArg aI (by exact s133.2.2.1)) ?_
          refine g_callVI [aI ((p131 : Int))] [aI 2, aO (some aP)] rfl rfl rfl rfl (Nat.le_of_ble_eq_true rfl) ms.1 (r_neg (by omega) ms V133 (by have := G_134.2.2.1; omega) (g133.rb xp131) (by omega)) ?_
          rintro _ _ ⟨p135, rfl, V135, rfl, g135, xp135⟩
          have G_136 := G_134.trans (g135.gs _)
          refine g_goto rfl ?_
          refine g_iast (i := 2) rfl (ms.slot hP) (by omega) (by omega) ?_
          obtain ⟨V137, eV137⟩ : ∃ W, W = vset V135 aP 2 (p135 : Int) := ⟨_, rfl⟩
          refine g_hp (h2 := hw h V137) (by rw [eV137]; rfl) ?_
          have g137 : Gs V135 V137 o 0 (fun q => q = aP) := by rw [eV137]; exact Gs.cell hP
          have s137 : SA V137 aP p119 p127 p135 Ps := by rw [eV137]; exact SA.c2 (g135.sa hP s133) p135
          have G_138 := G_136.trans (g137.wide (fun q hq => by have hq : q = aP := hq; show q = aP; omega))
          refine g_iinc (l1 := [(5, aI 3), (4, aI (lcmp P.2.1 0)), (3, aI ((p5 : Int))), (0, aO (some o)), (1, aO (some aP)), (2, aI 0)]) rfl rfl (by omega) (by omega) rfl ?_
          refine g_goto rfl ?_
          refine g_iload rfl rfl ?_
          refine g_iconst rfl ?_
          refine g_icmp_ge_f rfl (by omega) ?_
          refine g_aload_n rfl rfl ?_
          refine g_iload rfl rfl ?_
          refine g_aload_n rfl rfl ?_
          refine g_aload_n rfl rfl ?_
          refine g_iload rfl rfl ?_
          refine g_iald (i := 3) rfl (ms.slot hP) (by omega) (by omega) ?_
          refine g_top (v2 := aI ((Ps : Int))) (congrArg aI (by exact s137.2.2.2)) ?_
          refine g_iload_n rfl rfl ?_
          refine g_callVI [aI ((Ps : Int)), aI ((p5 : Int))] [aI 3, aO (some aP)] rfl rfl rfl rfl (Nat.le_of_ble_eq_true rfl) ms.1 (r_div (by omega) ms V137 (by have := G_138.2.2.1; omega) (g137.rb (g135.rb (g133.rb (g131.rb (g129.rb (g127.rb (g125.rb (g123.rb (g121.rb (g119.rb (g97.rb (g95.rb (g5.rb (g3.rb (g1.rb xPs))))))))))))))) (g137.rb (g135.rb (g133.rb (g131.rb (g129.rb (g127.rb (g125.rb (g123.rb (g121.rb (g119.rb (g97.rb (g95.rb xp5)))))))))))) (by intro h0; have q4 := g4_0 h0; omega) (by omega) (by omega)) ?_
          rintro _ _ ⟨p139, rfl, V139, rfl, g139, xp139⟩
          have G_140 := G_138.trans (g139.gs _)
          refine g_iast (i := 3) rfl (ms.slot hP) (by omega) (by omega) ?_
          obtain ⟨V141, eV141⟩ : ∃ W, W = vset V139 aP 3 (p139 : Int) := ⟨_, rfl⟩
          refine g_hp (h2 := hw h V141) (by rw [eV141]; rfl) ?_
          have g141 : Gs V139 V141 o 0 (fun q => q = aP) := by rw [eV141]; exact Gs.cell hP
          have s141 : SA V141 aP p119 p127 p135 p139 := by rw [eV141]; exact SA.c3 (g139.sa hP s137) p139
          have G_142 := G_140.trans (g141.wide (fun q hq => by have hq : q = aP := hq; show q = aP; omega))
          refine g_aload_n rfl rfl ?_
          refine g_iload rfl rfl ?_
          refine g_iload rfl rfl ?_
          refine g_if_ge_f rfl (by omega) ?_
          refine g_aload_n rfl rfl ?_
          refine g_aload_n rfl rfl ?_
          refine g_iload rfl rfl ?_
          refine g_iald (i := 3) rfl (ms.slot hP) (by omega) (by omega) ?_
          refine g_top (v2 := aI ((p139 : Int))) (congrArg aI (by exact s141.2.2.2)) ?_
          refine g_callVI [aI ((p139 : Int))] [aI 3, aO (some aP)] rfl rfl rfl rfl (Nat.le_of_ble_eq_true rfl) ms.1 (r_neg (by omega) ms V141 (by have := G_142.2.2.1; omega) (g141.rb xp139) (by omega)) ?_
          rintro _ _ ⟨p143, rfl, V143, rfl, g143, xp143⟩
          have G_144 := G_142.trans (g143.gs _)
          refine g_goto rfl ?_
          refine g_iast (i := 3) rfl (ms.slot hP) (by omega) (by omega) ?_
          obtain ⟨V145, eV145⟩ : ∃ W, W = vset V143 aP 3 (p143 : Int) := ⟨_, rfl⟩
          refine g_hp (h2 := hw h V145) (by rw [eV145]; rfl) ?_
          have g145 : Gs V143 V145 o 0 (fun q => q = aP) := by rw [eV145]; exact Gs.cell hP
          have s145 : SA V145 aP p119 p127 p135 p143 := by rw [eV145]; exact SA.c3 (g143.sa hP s141) p143
          have G_146 := G_144.trans (g145.wide (fun q hq => by have hq : q = aP := hq; show q = aP; omega))
          refine g_iinc (l1 := [(5, aI 4), (4, aI (lcmp P.2.1 0)), (3, aI ((p5 : Int))), (0, aO (some o)), (1, aO (some aP)), (2, aI 0)]) rfl rfl (by omega) (by omega) rfl ?_
          refine g_goto rfl ?_
          refine g_iload rfl rfl ?_
          refine g_iconst rfl ?_
          refine g_icmp_ge_t rfl (by omega) ?_
          refine g_vret rfl ?_
          refine ⟨V145, rfl, G_146.mono (by omega), ?_⟩
          have l0 := @lcmp_0 P.1 0
          have m0 := @lcmp_lt P.1 0
          have n0 := @lcmp_gt P.1 0
          have l1 := @lcmp_0 P.2.1 0
          have m1 := @lcmp_lt P.2.1 0
          have n1 := @lcmp_gt P.2.1 0
          have l2 := @lcmp_0 P.2.2.1 0
          have m2 := @lcmp_lt P.2.2.1 0
          have n2 := @lcmp_gt P.2.2.1 0
          unfold m_low
          first
            | (rw [if_pos (by omega)]; unfold set_up)
            | (rw [if_neg (by omega)]; unfold set_dn)
          exact ⟨_, _, _, _, s145, ((g145.rb (g143.rb (g141.rb (g139.rb (g137.rb (g135.rb (g133.rb (g131.rb (g129.rb (g127.rb (g125.rb (g123.rb (g121.rb xp119))))))))))))).up (by omega)), ((g145.rb (g143.rb (g141.rb (g139.rb (g137.rb (g135.rb (g133.rb (g131.rb (g129.rb xp127))))))))).up (by omega)), ((g145.rb (g143.rb (g141.rb (g139.rb (g137.rb xp135))))).up (by omega)), ((g145.rb xp143).up (by omega))⟩
      · skip
        refine g_aload_n rfl rfl ?_
        refine g_aload_n rfl rfl ?_
        refine g_iload rfl rfl ?_
        refine g_iald (i := 2) rfl (ms.slot hP) (by omega) (by omega) ?_
        refine g_top (v2 := aI ((Pr : Int))) (congrArg aI (by exact (g5.sa hP (g3.sa hP (g1.sa hP sP))).2.2.1)) ?_
        refine g_callVI [aI ((Pr : Int))] [] rfl rfl rfl rfl (Nat.le_of_ble_eq_true rfl) ms.1 (r_sign (by omega) ms V5 (g5.rb (g3.rb (g1.rb xPr)))) ?_
        rintro r147 _ ⟨rfl, e148⟩
        rw [e148]
        clear e148 r147
        refine g_goto rfl ?_
        refine g_istore (l1 := [(4, aI (lcmp P.2.2.1 0)), (5, aI 2), (3, aI ((p5 : Int))), (0, aO (some o)), (1, aO (some aP)), (2, aI 0)]) rfl rfl ?_
        refine g_iinc (l1 := [(5, aI 3), (4, aI (lcmp P.2.2.1 0)), (3, aI ((p5 : Int))), (0, aO (some o)), (1, aO (some aP)), (2, aI 0)]) rfl rfl (by omega) (by omega) rfl ?_
        refine g_goto rfl ?_
        refine g_iload rfl rfl ?_
        refine g_iconst rfl ?_
        refine g_icmp_ge_t rfl (by omega) ?_
        refine g_iconst rfl ?_
        refine g_istore (l1 := [(5, aI 0), (4, aI (lcmp P.2.2.1 0)), (3, aI ((p5 : Int))), (0, aO (some o)), (1, aO (some aP)), (2, aI 0)]) rfl rfl ?_
        refine g_iload rfl rfl ?_
        refine g_iconst rfl ?_
        refine g_icmp_ge_f rfl (by omega) ?_
        refine g_aload_n rfl rfl ?_
        refine g_iload rfl rfl ?_
        refine g_aload_n rfl rfl ?_
        refine g_aload_n rfl rfl ?_
        refine g_iload rfl rfl ?_
        refine g_iald (i := 0) rfl (ms.slot hP) (by omega) (by omega) ?_
        refine g_top (v2 := aI ((Pp : Int))) (congrArg aI (by exact (g5.sa hP (g3.sa hP (g1.sa hP sP))).1)) ?_
        refine g_iload_n rfl rfl ?_
        refine g_callVI [aI ((Pp : Int)), aI ((p5 : Int))] [aI 0, aO (some aP)] rfl rfl rfl rfl (Nat.le_of_ble_eq_true rfl) ms.1 (r_div (by omega) ms V5 (by have := G_6.2.2.1; omega) (g5.rb (g3.rb (g1.rb xPp))) xp5 (by intro h0; have q4 := g4_0 h0; omega) (by omega) (by omega)) ?_
        rintro _ _ ⟨p149, rfl, V149, rfl, g149, xp149⟩
        have G_150 := G_6.trans (g149.gs _)
        refine g_iast (i := 0) rfl (ms.slot hP) (by omega) (by omega) ?_
        obtain ⟨V151, eV151⟩ : ∃ W, W = vset V149 aP 0 (p149 : Int) := ⟨_, rfl⟩
        refine g_hp (h2 := hw h V151) (by rw [eV151]; rfl) ?_
        have g151 : Gs V149 V151 o 0 (fun q => q = aP) := by rw [eV151]; exact Gs.cell hP
        have s151 : SA V151 aP p149 Pq Pr Ps := by rw [eV151]; exact SA.c0 (g149.sa hP (g5.sa hP (g3.sa hP (g1.sa hP sP)))) p149
        have G_152 := G_150.trans (g151.wide (fun q hq => by have hq : q = aP := hq; show q = aP; omega))
        refine g_aload_n rfl rfl ?_
        refine g_iload rfl rfl ?_
        refine g_iload rfl rfl ?_
        refine g_if_ge rfl (fun c113 => ?_) (fun c113 => ?_)
        · skip
          refine g_aload_n rfl rfl ?_
          refine g_iload rfl rfl ?_
          refine g_iald (i := 0) rfl (ms.slot hP) (by omega) (by omega) ?_
          refine g_top (v2 := aI ((p149 : Int))) (congrArg aI (by exact s151.1)) ?_
          refine g_iast (i := 0) rfl (ms.slot hP) (by omega) (by omega) ?_
          obtain ⟨V153, eV153⟩ : ∃ W, W = vset V151 aP 0 (p149 : Int) := ⟨_, rfl⟩
          refine g_hp (h2 := hw h V153) (by rw [eV153]; rfl) ?_
          have g153 : Gs V151 V153 o 0 (fun q => q = aP) := by rw [eV153]; exact Gs.cell hP
          have s153 : SA V153 aP p149 Pq Pr Ps := by rw [eV153]; exact SA.c0 s151 p149
          have G_154 := G_152.trans (g153.wide (fun q hq => by have hq : q = aP := hq; show q = aP; omega))
          refine g_iinc (l1 := [(5, aI 1), (4, aI (lcmp P.2.2.1 0)), (3, aI ((p5 : Int))), (0, aO (some o)), (1, aO (some aP)), (2, aI 0)]) rfl rfl (by omega) (by omega) rfl ?_
          refine g_goto rfl ?_
          refine g_iload rfl rfl ?_
          refine g_iconst rfl ?_
          refine g_icmp_ge_f rfl (by omega) ?_
          refine g_aload_n rfl rfl ?_
          refine g_iload rfl rfl ?_
          refine g_aload_n rfl rfl ?_
          refine g_aload_n rfl rfl ?_
          refine g_iload rfl rfl ?_
          refine g_iald (i := 1) rfl (ms.slot hP) (by omega) (by omega) ?_
          refine g_top (v2 := aI ((Pq : Int))) (congrArg aI (by exact s153.2.1)) ?_
          refine g_iload_n rfl rfl ?_
          refine g_callVI [aI ((Pq : Int)), aI ((p5 : Int))] [aI 1, aO (some aP)] rfl rfl rfl rfl (Nat.le_of_ble_eq_true rfl) ms.1 (r_div (by omega) ms V153 (by have := G_154.2.2.1; omega) (g153.rb (g151.rb (g149.rb (g5.rb (g3.rb (g1.rb xPq)))))) (g153.rb (g151.rb (g149.rb xp5))) (by intro h0; have q4 := g4_0 h0; omega) (by omega) (by omega)) ?_
          rintro _ _ ⟨p155, rfl, V155, rfl, g155, xp155⟩
          have G_156 := G_154.trans (g155.gs _)
          refine g_iast (i := 1) rfl (ms.slot hP) (by omega) (by omega) ?_
          obtain ⟨V157, eV157⟩ : ∃ W, W = vset V155 aP 1 (p155 : Int) := ⟨_, rfl⟩
          refine g_hp (h2 := hw h V157) (by rw [eV157]; rfl) ?_
          have g157 : Gs V155 V157 o 0 (fun q => q = aP) := by rw [eV157]; exact Gs.cell hP
          have s157 : SA V157 aP p149 p155 Pr Ps := by rw [eV157]; exact SA.c1 (g155.sa hP s153) p155
          have G_158 := G_156.trans (g157.wide (fun q hq => by have hq : q = aP := hq; show q = aP; omega))
          refine g_aload_n rfl rfl ?_
          refine g_iload rfl rfl ?_
          refine g_iload rfl rfl ?_
          refine g_if_ge_t rfl (by omega) ?_
          refine g_aload_n rfl rfl ?_
          refine g_iload rfl rfl ?_
          refine g_iald (i := 1) rfl (ms.slot hP) (by omega) (by omega) ?_
          refine g_top (v2 := aI ((p155 : Int))) (congrArg aI (by exact s157.2.1)) ?_
          refine g_iast (i := 1) rfl (ms.slot hP) (by omega) (by omega) ?_
          obtain ⟨V159, eV159⟩ : ∃ W, W = vset V157 aP 1 (p155 : Int) := ⟨_, rfl⟩
          refine g_hp (h2 := hw h V159) (by rw [eV159]; rfl) ?_
          have g159 : Gs V157 V159 o 0 (fun q => q = aP) := by rw [eV159]; exact Gs.cell hP
          have s159 : SA V159 aP p149 p155 Pr Ps := by rw [eV159]; exact SA.c1 s157 p155
          have G_160 := G_158.trans (g159.wide (fun q hq => by have hq : q = aP := hq; show q = aP; omega))
          refine g_iinc (l1 := [(5, aI 2), (4, aI (lcmp P.2.2.1 0)), (3, aI ((p5 : Int))), (0, aO (some o)), (1, aO (some aP)), (2, aI 0)]) rfl rfl (by omega) (by omega) rfl ?_
          refine g_goto rfl ?_
          refine g_iload rfl rfl ?_
          refine g_iconst rfl ?_
          refine g_icmp_ge_f rfl (by omega) ?_
          refine g_aload_n rfl rfl ?_
          refine g_iload rfl rfl ?_
          refine g_aload_n rfl rfl ?_
          refine g_aload_n rfl rfl ?_
          refine g_iload rfl rfl ?_
          refine g_iald (i := 2) rfl (ms.slot hP) (by omega) (by omega) ?_
          refine g_top (v2 := aI ((Pr : Int))) (congrArg aI (by exact s159.2.2.1)) ?_
          refine g_iload_n rfl rfl ?_
          refine g_callVI [aI ((Pr : Int)), aI ((p5 : Int))] [aI 2, aO (some aP)] rfl rfl rfl rfl (Nat.le_of_ble_eq_true rfl) ms.1 (r_div (by omega) ms V159 (by have := G_160.2.2.1; omega) (g159.rb (g157.rb (g155.rb (g153.rb (g151.rb (g149.rb (g5.rb (g3.rb (g1.rb xPr))))))))) (g159.rb (g157.rb (g155.rb (g153.rb (g151.rb (g149.rb xp5)))))) (by intro h0; have q4 := g4_0 h0; omega) (by omega) (by omega)) ?_
          rintro _ _ ⟨p161, rfl, V161, rfl, g161, xp161⟩
          have G_162 := G_160.trans (g161.gs _)
          refine g_iast (i := 2) rfl (ms.slot hP) (by omega) (by omega) ?_
          obtain ⟨V163, eV163⟩ : ∃ W, W = vset V161 aP 2 (p161 : Int) := ⟨_, rfl⟩
          refine g_hp (h2 := hw h V163) (by rw [eV163]; rfl) ?_
          have g163 : Gs V161 V163 o 0 (fun q => q = aP) := by rw [eV163]; exact Gs.cell hP
          have s163 : SA V163 aP p149 p155 p161 Ps := by rw [eV163]; exact SA.c2 (g161.sa hP s159) p161
          have G_164 := G_162.trans (g163.wide (fun q hq => by have hq : q = aP := hq; show q = aP; omega))
          refine g_aload_n rfl rfl ?_
          refine g_iload rfl rfl ?_
          refine g_iload rfl rfl ?_
          refine g_if_ge_t rfl (by omega) ?_
          refine g_aload_n rfl rfl ?_
          refine g_iload rfl rfl ?_
          refine g_iald (i := 2) rfl (ms.slot hP) (by omega) (by omega) ?_
          refine g_top (v2 := aI ((p161 : Int))) (congrArg aI (by exact s163.2.2.1)) ?_
          refine g_iast (i := 2) rfl (ms.slot hP) (by omega) (by omega) ?_
          obtain ⟨V165, eV165⟩ : ∃ W, W = vset V163 aP 2 (p161 : Int) := ⟨_, rfl⟩
          refine g_hp (h2 := hw h V165) (by rw [eV165]; rfl) ?_
          have g165 : Gs V163 V165 o 0 (fun q => q = aP) := by rw [eV165]; exact Gs.cell hP
          have s165 : SA V165 aP p149 p155 p161 Ps := by rw [eV165]; exact SA.c2 s163 p161
          have G_166 := G_164.trans (g165.wide (fun q hq => by have hq : q = aP := hq; show q = aP; omega))
          refine g_iinc (l1 := [(5, aI 3), (4, aI (lcmp P.2.2.1 0)), (3, aI ((p5 : Int))), (0, aO (some o)), (1, aO (some aP)), (2, aI 0)]) rfl rfl (by omega) (by omega) rfl ?_
          refine g_goto rfl ?_
          refine g_iload rfl rfl ?_
          refine g_iconst rfl ?_
          refine g_icmp_ge_f rfl (by omega) ?_
          refine g_aload_n rfl rfl ?_
          refine g_iload rfl rfl ?_
          refine g_aload_n rfl rfl ?_
          refine g_aload_n rfl rfl ?_
          refine g_iload rfl rfl ?_
          refine g_iald (i := 3) rfl (ms.slot hP) (by omega) (by omega) ?_
          refine g_top (v2 := aI ((Ps : Int))) (congrArg aI (by exact s165.2.2.2)) ?_
          refine g_iload_n rfl rfl ?_
          refine g_callVI [aI ((Ps : Int)), aI ((p5 : Int))] [aI 3, aO (some aP)] rfl rfl rfl rfl (Nat.le_of_ble_eq_true rfl) ms.1 (r_div (by omega) ms V165 (by have := G_166.2.2.1; omega) (g165.rb (g163.rb (g161.rb (g159.rb (g157.rb (g155.rb (g153.rb (g151.rb (g149.rb (g5.rb (g3.rb (g1.rb xPs)))))))))))) (g165.rb (g163.rb (g161.rb (g159.rb (g157.rb (g155.rb (g153.rb (g151.rb (g149.rb xp5))))))))) (by intro h0; have q4 := g4_0 h0; omega) (by omega) (by omega)) ?_
          rintro _ _ ⟨p167, rfl, V167, rfl, g167, xp167⟩
          have G_168 := G_166.trans (g167.gs _)
          refine g_iast (i := 3) rfl (ms.slot hP) (by omega) (by omega) ?_
          obtain ⟨V169, eV169⟩ : ∃ W, W = vset V167 aP 3 (p167 : Int) := ⟨_, rfl⟩
          refine g_hp (h2 := hw h V169) (by rw [eV169]; rfl) ?_
          have g169 : Gs V167 V169 o 0 (fun q => q = aP) := by rw [eV169]; exact Gs.cell hP
          have s169 : SA V169 aP p149 p155 p161 p167 := by rw [eV169]; exact SA.c3 (g167.sa hP s165) p167
          have G_170 := G_168.trans (g169.wide (fun q hq => by have hq : q = aP := hq; show q = aP; omega))
          refine g_aload_n rfl rfl ?_
          refine g_iload rfl rfl ?_
          refine g_iload rfl rfl ?_
          refine g_if_ge_t rfl (by omega) ?_
          refine g_aload_n rfl rfl ?_
          refine g_iload rfl rfl ?_
          refine g_iald (i := 3) rfl (ms.slot hP) (by omega) (by omega) ?_
          refine g_top (v2 := aI ((p167 : Int))) (congrArg aI (by exact s169.2.2.2)) ?_
          refine g_iast (i := 3) rfl (ms.slot hP) (by omega) (by omega) ?_
          obtain ⟨V171, eV171⟩ : ∃ W, W = vset V169 aP 3 (p167 : Int) := ⟨_, rfl⟩
          refine g_hp (h2 := hw h V171) (by rw [eV171]; rfl) ?_
          have g171 : Gs V169 V171 o 0 (fun q => q = aP) := by rw [eV171]; exact Gs.cell hP
          have s171 : SA V171 aP p149 p155 p161 p167 := by rw [eV171]; exact SA.c3 s169 p167
          have G_172 := G_170.trans (g171.wide (fun q hq => by have hq : q = aP := hq; show q = aP; omega))
          refine g_iinc (l1 := [(5, aI 4), (4, aI (lcmp P.2.2.1 0)), (3, aI ((p5 : Int))), (0, aO (some o)), (1, aO (some aP)), (2, aI 0)]) rfl rfl (by omega) (by omega) rfl ?_
          refine g_goto rfl ?_
          refine g_iload rfl rfl ?_
          refine g_iconst rfl ?_
          refine g_icmp_ge_t rfl (by omega) ?_
          refine g_vret rfl ?_
          refine ⟨V171, rfl, G_172.mono (by omega), ?_⟩
          have l0 := @lcmp_0 P.1 0
          have m0 := @lcmp_lt P.1 0
          have n0 := @lcmp_gt P.1 0
          have l1 := @lcmp_0 P.2.1 0
          have m1 := @lcmp_lt P.2.1 0
          have n1 := @lcmp_gt P.2.1 0
          have l2 := @lcmp_0 P.2.2.1 0
          have m2 := @lcmp_lt P.2.2.1 0
          have n2 := @lcmp_gt P.2.2.1 0
          unfold m_low
          first
            | (rw [if_pos (by omega)]; unfold set_up)
            | (rw [if_neg (by omega)]; unfold set_dn)
          exact ⟨_, _, _, _, s171, ((g171.rb (g169.rb (g167.rb (g165.rb (g163.rb (g161.rb (g159.rb (g157.rb (g155.rb (g153.rb (g151.rb xp149))))))))))).up (by omega)), ((g171.rb (g169.rb (g167.rb (g165.rb (g163.rb (g161.rb (g159.rb (g157.rb xp155)))))))).up (by omega)), ((g171.rb (g169.rb (g167.rb (g165.rb (g163.rb xp161))))).up (by omega)), ((g171.rb (g169.rb xp167)).up (by omega))⟩
        · skip
          refine g_aload_n rfl rfl ?_
          refine g_aload_n rfl rfl ?_
          refine g_iload rfl rfl ?_
          refine g_iald (i := 0) rfl (ms.slot hP) (by omega) (by omega) ?_
          refine g_top (v2 := aI ((p149 : Int))) (congrArg aI (by exact s151.1)) ?_
          refine g_callVI [aI ((p149 : Int))] [aI 0, aO (some aP)] rfl rfl rfl rfl (Nat.le_of_ble_eq_true rfl) ms.1 (r_neg (by omega) ms V151 (by have := G_152.2.2.1; omega) (g151.rb xp149) (by omega)) ?_
          rintro _ _ ⟨p173, rfl, V173, rfl, g173, xp173⟩
          have G_174 := G_152.trans (g173.gs _)
          refine g_goto rfl ?_
          refine g_iast (i := 0) rfl (ms.slot hP) (by omega) (by omega) ?_
          obtain ⟨V175, eV175⟩ : ∃ W, W = vset V173 aP 0 (p173 : Int) := ⟨_, rfl⟩
          refine g_hp (h2 := hw h V175) (by rw [eV175]; rfl) ?_
          have g175 : Gs V173 V175 o 0 (fun q => q = aP) := by rw [eV175]; exact Gs.cell hP
          have s175 : SA V175 aP p173 Pq Pr Ps := by rw [eV175]; exact SA.c0 (g173.sa hP s151) p173
          have G_176 := G_174.trans (g175.wide (fun q hq => by have hq : q = aP := hq; show q = aP; omega))
          refine g_iinc (l1 := [(5, aI 1), (4, aI (lcmp P.2.2.1 0)), (3, aI ((p5 : Int))), (0, aO (some o)), (1, aO (some aP)), (2, aI 0)]) rfl rfl (by omega) (by omega) rfl ?_
          refine g_goto rfl ?_
          refine g_iload rfl rfl ?_
          refine g_iconst rfl ?_
          refine g_icmp_ge_f rfl (by omega) ?_
          refine g_aload_n rfl rfl ?_
          refine g_iload rfl rfl ?_
          refine g_aload_n rfl rfl ?_
          refine g_aload_n rfl rfl ?_
          refine g_iload rfl rfl ?_
          refine g_iald (i := 1) rfl (ms.slot hP) (by omega) (by omega) ?_
          refine g_top (v2 := aI ((Pq : Int))) (congrArg aI (by exact s175.2.1)) ?_
          refine g_iload_n rfl rfl ?_
          refine g_callVI [aI ((Pq : Int)), aI ((p5 : Int))] [aI 1, aO (some aP)] rfl rfl rfl rfl (Nat.le_of_ble_eq_true rfl) ms.1 (r_div (by omega) ms V175 (by have := G_176.2.2.1; omega) (g175.rb (g173.rb (g151.rb (g149.rb (g5.rb (g3.rb (g1.rb xPq))))))) (g175.rb (g173.rb (g151.rb (g149.rb xp5)))) (by intro h0; have q4 := g4_0 h0; omega) (by omega) (by omega)) ?_
          rintro _ _ ⟨p177, rfl, V177, rfl, g177, xp177⟩
          have G_178 := G_176.trans (g177.gs _)
          refine g_iast (i := 1) rfl (ms.slot hP) (by omega) (by omega) ?_
          obtain ⟨V179, eV179⟩ : ∃ W, W = vset V177 aP 1 (p177 : Int) := ⟨_, rfl⟩
          refine g_hp (h2 := hw h V179) (by rw [eV179]; rfl) ?_
          have g179 : Gs V177 V179 o 0 (fun q => q = aP) := by rw [eV179]; exact Gs.cell hP
          have s179 : SA V179 aP p173 p177 Pr Ps := by rw [eV179]; exact SA.c1 (g177.sa hP s175) p177
          have G_180 := G_178.trans (g179.wide (fun q hq => by have hq : q = aP := hq; show q = aP; omega))
          refine g_aload_n rfl rfl ?_
          refine g_iload rfl rfl ?_
          refine g_iload rfl rfl ?_
          refine g_if_ge_f rfl (by omega) ?_
          refine g_aload_n rfl rfl ?_
          refine g_aload_n rfl rfl ?_
          refine g_iload rfl rfl ?_
          refine g_iald (i := 1) rfl (ms.slot hP) (by omega) (by omega) ?_
          refine g_top (v2 := aI ((p177 : Int))) (congrArg aI (by exact s179.2.1)) ?_
          refine g_callVI [aI ((p177 : Int))] [aI 1, aO (some aP)] rfl rfl rfl rfl (Nat.le_of_ble_eq_true rfl) ms.1 (r_neg (by omega) ms V179 (by have := G_180.2.2.1; omega) (g179.rb xp177) (by omega)) ?_
          rintro _ _ ⟨p181, rfl, V181, rfl, g181, xp181⟩
          have G_182 := G_180.trans (g181.gs _)
          refine g_goto rfl ?_
          refine g_iast (i := 1) rfl (ms.slot hP) (by omega) (by omega) ?_
          obtain ⟨V183, eV183⟩ : ∃ W, W = vset V181 aP 1 (p181 : Int) := ⟨_, rfl⟩
          refine g_hp (h2 := hw h V183) (by rw [eV183]; rfl) ?_
          have g183 : Gs V181 V183 o 0 (fun q => q = aP) := by rw [eV183]; exact Gs.cell hP
          have s183 : SA V183 aP p173 p181 Pr Ps := by rw [eV183]; exact SA.c1 (g181.sa hP s179) p181
          have G_184 := G_182.trans (g183.wide (fun q hq => by have hq : q = aP := hq; show q = aP; omega))
          refine g_iinc (l1 := [(5, aI 2), (4, aI (lcmp P.2.2.1 0)), (3, aI ((p5 : Int))), (0, aO (some o)), (1, aO (some aP)), (2, aI 0)]) rfl rfl (by omega) (by omega) rfl ?_
          refine g_goto rfl ?_
          refine g_iload rfl rfl ?_
          refine g_iconst rfl ?_
          refine g_icmp_ge_f rfl (by omega) ?_
          refine g_aload_n rfl rfl ?_
          refine g_iload rfl rfl ?_
          refine g_aload_n rfl rfl ?_
          refine g_aload_n rfl rfl ?_
          refine g_iload rfl rfl ?_
          refine g_iald (i := 2) rfl (ms.slot hP) (by omega) (by omega) ?_
          refine g_top (v2 := aI ((Pr : Int))) (congrArg aI (by exact s183.2.2.1)) ?_
          refine g_iload_n rfl rfl ?_
          refine g_callVI [aI ((Pr : Int)), aI ((p5 : Int))] [aI 2, aO (some aP)] rfl rfl rfl rfl (Nat.le_of_ble_eq_true rfl) ms.1 (r_div (by omega) ms V183 (by have := G_184.2.2.1; omega) (g183.rb (g181.rb (g179.rb (g177.rb (g175.rb (g173.rb (g151.rb (g149.rb (g5.rb (g3.rb (g1.rb xPr))))))))))) (g183.rb (g181.rb (g179.rb (g177.rb (g175.rb (g173.rb (g151.rb (g149.rb xp5)))))))) (by intro h0; have q4 := g4_0 h0; omega) (by omega) (by omega)) ?_
          rintro _ _ ⟨p185, rfl, V185, rfl, g185, xp185⟩
          have G_186 := G_184.trans (g185.gs _)
          refine g_iast (i := 2) rfl (ms.slot hP) (by omega) (by omega) ?_
          obtain ⟨V187, eV187⟩ : ∃ W, W = vset V185 aP 2 (p185 : Int) := ⟨_, rfl⟩
          refine g_hp (h2 := hw h V187) (by rw [eV187]; rfl) ?_
          have g187 : Gs V185 V187 o 0 (fun q => q = aP) := by rw [eV187]; exact Gs.cell hP
          have s187 : SA V187 aP p173 p181 p185 Ps := by rw [eV187]; exact SA.c2 (g185.sa hP s183) p185
          have G_188 := G_186.trans (g187.wide (fun q hq => by have hq : q = aP := hq; show q = aP; omega))
          refine g_aload_n rfl rfl ?_
          refine g_iload rfl rfl ?_
          refine g_iload rfl rfl ?_
          refine g_if_ge_f rfl (by omega) ?_
          refine g_aload_n rfl rfl ?_
          refine g_aload_n rfl rfl ?_
          refine g_iload rfl rfl ?_
          refine g_iald (i := 2) rfl (ms.slot hP) (by omega) (by omega) ?_
          refine g_top (v2 := aI ((p185 : Int))) (congrArg aI (by exact s187.2.2.1)) ?_
          refine g_callVI [aI ((p185 : Int))] [aI 2, aO (some aP)] rfl rfl rfl rfl (Nat.le_of_ble_eq_true rfl) ms.1 (r_neg (by omega) ms V187 (by have := G_188.2.2.1; omega) (g187.rb xp185) (by omega)) ?_
          rintro _ _ ⟨p189, rfl, V189, rfl, g189, xp189⟩
          have G_190 := G_188.trans (g189.gs _)
          refine g_goto rfl ?_
          refine g_iast (i := 2) rfl (ms.slot hP) (by omega) (by omega) ?_
          obtain ⟨V191, eV191⟩ : ∃ W, W = vset V189 aP 2 (p189 : Int) := ⟨_, rfl⟩
          refine g_hp (h2 := hw h V191) (by rw [eV191]; rfl) ?_
          have g191 : Gs V189 V191 o 0 (fun q => q = aP) := by rw [eV191]; exact Gs.cell hP
          have s191 : SA V191 aP p173 p181 p189 Ps := by rw [eV191]; exact SA.c2 (g189.sa hP s187) p189
          have G_192 := G_190.trans (g191.wide (fun q hq => by have hq : q = aP := hq; show q = aP; omega))
          refine g_iinc (l1 := [(5, aI 3), (4, aI (lcmp P.2.2.1 0)), (3, aI ((p5 : Int))), (0, aO (some o)), (1, aO (some aP)), (2, aI 0)]) rfl rfl (by omega) (by omega) rfl ?_
          refine g_goto rfl ?_
          refine g_iload rfl rfl ?_
          refine g_iconst rfl ?_
          refine g_icmp_ge_f rfl (by omega) ?_
          refine g_aload_n rfl rfl ?_
          refine g_iload rfl rfl ?_
          refine g_aload_n rfl rfl ?_
          refine g_aload_n rfl rfl ?_
          refine g_iload rfl rfl ?_
          refine g_iald (i := 3) rfl (ms.slot hP) (by omega) (by omega) ?_
          refine g_top (v2 := aI ((Ps : Int))) (congrArg aI (by exact s191.2.2.2)) ?_
          refine g_iload_n rfl rfl ?_
          refine g_callVI [aI ((Ps : Int)), aI ((p5 : Int))] [aI 3, aO (some aP)] rfl rfl rfl rfl (Nat.le_of_ble_eq_true rfl) ms.1 (r_div (by omega) ms V191 (by have := G_192.2.2.1; omega) (g191.rb (g189.rb (g187.rb (g185.rb (g183.rb (g181.rb (g179.rb (g177.rb (g175.rb (g173.rb (g151.rb (g149.rb (g5.rb (g3.rb (g1.rb xPs))))))))))))))) (g191.rb (g189.rb (g187.rb (g185.rb (g183.rb (g181.rb (g179.rb (g177.rb (g175.rb (g173.rb (g151.rb (g149.rb xp5)))))))))))) (by intro h0; have q4 := g4_0 h0; omega) (by omega) (by omega)) ?_
          rintro _ _ ⟨p193, rfl, V193, rfl, g193, xp193⟩
          have G_194 := G_192.trans (g193.gs _)
          refine g_iast (i := 3) rfl (ms.slot hP) (by omega) (by omega) ?_
          obtain ⟨V195, eV195⟩ : ∃ W, W = vset V193 aP 3 (p193 : Int) := ⟨_, rfl⟩
          refine g_hp (h2 := hw h V195) (by rw [eV195]; rfl) ?_
          have g195 : Gs V193 V195 o 0 (fun q => q = aP) := by rw [eV195]; exact Gs.cell hP
          have s195 : SA V195 aP p173 p181 p189 p193 := by rw [eV195]; exact SA.c3 (g193.sa hP s191) p193
          have G_196 := G_194.trans (g195.wide (fun q hq => by have hq : q = aP := hq; show q = aP; omega))
          refine g_aload_n rfl rfl ?_
          refine g_iload rfl rfl ?_
          refine g_iload rfl rfl ?_
          refine g_if_ge_f rfl (by omega) ?_
          refine g_aload_n rfl rfl ?_
          refine g_aload_n rfl rfl ?_
          refine g_iload rfl rfl ?_
          refine g_iald (i := 3) rfl (ms.slot hP) (by omega) (by omega) ?_
          refine g_top (v2 := aI ((p193 : Int))) (congrArg aI (by exact s195.2.2.2)) ?_
          refine g_callVI [aI ((p193 : Int))] [aI 3, aO (some aP)] rfl rfl rfl rfl (Nat.le_of_ble_eq_true rfl) ms.1 (r_neg (by omega) ms V195 (by have := G_196.2.2.1; omega) (g195.rb xp193) (by omega)) ?_
          rintro _ _ ⟨p197, rfl, V197, rfl, g197, xp197⟩
          have G_198 := G_196.trans (g197.gs _)
          refine g_goto rfl ?_
          refine g_iast (i := 3) rfl (ms.slot hP) (by omega) (by omega) ?_
          obtain ⟨V199, eV199⟩ : ∃ W, W = vset V197 aP 3 (p197 : Int) := ⟨_, rfl⟩
          refine g_hp (h2 := hw h V199) (by rw [eV199]; rfl) ?_
          have g199 : Gs V197 V199 o 0 (fun q => q = aP) := by rw [eV199]; exact Gs.cell hP
          have s199 : SA V199 aP p173 p181 p189 p197 := by rw [eV199]; exact SA.c3 (g197.sa hP s195) p197
          have G_200 := G_198.trans (g199.wide (fun q hq => by have hq : q = aP := hq; show q = aP; omega))
          refine g_iinc (l1 := [(5, aI 4), (4, aI (lcmp P.2.2.1 0)), (3, aI ((p5 : Int))), (0, aO (some o)), (1, aO (some aP)), (2, aI 0)]) rfl rfl (by omega) (by omega) rfl ?_
          refine g_goto rfl ?_
          refine g_iload rfl rfl ?_
          refine g_iconst rfl ?_
          refine g_icmp_ge_t rfl (by omega) ?_
          refine g_vret rfl ?_
          refine ⟨V199, rfl, G_200.mono (by omega), ?_⟩
          have l0 := @lcmp_0 P.1 0
          have m0 := @lcmp_lt P.1 0
          have n0 := @lcmp_gt P.1 0
          have l1 := @lcmp_0 P.2.1 0
          have m1 := @lcmp_lt P.2.1 0
          have n1 := @lcmp_gt P.2.1 0
          have l2 := @lcmp_0 P.2.2.1 0
          have m2 := @lcmp_lt P.2.2.1 0
          have n2 := @lcmp_gt P.2.2.1 0
          unfold m_low
          first
            | (rw [if_pos (by omega)]; unfold set_up)
            | (rw [if_neg (by omega)]; unfold set_dn)
          exact ⟨_, _, _, _, s199, ((g199.rb (g197.rb (g195.rb (g193.rb (g191.rb (g189.rb (g187.rb (g185.rb (g183.rb (g181.rb (g179.rb (g177.rb (g175.rb xp173))))))))))))).up (by omega)), ((g199.rb (g197.rb (g195.rb (g193.rb (g191.rb (g189.rb (g187.rb (g185.rb (g183.rb xp181))))))))).up (by omega)), ((g199.rb (g197.rb (g195.rb (g193.rb (g191.rb xp189))))).up (by omega)), ((g199.rb xp197).up (by omega))⟩
  · skip
    refine g_aload_n rfl rfl ?_
    refine g_aload_n rfl rfl ?_
    refine g_iload rfl rfl ?_
    refine g_iald (i := 0) rfl (ms.slot hP) (by omega) (by omega) ?_
    refine g_top (v2 := aI ((Pp : Int))) (congrArg aI (by exact (g5.sa hP (g3.sa hP (g1.sa hP sP))).1)) ?_
    refine g_callVI [aI ((Pp : Int))] [] rfl rfl rfl rfl (Nat.le_of_ble_eq_true rfl) ms.1 (r_sign (by omega) ms V5 (g5.rb (g3.rb (g1.rb xPp)))) ?_
    rintro r201 _ ⟨rfl, e202⟩
    rw [e202]
    clear e202 r201
    refine g_goto rfl ?_
    refine g_istore (l1 := [(4, aI (lcmp P.1 0)), (5, aI 0), (3, aI ((p5 : Int))), (0, aO (some o)), (1, aO (some aP)), (2, aI 0)]) rfl rfl ?_
    refine g_iinc (l1 := [(5, aI 1), (4, aI (lcmp P.1 0)), (3, aI ((p5 : Int))), (0, aO (some o)), (1, aO (some aP)), (2, aI 0)]) rfl rfl (by omega) (by omega) rfl ?_
    refine g_goto rfl ?_
    refine g_iload rfl rfl ?_
    refine g_iconst rfl ?_
    refine g_icmp_ge_f rfl (by omega) ?_
    refine g_aload_n rfl rfl ?_
    refine g_aload_n rfl rfl ?_
    refine g_iload rfl rfl ?_
    refine g_iald (i := 1) rfl (ms.slot hP) (by omega) (by omega) ?_
    refine g_top (v2 := aI ((Pq : Int))) (congrArg aI (by exact (g5.sa hP (g3.sa hP (g1.sa hP sP))).2.1)) ?_
    refine g_callVI [aI ((Pq : Int))] [] rfl rfl rfl rfl (Nat.le_of_ble_eq_true rfl) ms.1 (r_sign (by omega) ms V5 (g5.rb (g3.rb (g1.rb xPq)))) ?_
    rintro r203 _ ⟨rfl, e204⟩
    rw [e204]
    clear e204 r203
    refine g_if_eq rfl (fun c62 => ?_) (fun c62 => ?_)
    · skip
      refine g_iload rfl rfl ?_
      refine g_istore (l1 := [(4, aI (lcmp P.1 0)), (5, aI 1), (3, aI ((p5 : Int))), (0, aO (some o)), (1, aO (some aP)), (2, aI 0)]) rfl rfl ?_
      refine g_iinc (l1 := [(5, aI 2), (4, aI (lcmp P.1 0)), (3, aI ((p5 : Int))), (0, aO (some o)), (1, aO (some aP)), (2, aI 0)]) rfl rfl (by omega) (by omega) rfl ?_
      refine g_goto rfl ?_
      refine g_iload rfl rfl ?_
      refine g_iconst rfl ?_
      refine g_icmp_ge_f rfl (by omega) ?_
      refine g_aload_n rfl rfl ?_
      refine g_aload_n rfl rfl ?_
      refine g_iload rfl rfl ?_
      refine g_iald (i := 2) rfl (ms.slot hP) (by omega) (by omega) ?_
      refine g_top (v2 := aI ((Pr : Int))) (congrArg aI (by exact (g5.sa hP (g3.sa hP (g1.sa hP sP))).2.2.1)) ?_
      refine g_callVI [aI ((Pr : Int))] [] rfl rfl rfl rfl (Nat.le_of_ble_eq_true rfl) ms.1 (r_sign (by omega) ms V5 (g5.rb (g3.rb (g1.rb xPr)))) ?_
      rintro r205 _ ⟨rfl, e206⟩
      rw [e206]
      clear e206 r205
      refine g_if_eq rfl (fun c62 => ?_) (fun c62 => ?_)
      · skip
        refine g_iload rfl rfl ?_
        refine g_istore (l1 := [(4, aI (lcmp P.1 0)), (5, aI 2), (3, aI ((p5 : Int))), (0, aO (some o)), (1, aO (some aP)), (2, aI 0)]) rfl rfl ?_
        refine g_iinc (l1 := [(5, aI 3), (4, aI (lcmp P.1 0)), (3, aI ((p5 : Int))), (0, aO (some o)), (1, aO (some aP)), (2, aI 0)]) rfl rfl (by omega) (by omega) rfl ?_
        refine g_goto rfl ?_
        refine g_iload rfl rfl ?_
        refine g_iconst rfl ?_
        refine g_icmp_ge_t rfl (by omega) ?_
        refine g_iconst rfl ?_
        refine g_istore (l1 := [(5, aI 0), (4, aI (lcmp P.1 0)), (3, aI ((p5 : Int))), (0, aO (some o)), (1, aO (some aP)), (2, aI 0)]) rfl rfl ?_
        refine g_iload rfl rfl ?_
        refine g_iconst rfl ?_
        refine g_icmp_ge_f rfl (by omega) ?_
        refine g_aload_n rfl rfl ?_
        refine g_iload rfl rfl ?_
        refine g_aload_n rfl rfl ?_
        refine g_aload_n rfl rfl ?_
        refine g_iload rfl rfl ?_
        refine g_iald (i := 0) rfl (ms.slot hP) (by omega) (by omega) ?_
        refine g_top (v2 := aI ((Pp : Int))) (congrArg aI (by exact (g5.sa hP (g3.sa hP (g1.sa hP sP))).1)) ?_
        refine g_iload_n rfl rfl ?_
        refine g_callVI [aI ((Pp : Int)), aI ((p5 : Int))] [aI 0, aO (some aP)] rfl rfl rfl rfl (Nat.le_of_ble_eq_true rfl) ms.1 (r_div (by omega) ms V5 (by have := G_6.2.2.1; omega) (g5.rb (g3.rb (g1.rb xPp))) xp5 (by intro h0; have q4 := g4_0 h0; omega) (by omega) (by omega)) ?_
        rintro _ _ ⟨p207, rfl, V207, rfl, g207, xp207⟩
        have G_208 := G_6.trans (g207.gs _)
        refine g_iast (i := 0) rfl (ms.slot hP) (by omega) (by omega) ?_
        obtain ⟨V209, eV209⟩ : ∃ W, W = vset V207 aP 0 (p207 : Int) := ⟨_, rfl⟩
        refine g_hp (h2 := hw h V209) (by rw [eV209]; rfl) ?_
        have g209 : Gs V207 V209 o 0 (fun q => q = aP) := by rw [eV209]; exact Gs.cell hP
        have s209 : SA V209 aP p207 Pq Pr Ps := by rw [eV209]; exact SA.c0 (g207.sa hP (g5.sa hP (g3.sa hP (g1.sa hP sP)))) p207
        have G_210 := G_208.trans (g209.wide (fun q hq => by have hq : q = aP := hq; show q = aP; omega))
        refine g_aload_n rfl rfl ?_
        refine g_iload rfl rfl ?_
        refine g_iload rfl rfl ?_
        refine g_if_ge rfl (fun c113 => ?_) (fun c113 => ?_)
        · skip
          refine g_aload_n rfl rfl ?_
          refine g_iload rfl rfl ?_
          refine g_iald (i := 0) rfl (ms.slot hP) (by omega) (by omega) ?_
          refine g_top (v2 := aI ((p207 : Int))) (congrArg aI (by exact s209.1)) ?_
          refine g_iast (i := 0) rfl (ms.slot hP) (by omega) (by omega) ?_
          obtain ⟨V211, eV211⟩ : ∃ W, W = vset V209 aP 0 (p207 : Int) := ⟨_, rfl⟩
          refine g_hp (h2 := hw h V211) (by rw [eV211]; rfl) ?_
          have g211 : Gs V209 V211 o 0 (fun q => q = aP) := by rw [eV211]; exact Gs.cell hP
          have s211 : SA V211 aP p207 Pq Pr Ps := by rw [eV211]; exact SA.c0 s209 p207
          have G_212 := G_210.trans (g211.wide (fun q hq => by have hq : q = aP := hq; show q = aP; omega))
          refine g_iinc (l1 := [(5, aI 1), (4, aI (lcmp P.1 0)), (3, aI ((p5 : Int))), (0, aO (some o)), (1, aO (some aP)), (2, aI 0)]) rfl rfl (by omega) (by omega) rfl ?_
          refine g_goto rfl ?_
          refine g_iload rfl rfl ?_
          refine g_iconst rfl ?_
          refine g_icmp_ge_f rfl (by omega) ?_
          refine g_aload_n rfl rfl ?_
          refine g_iload rfl rfl ?_
          refine g_aload_n rfl rfl ?_
          refine g_aload_n rfl rfl ?_
          refine g_iload rfl rfl ?_
          refine g_iald (i := 1) rfl (ms.slot hP) (by omega) (by omega) ?_
          refine g_top (v2 := aI ((Pq : Int))) (congrArg aI (by exact s211.2.1)) ?_
          refine g_iload_n rfl rfl ?_
          refine g_callVI [aI ((Pq : Int)), aI ((p5 : Int))] [aI 1, aO (some aP)] rfl rfl rfl rfl (Nat.le_of_ble_eq_true rfl) ms.1 (r_div (by omega) ms V211 (by have := G_212.2.2.1; omega) (g211.rb (g209.rb (g207.rb (g5.rb (g3.rb (g1.rb xPq)))))) (g211.rb (g209.rb (g207.rb xp5))) (by intro h0; have q4 := g4_0 h0; omega) (by omega) (by omega)) ?_
          rintro _ _ ⟨p213, rfl, V213, rfl, g213, xp213⟩
          have G_214 := G_212.trans (g213.gs _)
          refine g_iast (i := 1) rfl (ms.slot hP) (by omega) (by omega) ?_
          obtain ⟨V215, eV215⟩ : ∃ W, W = vset V213 aP 1 (p213 : Int) := ⟨_, rfl⟩
          refine g_hp (h2 := hw h V215) (by rw [eV215]; rfl) ?_
          have g215 : Gs V213 V215 o 0 (fun q => q = aP) := by rw [eV215]; exact Gs.cell hP
          have s215 : SA V215 aP p207 p213 Pr Ps := by rw [eV215]; exact SA.c1 (g213.sa hP s211) p213
          have G_216 := G_214.trans (g215.wide (fun q hq => by have hq : q = aP := hq; show q = aP; omega))
          refine g_aload_n rfl rfl ?_
          refine g_iload rfl rfl ?_
          refine g_iload rfl rfl ?_
          refine g_if_ge_t rfl (by omega) ?_
          refine g_aload_n rfl rfl ?_
          refine g_iload rfl rfl ?_
          refine g_iald (i := 1) rfl (ms.slot hP) (by omega) (by omega) ?_
          refine g_top (v2 := aI ((p213 : Int))) (congrArg aI (by exact s215.2.1)) ?_
          refine g_iast (i := 1) rfl (ms.slot hP) (by omega) (by omega) ?_
          obtain ⟨V217, eV217⟩ : ∃ W, W = vset V215 aP 1 (p213 : Int) := ⟨_, rfl⟩
          refine g_hp (h2 := hw h V217) (by rw [eV217]; rfl) ?_
          have g217 : Gs V215 V217 o 0 (fun q => q = aP) := by rw [eV217]; exact Gs.cell hP
          have s217 : SA V217 aP p207 p213 Pr Ps := by rw [eV217]; exact SA.c1 s215 p213
          have G_218 := G_216.trans (g217.wide (fun q hq => by have hq : q = aP := hq; show q = aP; omega))
          refine g_iinc (l1 := [(5, aI 2), (4, aI (lcmp P.1 0)), (3, aI ((p5 : Int))), (0, aO (some o)), (1, aO (some aP)), (2, aI 0)]) rfl rfl (by omega) (by omega) rfl ?_
          refine g_goto rfl ?_
          refine g_iload rfl rfl ?_
          refine g_iconst rfl ?_
          refine g_icmp_ge_f rfl (by omega) ?_
          refine g_aload_n rfl rfl ?_
          refine g_iload rfl rfl ?_
          refine g_aload_n rfl rfl ?_
          refine g_aload_n rfl rfl ?_
          refine g_iload rfl rfl ?_
          refine g_iald (i := 2) rfl (ms.slot hP) (by omega) (by omega) ?_
          refine g_top (v2 := aI ((Pr : Int))) (congrArg aI (by exact s217.2.2.1)) ?_
          refine g_iload_n rfl rfl ?_
          refine g_callVI [aI ((Pr : Int)), aI ((p5 : Int))] [aI 2, aO (some aP)] rfl rfl rfl rfl (Nat.le_of_ble_eq_true rfl) ms.1 (r_div (by omega) ms V217 (by have := G_218.2.2.1; omega) (g217.rb (g215.rb (g213.rb (g211.rb (g209.rb (g207.rb (g5.rb (g3.rb (g1.rb xPr))))))))) (g217.rb (g215.rb (g213.rb (g211.rb (g209.rb (g207.rb xp5)))))) (by intro h0; have q4 := g4_0 h0; omega) (by omega) (by omega)) ?_
          rintro _ _ ⟨p219, rfl, V219, rfl, g219, xp219⟩
          have G_220 := G_218.trans (g219.gs _)
          refine g_iast (i := 2) rfl (ms.slot hP) (by omega) (by omega) ?_
          obtain ⟨V221, eV221⟩ : ∃ W, W = vset V219 aP 2 (p219 : Int) := ⟨_, rfl⟩
          refine g_hp (h2 := hw h V221) (by rw [eV221]; rfl) ?_
          have g221 : Gs V219 V221 o 0 (fun q => q = aP) := by rw [eV221]; exact Gs.cell hP
          have s221 : SA V221 aP p207 p213 p219 Ps := by rw [eV221]; exact SA.c2 (g219.sa hP s217) p219
          have G_222 := G_220.trans (g221.wide (fun q hq => by have hq : q = aP := hq; show q = aP; omega))
          refine g_aload_n rfl rfl ?_
          refine g_iload rfl rfl ?_
          refine g_iload rfl rfl ?_
          refine g_if_ge_t rfl (by omega) ?_
          refine g_aload_n rfl rfl ?_
          refine g_iload rfl rfl ?_
          refine g_iald (i := 2) rfl (ms.slot hP) (by omega) (by omega) ?_
          refine g_top (v2 := aI ((p219 : Int))) (congrArg aI (by exact s221.2.2.1)) ?_
          refine g_iast (i := 2) rfl (ms.slot hP) (by omega) (by omega) ?_
          obtain ⟨V223, eV223⟩ : ∃ W, W = vset V221 aP 2 (p219 : Int) := ⟨_, rfl⟩
          refine g_hp (h2 := hw h V223) (by rw [eV223]; rfl) ?_
          have g223 : Gs V221 V223 o 0 (fun q => q = aP) := by rw [eV223]; exact Gs.cell hP
          have s223 : SA V223 aP p207 p213 p219 Ps := by rw [eV223]; exact SA.c2 s221 p219
          have G_224 := G_222.trans (g223.wide (fun q hq => by have hq : q = aP := hq; show q = aP; omega))
          refine g_iinc (l1 := [(5, aI 3), (4, aI (lcmp P.1 0)), (3, aI ((p5 : Int))), (0, aO (some o)), (1, aO (some aP)), (2, aI 0)]) rfl rfl (by omega) (by omega) rfl ?_
          refine g_goto rfl ?_
          refine g_iload rfl rfl ?_
          refine g_iconst rfl ?_
          refine g_icmp_ge_f rfl (by omega) ?_
          refine g_aload_n rfl rfl ?_
          refine g_iload rfl rfl ?_
          refine g_aload_n rfl rfl ?_
          refine g_aload_n rfl rfl ?_
          refine g_iload rfl rfl ?_
          refine g_iald (i := 3) rfl (ms.slot hP) (by omega) (by omega) ?_
          refine g_top (v2 := aI ((Ps : Int))) (congrArg aI (by exact s223.2.2.2)) ?_
          refine g_iload_n rfl rfl ?_
          refine g_callVI [aI ((Ps : Int)), aI ((p5 : Int))] [aI 3, aO (some aP)] rfl rfl rfl rfl (Nat.le_of_ble_eq_true rfl) ms.1 (r_div (by omega) ms V223 (by have := G_224.2.2.1; omega) (g223.rb (g221.rb (g219.rb (g217.rb (g215.rb (g213.rb (g211.rb (g209.rb (g207.rb (g5.rb (g3.rb (g1.rb xPs)))))))))))) (g223.rb (g221.rb (g219.rb (g217.rb (g215.rb (g213.rb (g211.rb (g209.rb (g207.rb xp5))))))))) (by intro h0; have q4 := g4_0 h0; omega) (by omega) (by omega)) ?_
          rintro _ _ ⟨p225, rfl, V225, rfl, g225, xp225⟩
          have G_226 := G_224.trans (g225.gs _)
          refine g_iast (i := 3) rfl (ms.slot hP) (by omega) (by omega) ?_
          obtain ⟨V227, eV227⟩ : ∃ W, W = vset V225 aP 3 (p225 : Int) := ⟨_, rfl⟩
          refine g_hp (h2 := hw h V227) (by rw [eV227]; rfl) ?_
          have g227 : Gs V225 V227 o 0 (fun q => q = aP) := by rw [eV227]; exact Gs.cell hP
          have s227 : SA V227 aP p207 p213 p219 p225 := by rw [eV227]; exact SA.c3 (g225.sa hP s223) p225
          have G_228 := G_226.trans (g227.wide (fun q hq => by have hq : q = aP := hq; show q = aP; omega))
          refine g_aload_n rfl rfl ?_
          refine g_iload rfl rfl ?_
          refine g_iload rfl rfl ?_
          refine g_if_ge_t rfl (by omega) ?_
          refine g_aload_n rfl rfl ?_
          refine g_iload rfl rfl ?_
          refine g_iald (i := 3) rfl (ms.slot hP) (by omega) (by omega) ?_
          refine g_top (v2 := aI ((p225 : Int))) (congrArg aI (by exact s227.2.2.2)) ?_
          refine g_iast (i := 3) rfl (ms.slot hP) (by omega) (by omega) ?_
          obtain ⟨V229, eV229⟩ : ∃ W, W = vset V227 aP 3 (p225 : Int) := ⟨_, rfl⟩
          refine g_hp (h2 := hw h V229) (by rw [eV229]; rfl) ?_
          have g229 : Gs V227 V229 o 0 (fun q => q = aP) := by rw [eV229]; exact Gs.cell hP
          have s229 : SA V229 aP p207 p213 p219 p225 := by rw [eV229]; exact SA.c3 s227 p225
          have G_230 := G_228.trans (g229.wide (fun q hq => by have hq : q = aP := hq; show q = aP; omega))
          refine g_iinc (l1 := [(5, aI 4), (4, aI (lcmp P.1 0)), (3, aI ((p5 : Int))), (0, aO (some o)), (1, aO (some aP)), (2, aI 0)]) rfl rfl (by omega) (by omega) rfl ?_
          refine g_goto rfl ?_
          refine g_iload rfl rfl ?_
          refine g_iconst rfl ?_
          refine g_icmp_ge_t rfl (by omega) ?_
          refine g_vret rfl ?_
          refine ⟨V229, rfl, G_230.mono (by omega), ?_⟩
          have l0 := @lcmp_0 P.1 0
          have m0 := @lcmp_lt P.1 0
          have n0 := @lcmp_gt P.1 0
          have l1 := @lcmp_0 P.2.1 0
          have m1 := @lcmp_lt P.2.1 0
          have n1 := @lcmp_gt P.2.1 0
          have l2 := @lcmp_0 P.2.2.1 0
          have m2 := @lcmp_lt P.2.2.1 0
          have n2 := @lcmp_gt P.2.2.1 0
          unfold m_low
          first
            | (rw [if_pos (by omega)]; unfold set_up)
            | (rw [if_neg (by omega)]; unfold set_dn)
          exact ⟨_, _, _, _, s229, ((g229.rb (g227.rb (g225.rb (g223.rb (g221.rb (g219.rb (g217.rb (g215.rb (g213.rb (g211.rb (g209.rb xp207))))))))))).up (by omega)), ((g229.rb (g227.rb (g225.rb (g223.rb (g221.rb (g219.rb (g217.rb (g215.rb xp213)))))))).up (by omega)), ((g229.rb (g227.rb (g225.rb (g223.rb (g221.rb xp219))))).up (by omega)), ((g229.rb (g227.rb xp225)).up (by omega))⟩
        · skip
          refine g_aload_n rfl rfl ?_
          refine g_aload_n rfl rfl ?_
          refine g_iload rfl rfl ?_
          refine g_iald (i := 0) rfl (ms.slot hP) (by omega) (by omega) ?_
          refine g_top (v2 := aI ((p207 : Int))) (congrArg aI (by exact s209.1)) ?_
          refine g_callVI [aI ((p207 : Int))] [aI 0, aO (some aP)] rfl rfl rfl rfl (Nat.le_of_ble_eq_true rfl) ms.1 (r_neg (by omega) ms V209 (by have := G_210.2.2.1; omega) (g209.rb xp207) (by omega)) ?_
          rintro _ _ ⟨p231, rfl, V231, rfl, g231, xp231⟩
          have G_232 := G_210.trans (g231.gs _)
          refine g_goto rfl ?_
          refine g_iast (i := 0) rfl (ms.slot hP) (by omega) (by omega) ?_
          obtain ⟨V233, eV233⟩ : ∃ W, W = vset V231 aP 0 (p231 : Int) := ⟨_, rfl⟩
          refine g_hp (h2 := hw h V233) (by rw [eV233]; rfl) ?_
          have g233 : Gs V231 V233 o 0 (fun q => q = aP) := by rw [eV233]; exact Gs.cell hP
          have s233 : SA V233 aP p231 Pq Pr Ps := by rw [eV233]; exact SA.c0 (g231.sa hP s209) p231
          have G_234 := G_232.trans (g233.wide (fun q hq => by have hq : q = aP := hq; show q = aP; omega))
          refine g_iinc (l1 := [(5, aI 1), (4, aI (lcmp P.1 0)), (3, aI ((p5 : Int))), (0, aO (some o)), (1, aO (some aP)), (2, aI 0)]) rfl rfl (by omega) (by omega) rfl ?_
          refine g_goto rfl ?_
          refine g_iload rfl rfl ?_
          refine g_iconst rfl ?_
          refine g_icmp_ge_f rfl (by omega) ?_
          refine g_aload_n rfl rfl ?_
          refine g_iload rfl rfl ?_
          refine g_aload_n rfl rfl ?_
          refine g_aload_n rfl rfl ?_
          refine g_iload rfl rfl ?_
          refine g_iald (i := 1) rfl (ms.slot hP) (by omega) (by omega) ?_
          refine g_top (v2 := aI ((Pq : Int))) (congrArg aI (by exact s233.2.1)) ?_
          refine g_iload_n rfl rfl ?_
          refine g_callVI [aI ((Pq : Int)), aI ((p5 : Int))] [aI 1, aO (some aP)] rfl rfl rfl rfl (Nat.le_of_ble_eq_true rfl) ms.1 (r_div (by omega) ms V233 (by have := G_234.2.2.1; omega) (g233.rb (g231.rb (g209.rb (g207.rb (g5.rb (g3.rb (g1.rb xPq))))))) (g233.rb (g231.rb (g209.rb (g207.rb xp5)))) (by intro h0; have q4 := g4_0 h0; omega) (by omega) (by omega)) ?_
          rintro _ _ ⟨p235, rfl, V235, rfl, g235, xp235⟩
          have G_236 := G_234.trans (g235.gs _)
          refine g_iast (i := 1) rfl (ms.slot hP) (by omega) (by omega) ?_
          obtain ⟨V237, eV237⟩ : ∃ W, W = vset V235 aP 1 (p235 : Int) := ⟨_, rfl⟩
          refine g_hp (h2 := hw h V237) (by rw [eV237]; rfl) ?_
          have g237 : Gs V235 V237 o 0 (fun q => q = aP) := by rw [eV237]; exact Gs.cell hP
          have s237 : SA V237 aP p231 p235 Pr Ps := by rw [eV237]; exact SA.c1 (g235.sa hP s233) p235
          have G_238 := G_236.trans (g237.wide (fun q hq => by have hq : q = aP := hq; show q = aP; omega))
          refine g_aload_n rfl rfl ?_
          refine g_iload rfl rfl ?_
          refine g_iload rfl rfl ?_
          refine g_if_ge_f rfl (by omega) ?_
          refine g_aload_n rfl rfl ?_
          refine g_aload_n rfl rfl ?_
          refine g_iload rfl rfl ?_
          refine g_iald (i := 1) rfl (ms.slot hP) (by omega) (by omega) ?_
          refine g_top (v2 := aI ((p235 : Int))) (congrArg aI (by exact s237.2.1)) ?_
          refine g_callVI [aI ((p235 : Int))] [aI 1, aO (some aP)] rfl rfl rfl rfl (Nat.le_of_ble_eq_true rfl) ms.1 (r_neg (by omega) ms V237 (by have := G_238.2.2.1; omega) (g237.rb xp235) (by omega)) ?_
          rintro _ _ ⟨p239, rfl, V239, rfl, g239, xp239⟩
          have G_240 := G_238.trans (g239.gs _)
          refine g_goto rfl ?_
          refine g_iast (i := 1) rfl (ms.slot hP) (by omega) (by omega) ?_
          obtain ⟨V241, eV241⟩ : ∃ W, W = vset V239 aP 1 (p239 : Int) := ⟨_, rfl⟩
          refine g_hp (h2 := hw h V241) (by rw [eV241]; rfl) ?_
          have g241 : Gs V239 V241 o 0 (fun q => q = aP) := by rw [eV241]; exact Gs.cell hP
          have s241 : SA V241 aP p231 p239 Pr Ps := by rw [eV241]; exact SA.c1 (g239.sa hP s237) p239
          have G_242 := G_240.trans (g241.wide (fun q hq => by have hq : q = aP := hq; show q = aP; omega))
          refine g_iinc (l1 := [(5, aI 2), (4, aI (lcmp P.1 0)), (3, aI ((p5 : Int))), (0, aO (some o)), (1, aO (some aP)), (2, aI 0)]) rfl rfl (by omega) (by omega) rfl ?_
          refine g_goto rfl ?_
          refine g_iload rfl rfl ?_
          refine g_iconst rfl ?_
          refine g_icmp_ge_f rfl (by omega) ?_
          refine g_aload_n rfl rfl ?_
          refine g_iload rfl rfl ?_
          refine g_aload_n rfl rfl ?_
          refine g_aload_n rfl rfl ?_
          refine g_iload rfl rfl ?_
          refine g_iald (i := 2) rfl (ms.slot hP) (by omega) (by omega) ?_
          refine g_top (v2 := aI ((Pr : Int))) (congrArg aI (by exact s241.2.2.1)) ?_
          refine g_iload_n rfl rfl ?_
          refine g_callVI [aI ((Pr : Int)), aI ((p5 : Int))] [aI 2, aO (some aP)] rfl rfl rfl rfl (Nat.le_of_ble_eq_true rfl) ms.1 (r_div (by omega) ms V241 (by have := G_242.2.2.1; omega) (g241.rb (g239.rb (g237.rb (g235.rb (g233.rb (g231.rb (g209.rb (g207.rb (g5.rb (g3.rb (g1.rb xPr))))))))))) (g241.rb (g239.rb (g237.rb (g235.rb (g233.rb (g231.rb (g209.rb (g207.rb xp5)))))))) (by intro h0; have q4 := g4_0 h0; omega) (by omega) (by omega)) ?_
          rintro _ _ ⟨p243, rfl, V243, rfl, g243, xp243⟩
          have G_244 := G_242.trans (g243.gs _)
          refine g_iast (i := 2) rfl (ms.slot hP) (by omega) (by omega) ?_
          obtain ⟨V245, eV245⟩ : ∃ W, W = vset V243 aP 2 (p243 : Int) := ⟨_, rfl⟩
          refine g_hp (h2 := hw h V245) (by rw [eV245]; rfl) ?_
          have g245 : Gs V243 V245 o 0 (fun q => q = aP) := by rw [eV245]; exact Gs.cell hP
          have s245 : SA V245 aP p231 p239 p243 Ps := by rw [eV245]; exact SA.c2 (g243.sa hP s241) p243
          have G_246 := G_244.trans (g245.wide (fun q hq => by have hq : q = aP := hq; show q = aP; omega))
          refine g_aload_n rfl rfl ?_
          refine g_iload rfl rfl ?_
          refine g_iload rfl rfl ?_
          refine g_if_ge_f rfl (by omega) ?_
          refine g_aload_n rfl rfl ?_
          refine g_aload_n rfl rfl ?_
          refine g_iload rfl rfl ?_
          refine g_iald (i := 2) rfl (ms.slot hP) (by omega) (by omega) ?_
          refine g_top (v2 := aI ((p243 : Int))) (congrArg aI (by exact s245.2.2.1)) ?_
          refine g_callVI [aI ((p243 : Int))] [aI 2, aO (some aP)] rfl rfl rfl rfl (Nat.le_of_ble_eq_true rfl) ms.1 (r_neg (by omega) ms V245 (by have := G_246.2.2.1; omega) (g245.rb xp243) (by omega)) ?_
          rintro _ _ ⟨p247, rfl, V247, rfl, g247, xp247⟩
          have G_248 := G_246.trans (g247.gs _)
          refine g_goto rfl ?_
          refine g_iast (i := 2) rfl (ms.slot hP) (by omega) (by omega) ?_
          obtain ⟨V249, eV249⟩ : ∃ W, W = vset V247 aP 2 (p247 : Int) := ⟨_, rfl⟩
          refine g_hp (h2 := hw h V249) (by rw [eV249]; rfl) ?_
          have g249 : Gs V247 V249 o 0 (fun q => q = aP) := by rw [eV249]; exact Gs.cell hP
          have s249 : SA V249 aP p231 p239 p247 Ps := by rw [eV249]; exact SA.c2 (g247.sa hP s245) p247
          have G_250 := G_248.trans (g249.wide (fun q hq => by have hq : q = aP := hq; show q = aP; omega))
          refine g_iinc (l1 := [(5, aI 3), (4, aI (lcmp P.1 0)), (3, aI ((p5 : Int))), (0, aO (some o)), (1, aO (some aP)), (2, aI 0)]) rfl rfl (by omega) (by omega) rfl ?_
          refine g_goto rfl ?_
          refine g_iload rfl rfl ?_
          refine g_iconst rfl ?_
          refine g_icmp_ge_f rfl (by omega) ?_
          refine g_aload_n rfl rfl ?_
          refine g_iload rfl rfl ?_
          refine g_aload_n rfl rfl ?_
          refine g_aload_n rfl rfl ?_
          refine g_iload rfl rfl ?_
          refine g_iald (i := 3) rfl (ms.slot hP) (by omega) (by omega) ?_
          refine g_top (v2 := aI ((Ps : Int))) (congrArg aI (by exact s249.2.2.2)) ?_
          refine g_iload_n rfl rfl ?_
          refine g_callVI [aI ((Ps : Int)), aI ((p5 : Int))] [aI 3, aO (some aP)] rfl rfl rfl rfl (Nat.le_of_ble_eq_true rfl) ms.1 (r_div (by omega) ms V249 (by have := G_250.2.2.1; omega) (g249.rb (g247.rb (g245.rb (g243.rb (g241.rb (g239.rb (g237.rb (g235.rb (g233.rb (g231.rb (g209.rb (g207.rb (g5.rb (g3.rb (g1.rb xPs))))))))))))))) (g249.rb (g247.rb (g245.rb (g243.rb (g241.rb (g239.rb (g237.rb (g235.rb (g233.rb (g231.rb (g209.rb (g207.rb xp5)))))))))))) (by intro h0; have q4 := g4_0 h0; omega) (by omega) (by omega)) ?_
          rintro _ _ ⟨p251, rfl, V251, rfl, g251, xp251⟩
          have G_252 := G_250.trans (g251.gs _)
          refine g_iast (i := 3) rfl (ms.slot hP) (by omega) (by omega) ?_
          obtain ⟨V253, eV253⟩ : ∃ W, W = vset V251 aP 3 (p251 : Int) := ⟨_, rfl⟩
          refine g_hp (h2 := hw h V253) (by rw [eV253]; rfl) ?_
          have g253 : Gs V251 V253 o 0 (fun q => q = aP) := by rw [eV253]; exact Gs.cell hP
          have s253 : SA V253 aP p231 p239 p247 p251 := by rw [eV253]; exact SA.c3 (g251.sa hP s249) p251
          have G_254 := G_252.trans (g253.wide (fun q hq => by have hq : q = aP := hq; show q = aP; omega))
          refine g_aload_n rfl rfl ?_
          refine g_iload rfl rfl ?_
          refine g_iload rfl rfl ?_
          refine g_if_ge_f rfl (by omega) ?_
          refine g_aload_n rfl rfl ?_
          refine g_aload_n rfl rfl ?_
          refine g_iload rfl rfl ?_
          refine g_iald (i := 3) rfl (ms.slot hP) (by omega) (by omega) ?_
          refine g_top (v2 := aI ((p251 : Int))) (congrArg aI (by exact s253.2.2.2)) ?_
          refine g_callVI [aI ((p251 : Int))] [aI 3, aO (some aP)] rfl rfl rfl rfl (Nat.le_of_ble_eq_true rfl) ms.1 (r_neg (by omega) ms V253 (by have := G_254.2.2.1; omega) (g253.rb xp251) (by omega)) ?_
          rintro _ _ ⟨p255, rfl, V255, rfl, g255, xp255⟩
          have G_256 := G_254.trans (g255.gs _)
          refine g_goto rfl ?_
          refine g_iast (i := 3) rfl (ms.slot hP) (by omega) (by omega) ?_
          obtain ⟨V257, eV257⟩ : ∃ W, W = vset V255 aP 3 (p255 : Int) := ⟨_, rfl⟩
          refine g_hp (h2 := hw h V257) (by rw [eV257]; rfl) ?_
          have g257 : Gs V255 V257 o 0 (fun q => q = aP) := by rw [eV257]; exact Gs.cell hP
          have s257 : SA V257 aP p231 p239 p247 p255 := by rw [eV257]; exact SA.c3 (g255.sa hP s253) p255
          have G_258 := G_256.trans (g257.wide (fun q hq => by have hq : q = aP := hq; show q = aP; omega))
          refine g_iinc (l1 := [(5, aI 4), (4, aI (lcmp P.1 0)), (3, aI ((p5 : Int))), (0, aO (some o)), (1, aO (some aP)), (2, aI 0)]) rfl rfl (by omega) (by omega) rfl ?_
          refine g_goto rfl ?_
          refine g_iload rfl rfl ?_
          refine g_iconst rfl ?_
          refine g_icmp_ge_t rfl (by omega) ?_
          refine g_vret rfl ?_
          refine ⟨V257, rfl, G_258.mono (by omega), ?_⟩
          have l0 := @lcmp_0 P.1 0
          have m0 := @lcmp_lt P.1 0
          have n0 := @lcmp_gt P.1 0
          have l1 := @lcmp_0 P.2.1 0
          have m1 := @lcmp_lt P.2.1 0
          have n1 := @lcmp_gt P.2.1 0
          have l2 := @lcmp_0 P.2.2.1 0
          have m2 := @lcmp_lt P.2.2.1 0
          have n2 := @lcmp_gt P.2.2.1 0
          unfold m_low
          first
            | (rw [if_pos (by omega)]; unfold set_up)
            | (rw [if_neg (by omega)]; unfold set_dn)
          exact ⟨_, _, _, _, s257, ((g257.rb (g255.rb (g253.rb (g251.rb (g249.rb (g247.rb (g245.rb (g243.rb (g241.rb (g239.rb (g237.rb (g235.rb (g233.rb xp231))))))))))))).up (by omega)), ((g257.rb (g255.rb (g253.rb (g251.rb (g249.rb (g247.rb (g245.rb (g243.rb (g241.rb xp239))))))))).up (by omega)), ((g257.rb (g255.rb (g253.rb (g251.rb (g249.rb xp247))))).up (by omega)), ((g257.rb xp255).up (by omega))⟩
      · skip
        refine g_aload_n rfl rfl ?_
        refine g_aload_n rfl rfl ?_
        refine g_iload rfl rfl ?_
        refine g_iald (i := 2) rfl (ms.slot hP) (by omega) (by omega) ?_
        refine g_top (v2 := aI ((Pr : Int))) (congrArg aI (by exact (g5.sa hP (g3.sa hP (g1.sa hP sP))).2.2.1)) ?_
        refine g_callVI [aI ((Pr : Int))] [] rfl rfl rfl rfl (Nat.le_of_ble_eq_true rfl) ms.1 (r_sign (by omega) ms V5 (g5.rb (g3.rb (g1.rb xPr)))) ?_
        rintro r259 _ ⟨rfl, e260⟩
        rw [e260]
        clear e260 r259
        refine g_goto rfl ?_
        refine g_istore (l1 := [(4, aI (lcmp P.2.2.1 0)), (5, aI 2), (3, aI ((p5 : Int))), (0, aO (some o)), (1, aO (some aP)), (2, aI 0)]) rfl rfl ?_
        refine g_iinc (l1 := [(5, aI 3), (4, aI (lcmp P.2.2.1 0)), (3, aI ((p5 : Int))), (0, aO (some o)), (1, aO (some aP)), (2, aI 0)]) rfl rfl (by omega) (by omega) rfl ?_
        refine g_goto rfl ?_
        refine g_iload rfl rfl ?_
        refine g_iconst rfl ?_
        refine g_icmp_ge_t rfl (by omega) ?_
        refine g_iconst rfl ?_
        refine g_istore (l1 := [(5, aI 0), (4, aI (lcmp P.2.2.1 0)), (3, aI ((p5 : Int))), (0, aO (some o)), (1, aO (some aP)), (2, aI 0)]) rfl rfl ?_
        refine g_iload rfl rfl ?_
        refine g_iconst rfl ?_
        refine g_icmp_ge_f rfl (by omega) ?_
        refine g_aload_n rfl rfl ?_
        refine g_iload rfl rfl ?_
        refine g_aload_n rfl rfl ?_
        refine g_aload_n rfl rfl ?_
        refine g_iload rfl rfl ?_
        refine g_iald (i := 0) rfl (ms.slot hP) (by omega) (by omega) ?_
        refine g_top (v2 := aI ((Pp : Int))) (congrArg aI (by exact (g5.sa hP (g3.sa hP (g1.sa hP sP))).1)) ?_
        refine g_iload_n rfl rfl ?_
        refine g_callVI [aI ((Pp : Int)), aI ((p5 : Int))] [aI 0, aO (some aP)] rfl rfl rfl rfl (Nat.le_of_ble_eq_true rfl) ms.1 (r_div (by omega) ms V5 (by have := G_6.2.2.1; omega) (g5.rb (g3.rb (g1.rb xPp))) xp5 (by intro h0; have q4 := g4_0 h0; omega) (by omega) (by omega)) ?_
        rintro _ _ ⟨p261, rfl, V261, rfl, g261, xp261⟩
        have G_262 := G_6.trans (g261.gs _)
        refine g_iast (i := 0) rfl (ms.slot hP) (by omega) (by omega) ?_
        obtain ⟨V263, eV263⟩ : ∃ W, W = vset V261 aP 0 (p261 : Int) := ⟨_, rfl⟩
        refine g_hp (h2 := hw h V263) (by rw [eV263]; rfl) ?_
        have g263 : Gs V261 V263 o 0 (fun q => q = aP) := by rw [eV263]; exact Gs.cell hP
        have s263 : SA V263 aP p261 Pq Pr Ps := by rw [eV263]; exact SA.c0 (g261.sa hP (g5.sa hP (g3.sa hP (g1.sa hP sP)))) p261
        have G_264 := G_262.trans (g263.wide (fun q hq => by have hq : q = aP := hq; show q = aP; omega))
        refine g_aload_n rfl rfl ?_
        refine g_iload rfl rfl ?_
        refine g_iload rfl rfl ?_
        refine g_if_ge rfl (fun c113 => ?_) (fun c113 => ?_)
        · skip
          refine g_aload_n rfl rfl ?_
          refine g_iload rfl rfl ?_
          refine g_iald (i := 0) rfl (ms.slot hP) (by omega) (by omega) ?_
          refine g_top (v2 := aI ((p261 : Int))) (congrArg aI (by exact s263.1)) ?_
          refine g_iast (i := 0) rfl (ms.slot hP) (by omega) (by omega) ?_
          obtain ⟨V265, eV265⟩ : ∃ W, W = vset V263 aP 0 (p261 : Int) := ⟨_, rfl⟩
          refine g_hp (h2 := hw h V265) (by rw [eV265]; rfl) ?_
          have g265 : Gs V263 V265 o 0 (fun q => q = aP) := by rw [eV265]; exact Gs.cell hP
          have s265 : SA V265 aP p261 Pq Pr Ps := by rw [eV265]; exact SA.c0 s263 p261
          have G_266 := G_264.trans (g265.wide (fun q hq => by have hq : q = aP := hq; show q = aP; omega))
          refine g_iinc (l1 := [(5, aI 1), (4, aI (lcmp P.2.2.1 0)), (3, aI ((p5 : Int))), (0, aO (some o)), (1, aO (some aP)), (2, aI 0)]) rfl rfl (by omega) (by omega) rfl ?_
          refine g_goto rfl ?_
          refine g_iload rfl rfl ?_
          refine g_iconst rfl ?_
          refine g_icmp_ge_f rfl (by omega) ?_
          refine g_aload_n rfl rfl ?_
          refine g_iload rfl rfl ?_
          refine g_aload_n rfl rfl ?_
          refine g_aload_n rfl rfl ?_
          refine g_iload rfl rfl ?_
          refine g_iald (i := 1) rfl (ms.slot hP) (by omega) (by omega) ?_
          refine g_top (v2 := aI ((Pq : Int))) (congrArg aI (by exact s265.2.1)) ?_
          refine g_iload_n rfl rfl ?_
          refine g_callVI [aI ((Pq : Int)), aI ((p5 : Int))] [aI 1, aO (some aP)] rfl rfl rfl rfl (Nat.le_of_ble_eq_true rfl) ms.1 (r_div (by omega) ms V265 (by have := G_266.2.2.1; omega) (g265.rb (g263.rb (g261.rb (g5.rb (g3.rb (g1.rb xPq)))))) (g265.rb (g263.rb (g261.rb xp5))) (by intro h0; have q4 := g4_0 h0; omega) (by omega) (by omega)) ?_
          rintro _ _ ⟨p267, rfl, V267, rfl, g267, xp267⟩
          have G_268 := G_266.trans (g267.gs _)
          refine g_iast (i := 1) rfl (ms.slot hP) (by omega) (by omega) ?_
          obtain ⟨V269, eV269⟩ : ∃ W, W = vset V267 aP 1 (p267 : Int) := ⟨_, rfl⟩
          refine g_hp (h2 := hw h V269) (by rw [eV269]; rfl) ?_
          have g269 : Gs V267 V269 o 0 (fun q => q = aP) := by rw [eV269]; exact Gs.cell hP
          have s269 : SA V269 aP p261 p267 Pr Ps := by rw [eV269]; exact SA.c1 (g267.sa hP s265) p267
          have G_270 := G_268.trans (g269.wide (fun q hq => by have hq : q = aP := hq; show q = aP; omega))
          refine g_aload_n rfl rfl ?_
          refine g_iload rfl rfl ?_
          refine g_iload rfl rfl ?_
          refine g_if_ge_t rfl (by omega) ?_
          refine g_aload_n rfl rfl ?_
          refine g_iload rfl rfl ?_
          refine g_iald (i := 1) rfl (ms.slot hP) (by omega) (by omega) ?_
          refine g_top (v2 := aI ((p267 : Int))) (congrArg aI (by exact s269.2.1)) ?_
          refine g_iast (i := 1) rfl (ms.slot hP) (by omega) (by omega) ?_
          obtain ⟨V271, eV271⟩ : ∃ W, W = vset V269 aP 1 (p267 : Int) := ⟨_, rfl⟩
          refine g_hp (h2 := hw h V271) (by rw [eV271]; rfl) ?_
          have g271 : Gs V269 V271 o 0 (fun q => q = aP) := by rw [eV271]; exact Gs.cell hP
          have s271 : SA V271 aP p261 p267 Pr Ps := by rw [eV271]; exact SA.c1 s269 p267
          have G_272 := G_270.trans (g271.wide (fun q hq => by have hq : q = aP := hq; show q = aP; omega))
          refine g_iinc (l1 := [(5, aI 2), (4, aI (lcmp P.2.2.1 0)), (3, aI ((p5 : Int))), (0, aO (some o)), (1, aO (some aP)), (2, aI 0)]) rfl rfl (by omega) (by omega) rfl ?_
          refine g_goto rfl ?_
          refine g_iload rfl rfl ?_
          refine g_iconst rfl ?_
          refine g_icmp_ge_f rfl (by omega) ?_
          refine g_aload_n rfl rfl ?_
          refine g_iload rfl rfl ?_
          refine g_aload_n rfl rfl ?_
          refine g_aload_n rfl rfl ?_
          refine g_iload rfl rfl ?_
          refine g_iald (i := 2) rfl (ms.slot hP) (by omega) (by omega) ?_
          refine g_top (v2 := aI ((Pr : Int))) (congrArg aI (by exact s271.2.2.1)) ?_
          refine g_iload_n rfl rfl ?_
          refine g_callVI [aI ((Pr : Int)), aI ((p5 : Int))] [aI 2, aO (some aP)] rfl rfl rfl rfl (Nat.le_of_ble_eq_true rfl) ms.1 (r_div (by omega) ms V271 (by have := G_272.2.2.1; omega) (g271.rb (g269.rb (g267.rb (g265.rb (g263.rb (g261.rb (g5.rb (g3.rb (g1.rb xPr))))))))) (g271.rb (g269.rb (g267.rb (g265.rb (g263.rb (g261.rb xp5)))))) (by intro h0; have q4 := g4_0 h0; omega) (by omega) (by omega)) ?_
          rintro _ _ ⟨p273, rfl, V273, rfl, g273, xp273⟩
          have G_274 := G_272.trans (g273.gs _)
          refine g_iast (i := 2) rfl (ms.slot hP) (by omega) (by omega) ?_
          obtain ⟨V275, eV275⟩ : ∃ W, W = vset V273 aP 2 (p273 : Int) := ⟨_, rfl⟩
          refine g_hp (h2 := hw h V275) (by rw [eV275]; rfl) ?_
          have g275 : Gs V273 V275 o 0 (fun q => q = aP) := by rw [eV275]; exact Gs.cell hP
          have s275 : SA V275 aP p261 p267 p273 Ps := by rw [eV275]; exact SA.c2 (g273.sa hP s271) p273
          have G_276 := G_274.trans (g275.wide (fun q hq => by have hq : q = aP := hq; show q = aP; omega))
          refine g_aload_n rfl rfl ?_
          refine g_iload rfl rfl ?_
          refine g_iload rfl rfl ?_
          refine g_if_ge_t rfl (by omega) ?_
          refine g_aload_n rfl rfl ?_
          refine g_iload rfl rfl ?_
          refine g_iald (i := 2) rfl (ms.slot hP) (by omega) (by omega) ?_
          refine g_top (v2 := aI ((p273 : Int))) (congrArg aI (by exact s275.2.2.1)) ?_
          refine g_iast (i := 2) rfl (ms.slot hP) (by omega) (by omega) ?_
          obtain ⟨V277, eV277⟩ : ∃ W, W = vset V275 aP 2 (p273 : Int) := ⟨_, rfl⟩
          refine g_hp (h2 := hw h V277) (by rw [eV277]; rfl) ?_
          have g277 : Gs V275 V277 o 0 (fun q => q = aP) := by rw [eV277]; exact Gs.cell hP
          have s277 : SA V277 aP p261 p267 p273 Ps := by rw [eV277]; exact SA.c2 s275 p273
          have G_278 := G_276.trans (g277.wide (fun q hq => by have hq : q = aP := hq; show q = aP; omega))
          refine g_iinc (l1 := [(5, aI 3), (4, aI (lcmp P.2.2.1 0)), (3, aI ((p5 : Int))), (0, aO (some o)), (1, aO (some aP)), (2, aI 0)]) rfl rfl (by omega) (by omega) rfl ?_
          refine g_goto rfl ?_
          refine g_iload rfl rfl ?_
          refine g_iconst rfl ?_
          refine g_icmp_ge_f rfl (by omega) ?_
          refine g_aload_n rfl rfl ?_
          refine g_iload rfl rfl ?_
          refine g_aload_n rfl rfl ?_
          refine g_aload_n rfl rfl ?_
          refine g_iload rfl rfl ?_
          refine g_iald (i := 3) rfl (ms.slot hP) (by omega) (by omega) ?_
          refine g_top (v2 := aI ((Ps : Int))) (congrArg aI (by exact s277.2.2.2)) ?_
          refine g_iload_n rfl rfl ?_
          refine g_callVI [aI ((Ps : Int)), aI ((p5 : Int))] [aI 3, aO (some aP)] rfl rfl rfl rfl (Nat.le_of_ble_eq_true rfl) ms.1 (r_div (by omega) ms V277 (by have := G_278.2.2.1; omega) (g277.rb (g275.rb (g273.rb (g271.rb (g269.rb (g267.rb (g265.rb (g263.rb (g261.rb (g5.rb (g3.rb (g1.rb xPs)))))))))))) (g277.rb (g275.rb (g273.rb (g271.rb (g269.rb (g267.rb (g265.rb (g263.rb (g261.rb xp5))))))))) (by intro h0; have q4 := g4_0 h0; omega) (by omega) (by omega)) ?_
          rintro _ _ ⟨p279, rfl, V279, rfl, g279, xp279⟩
          have G_280 := G_278.trans (g279.gs _)
          refine g_iast (i := 3) rfl (ms.slot hP) (by omega) (by omega) ?_
          obtain ⟨V281, eV281⟩ : ∃ W, W = vset V279 aP 3 (p279 : Int) := ⟨_, rfl⟩
          refine g_hp (h2 := hw h V281) (by rw [eV281]; rfl) ?_
          have g281 : Gs V279 V281 o 0 (fun q => q = aP) := by rw [eV281]; exact Gs.cell hP
          have s281 : SA V281 aP p261 p267 p273 p279 := by rw [eV281]; exact SA.c3 (g279.sa hP s277) p279
          have G_282 := G_280.trans (g281.wide (fun q hq => by have hq : q = aP := hq; show q = aP; omega))
          refine g_aload_n rfl rfl ?_
          refine g_iload rfl rfl ?_
          refine g_iload rfl rfl ?_
          refine g_if_ge_t rfl (by omega) ?_
          refine g_aload_n rfl rfl ?_
          refine g_iload rfl rfl ?_
          refine g_iald (i := 3) rfl (ms.slot hP) (by omega) (by omega) ?_
          refine g_top (v2 := aI ((p279 : Int))) (congrArg aI (by exact s281.2.2.2)) ?_
          refine g_iast (i := 3) rfl (ms.slot hP) (by omega) (by omega) ?_
          obtain ⟨V283, eV283⟩ : ∃ W, W = vset V281 aP 3 (p279 : Int) := ⟨_, rfl⟩
          refine g_hp (h2 := hw h V283) (by rw [eV283]; rfl) ?_
          have g283 : Gs V281 V283 o 0 (fun q => q = aP) := by rw [eV283]; exact Gs.cell hP
          have s283 : SA V283 aP p261 p267 p273 p279 := by rw [eV283]; exact SA.c3 s281 p279
          have G_284 := G_282.trans (g283.wide (fun q hq => by have hq : q = aP := hq; show q = aP; omega))
          refine g_iinc (l1 := [(5, aI 4), (4, aI (lcmp P.2.2.1 0)), (3, aI ((p5 : Int))), (0, aO (some o)), (1, aO (some aP)), (2, aI 0)]) rfl rfl (by omega) (by omega) rfl ?_
          refine g_goto rfl ?_
          refine g_iload rfl rfl ?_
          refine g_iconst rfl ?_
          refine g_icmp_ge_t rfl (by omega) ?_
          refine g_vret rfl ?_
          refine ⟨V283, rfl, G_284.mono (by omega), ?_⟩
          have l0 := @lcmp_0 P.1 0
          have m0 := @lcmp_lt P.1 0
          have n0 := @lcmp_gt P.1 0
          have l1 := @lcmp_0 P.2.1 0
          have m1 := @lcmp_lt P.2.1 0
          have n1 := @lcmp_gt P.2.1 0
          have l2 := @lcmp_0 P.2.2.1 0
          have m2 := @lcmp_lt P.2.2.1 0
          have n2 := @lcmp_gt P.2.2.1 0
          unfold m_low
          first
            | (rw [if_pos (by omega)]; unfold set_up)
            | (rw [if_neg (by omega)]; unfold set_dn)
          exact ⟨_, _, _, _, s283, ((g283.rb (g281.rb (g279.rb (g277.rb (g275.rb (g273.rb (g271.rb (g269.rb (g267.rb (g265.rb (g263.rb xp261))))))))))).up (by omega)), ((g283.rb (g281.rb (g279.rb (g277.rb (g275.rb (g273.rb (g271.rb (g269.rb xp267)))))))).up (by omega)), ((g283.rb (g281.rb (g279.rb (g277.rb (g275.rb xp273))))).up (by omega)), ((g283.rb (g281.rb xp279)).up (by omega))⟩
        · skip
          refine g_aload_n rfl rfl ?_
          refine g_aload_n rfl rfl ?_
          refine g_iload rfl rfl ?_
          refine g_iald (i := 0) rfl (ms.slot hP) (by omega) (by omega) ?_
          refine g_top (v2 := aI ((p261 : Int))) (congrArg aI (by exact s263.1)) ?_
          refine g_callVI [aI ((p261 : Int))] [aI 0, aO (some aP)] rfl rfl rfl rfl (Nat.le_of_ble_eq_true rfl) ms.1 (r_neg (by omega) ms V263 (by have := G_264.2.2.1; omega) (g263.rb xp261) (by omega)) ?_
          rintro _ _ ⟨p285, rfl, V285, rfl, g285, xp285⟩
          have G_286 := G_264.trans (g285.gs _)
          refine g_goto rfl ?_
          refine g_iast (i := 0) rfl (ms.slot hP) (by omega) (by omega) ?_
          obtain ⟨V287, eV287⟩ : ∃ W, W = vset V285 aP 0 (p285 : Int) := ⟨_, rfl⟩
          refine g_hp (h2 := hw h V287) (by rw [eV287]; rfl) ?_
          have g287 : Gs V285 V287 o 0 (fun q => q = aP) := by rw [eV287]; exact Gs.cell hP
          have s287 : SA V287 aP p285 Pq Pr Ps := by rw [eV287]; exact SA.c0 (g285.sa hP s263) p285
          have G_288 := G_286.trans (g287.wide (fun q hq => by have hq : q = aP := hq; show q = aP; omega))
          refine g_iinc (l1 := [(5, aI 1), (4, aI (lcmp P.2.2.1 0)), (3, aI ((p5 : Int))), (0, aO (some o)), (1, aO (some aP)), (2, aI 0)]) rfl rfl (by omega) (by omega) rfl ?_
          refine g_goto rfl ?_
          refine g_iload rfl rfl ?_
          refine g_iconst rfl ?_
          refine g_icmp_ge_f rfl (by omega) ?_
          refine g_aload_n rfl rfl ?_
          refine g_iload rfl rfl ?_
          refine g_aload_n rfl rfl ?_
          refine g_aload_n rfl rfl ?_
          refine g_iload rfl rfl ?_
          refine g_iald (i := 1) rfl (ms.slot hP) (by omega) (by omega) ?_
          refine g_top (v2 := aI ((Pq : Int))) (congrArg aI (by exact s287.2.1)) ?_
          refine g_iload_n rfl rfl ?_
          refine g_callVI [aI ((Pq : Int)), aI ((p5 : Int))] [aI 1, aO (some aP)] rfl rfl rfl rfl (Nat.le_of_ble_eq_true rfl) ms.1 (r_div (by omega) ms V287 (by have := G_288.2.2.1; omega) (g287.rb (g285.rb (g263.rb (g261.rb (g5.rb (g3.rb (g1.rb xPq))))))) (g287.rb (g285.rb (g263.rb (g261.rb xp5)))) (by intro h0; have q4 := g4_0 h0; omega) (by omega) (by omega)) ?_
          rintro _ _ ⟨p289, rfl, V289, rfl, g289, xp289⟩
          have G_290 := G_288.trans (g289.gs _)
          refine g_iast (i := 1) rfl (ms.slot hP) (by omega) (by omega) ?_
          obtain ⟨V291, eV291⟩ : ∃ W, W = vset V289 aP 1 (p289 : Int) := ⟨_, rfl⟩
          refine g_hp (h2 := hw h V291) (by rw [eV291]; rfl) ?_
          have g291 : Gs V289 V291 o 0 (fun q => q = aP) := by rw [eV291]; exact Gs.cell hP
          have s291 : SA V291 aP p285 p289 Pr Ps := by rw [eV291]; exact SA.c1 (g289.sa hP s287) p289
          have G_292 := G_290.trans (g291.wide (fun q hq => by have hq : q = aP := hq; show q = aP; omega))
          refine g_aload_n rfl rfl ?_
          refine g_iload rfl rfl ?_
          refine g_iload rfl rfl ?_
          refine g_if_ge_f rfl (by omega) ?_
          refine g_aload_n rfl rfl ?_
          refine g_aload_n rfl rfl ?_
          refine g_iload rfl rfl ?_
          refine g_iald (i := 1) rfl (ms.slot hP) (by omega) (by omega) ?_
          refine g_top (v2 := aI ((p289 : Int))) (congrArg aI (by exact s291.2.1)) ?_
          refine g_callVI [aI ((p289 : Int))] [aI 1, aO (some aP)] rfl rfl rfl rfl (Nat.le_of_ble_eq_true rfl) ms.1 (r_neg (by omega) ms V291 (by have := G_292.2.2.1; omega) (g291.rb xp289) (by omega)) ?_
          rintro _ _ ⟨p293, rfl, V293, rfl, g293, xp293⟩
          have G_294 := G_292.trans (g293.gs _)
          refine g_goto rfl ?_
          refine g_iast (i := 1) rfl (ms.slot hP) (by omega) (by omega) ?_
          obtain ⟨V295, eV295⟩ : ∃ W, W = vset V293 aP 1 (p293 : Int) := ⟨_, rfl⟩
          refine g_hp (h2 := hw h V295) (by rw [eV295]; rfl) ?_
          have g295 : Gs V293 V295 o 0 (fun q => q = aP) := by rw [eV295]; exact Gs.cell hP
          have s295 : SA V295 aP p285 p293 Pr Ps := by rw [eV295]; exact SA.c1 (g293.sa hP s291) p293
          have G_296 := G_294.trans (g295.wide (fun q hq => by have hq : q = aP := hq; show q = aP; omega))
          refine g_iinc (l1 := [(5, aI 2), (4, aI (lcmp P.2.2.1 0)), (3, aI ((p5 : Int))), (0, aO (some o)), (1, aO (some aP)), (2, aI 0)]) rfl rfl (by omega) (by omega) rfl ?_
          refine g_goto rfl ?_
          refine g_iload rfl rfl ?_
          refine g_iconst rfl ?_
          refine g_icmp_ge_f rfl (by omega) ?_
          refine g_aload_n rfl rfl ?_
          refine g_iload rfl rfl ?_
          refine g_aload_n rfl rfl ?_
          refine g_aload_n rfl rfl ?_
          refine g_iload rfl rfl ?_
          refine g_iald (i := 2) rfl (ms.slot hP) (by omega) (by omega) ?_
          refine g_top (v2 := aI ((Pr : Int))) (congrArg aI (by exact s295.2.2.1)) ?_
          refine g_iload_n rfl rfl ?_
          refine g_callVI [aI ((Pr : Int)), aI ((p5 : Int))] [aI 2, aO (some aP)] rfl rfl rfl rfl (Nat.le_of_ble_eq_true rfl) ms.1 (r_div (by omega) ms V295 (by have := G_296.2.2.1; omega) (g295.rb (g293.rb (g291.rb (g289.rb (g287.rb (g285.rb (g263.rb (g261.rb (g5.rb (g3.rb (g1.rb xPr))))))))))) (g295.rb (g293.rb (g291.rb (g289.rb (g287.rb (g285.rb (g263.rb (g261.rb xp5)))))))) (by intro h0; have q4 := g4_0 h0; omega) (by omega) (by omega)) ?_
          rintro _ _ ⟨p297, rfl, V297, rfl, g297, xp297⟩
          have G_298 := G_296.trans (g297.gs _)
          refine g_iast (i := 2) rfl (ms.slot hP) (by omega) (by omega) ?_
          obtain ⟨V299, eV299⟩ : ∃ W, W = vset V297 aP 2 (p297 : Int) := ⟨_, rfl⟩
          refine g_hp (h2 := hw h V299) (by rw [eV299]; rfl) ?_
          have g299 : Gs V297 V299 o 0 (fun q => q = aP) := by rw [eV299]; exact Gs.cell hP
          have s299 : SA V299 aP p285 p293 p297 Ps := by rw [eV299]; exact SA.c2 (g297.sa hP s295) p297
          have G_300 := G_298.trans (g299.wide (fun q hq => by have hq : q = aP := hq; show q = aP; omega))
          refine g_aload_n rfl rfl ?_
          refine g_iload rfl rfl ?_
          refine g_iload rfl rfl ?_
          refine g_if_ge_f rfl (by omega) ?_
          refine g_aload_n rfl rfl ?_
          refine g_aload_n rfl rfl ?_
          refine g_iload rfl rfl ?_
          refine g_iald (i := 2) rfl (ms.slot hP) (by omega) (by omega) ?_
          refine g_top (v2 := aI ((p297 : Int))) (congrArg aI (by exact s299.2.2.1)) ?_
          refine g_callVI [aI ((p297 : Int))] [aI 2, aO (some aP)] rfl rfl rfl rfl (Nat.le_of_ble_eq_true rfl) ms.1 (r_neg (by omega) ms V299 (by have := G_300.2.2.1; omega) (g299.rb xp297) (by omega)) ?_
          rintro _ _ ⟨p301, rfl, V301, rfl, g301, xp301⟩
          have G_302 := G_300.trans (g301.gs _)
          refine g_goto rfl ?_
          refine g_iast (i := 2) rfl (ms.slot hP) (by omega) (by omega) ?_
          obtain ⟨V303, eV303⟩ : ∃ W, W = vset V301 aP 2 (p301 : Int) := ⟨_, rfl⟩
          refine g_hp (h2 := hw h V303) (by rw [eV303]; rfl) ?_
          have g303 : Gs V301 V303 o 0 (fun q => q = aP) := by rw [eV303]; exact Gs.cell hP
          have s303 : SA V303 aP p285 p293 p301 Ps := by rw [eV303]; exact SA.c2 (g301.sa hP s299) p301
          have G_304 := G_302.trans (g303.wide (fun q hq => by have hq : q = aP := hq; show q = aP; omega))
          refine g_iinc (l1 := [(5, aI 3), (4, aI (lcmp P.2.2.1 0)), (3, aI ((p5 : Int))), (0, aO (some o)), (1, aO (some aP)), (2, aI 0)]) rfl rfl (by omega) (by omega) rfl ?_
          refine g_goto rfl ?_
          refine g_iload rfl rfl ?_
          refine g_iconst rfl ?_
          refine g_icmp_ge_f rfl (by omega) ?_
          refine g_aload_n rfl rfl ?_
          refine g_iload rfl rfl ?_
          refine g_aload_n rfl rfl ?_
          refine g_aload_n rfl rfl ?_
          refine g_iload rfl rfl ?_
          refine g_iald (i := 3) rfl (ms.slot hP) (by omega) (by omega) ?_
          refine g_top (v2 := aI ((Ps : Int))) (congrArg aI (by exact s303.2.2.2)) ?_
          refine g_iload_n rfl rfl ?_
          refine g_callVI [aI ((Ps : Int)), aI ((p5 : Int))] [aI 3, aO (some aP)] rfl rfl rfl rfl (Nat.le_of_ble_eq_true rfl) ms.1 (r_div (by omega) ms V303 (by have := G_304.2.2.1; omega) (g303.rb (g301.rb (g299.rb (g297.rb (g295.rb (g293.rb (g291.rb (g289.rb (g287.rb (g285.rb (g263.rb (g261.rb (g5.rb (g3.rb (g1.rb xPs))))))))))))))) (g303.rb (g301.rb (g299.rb (g297.rb (g295.rb (g293.rb (g291.rb (g289.rb (g287.rb (g285.rb (g263.rb (g261.rb xp5)))))))))))) (by intro h0; have q4 := g4_0 h0; omega) (by omega) (by omega)) ?_
          rintro _ _ ⟨p305, rfl, V305, rfl, g305, xp305⟩
          have G_306 := G_304.trans (g305.gs _)
          refine g_iast (i := 3) rfl (ms.slot hP) (by omega) (by omega) ?_
          obtain ⟨V307, eV307⟩ : ∃ W, W = vset V305 aP 3 (p305 : Int) := ⟨_, rfl⟩
          refine g_hp (h2 := hw h V307) (by rw [eV307]; rfl) ?_
          have g307 : Gs V305 V307 o 0 (fun q => q = aP) := by rw [eV307]; exact Gs.cell hP
          have s307 : SA V307 aP p285 p293 p301 p305 := by rw [eV307]; exact SA.c3 (g305.sa hP s303) p305
          have G_308 := G_306.trans (g307.wide (fun q hq => by have hq : q = aP := hq; show q = aP; omega))
          refine g_aload_n rfl rfl ?_
          refine g_iload rfl rfl ?_
          refine g_iload rfl rfl ?_
          refine g_if_ge_f rfl (by omega) ?_
          refine g_aload_n rfl rfl ?_
          refine g_aload_n rfl rfl ?_
          refine g_iload rfl rfl ?_
          refine g_iald (i := 3) rfl (ms.slot hP) (by omega) (by omega) ?_
          refine g_top (v2 := aI ((p305 : Int))) (congrArg aI (by exact s307.2.2.2)) ?_
          refine g_callVI [aI ((p305 : Int))] [aI 3, aO (some aP)] rfl rfl rfl rfl (Nat.le_of_ble_eq_true rfl) ms.1 (r_neg (by omega) ms V307 (by have := G_308.2.2.1; omega) (g307.rb xp305) (by omega)) ?_
          rintro _ _ ⟨p309, rfl, V309, rfl, g309, xp309⟩
          have G_310 := G_308.trans (g309.gs _)
          refine g_goto rfl ?_
          refine g_iast (i := 3) rfl (ms.slot hP) (by omega) (by omega) ?_
          obtain ⟨V311, eV311⟩ : ∃ W, W = vset V309 aP 3 (p309 : Int) := ⟨_, rfl⟩
          refine g_hp (h2 := hw h V311) (by rw [eV311]; rfl) ?_
          have g311 : Gs V309 V311 o 0 (fun q => q = aP) := by rw [eV311]; exact Gs.cell hP
          have s311 : SA V311 aP p285 p293 p301 p309 := by rw [eV311]; exact SA.c3 (g309.sa hP s307) p309
          have G_312 := G_310.trans (g311.wide (fun q hq => by have hq : q = aP := hq; show q = aP; omega))
          refine g_iinc (l1 := [(5, aI 4), (4, aI (lcmp P.2.2.1 0)), (3, aI ((p5 : Int))), (0, aO (some o)), (1, aO (some aP)), (2, aI 0)]) rfl rfl (by omega) (by omega) rfl ?_
          refine g_goto rfl ?_
          refine g_iload rfl rfl ?_
          refine g_iconst rfl ?_
          refine g_icmp_ge_t rfl (by omega) ?_
          refine g_vret rfl ?_
          refine ⟨V311, rfl, G_312.mono (by omega), ?_⟩
          have l0 := @lcmp_0 P.1 0
          have m0 := @lcmp_lt P.1 0
          have n0 := @lcmp_gt P.1 0
          have l1 := @lcmp_0 P.2.1 0
          have m1 := @lcmp_lt P.2.1 0
          have n1 := @lcmp_gt P.2.1 0
          have l2 := @lcmp_0 P.2.2.1 0
          have m2 := @lcmp_lt P.2.2.1 0
          have n2 := @lcmp_gt P.2.2.1 0
          unfold m_low
          first
            | (rw [if_pos (by omega)]; unfold set_up)
            | (rw [if_neg (by omega)]; unfold set_dn)
          exact ⟨_, _, _, _, s311, ((g311.rb (g309.rb (g307.rb (g305.rb (g303.rb (g301.rb (g299.rb (g297.rb (g295.rb (g293.rb (g291.rb (g289.rb (g287.rb xp285))))))))))))).up (by omega)), ((g311.rb (g309.rb (g307.rb (g305.rb (g303.rb (g301.rb (g299.rb (g297.rb (g295.rb xp293))))))))).up (by omega)), ((g311.rb (g309.rb (g307.rb (g305.rb (g303.rb xp301))))).up (by omega)), ((g311.rb xp309).up (by omega))⟩
    · skip
      refine g_aload_n rfl rfl ?_
      refine g_aload_n rfl rfl ?_
      refine g_iload rfl rfl ?_
      refine g_iald (i := 1) rfl (ms.slot hP) (by omega) (by omega) ?_
      refine g_top (v2 := aI ((Pq : Int))) (congrArg aI (by exact (g5.sa hP (g3.sa hP (g1.sa hP sP))).2.1)) ?_
      refine g_callVI [aI ((Pq : Int))] [] rfl rfl rfl rfl (Nat.le_of_ble_eq_true rfl) ms.1 (r_sign (by omega) ms V5 (g5.rb (g3.rb (g1.rb xPq)))) ?_
      rintro r313 _ ⟨rfl, e314⟩
      rw [e314]
      clear e314 r313
      refine g_goto rfl ?_
      refine g_istore (l1 := [(4, aI (lcmp P.2.1 0)), (5, aI 1), (3, aI ((p5 : Int))), (0, aO (some o)), (1, aO (some aP)), (2, aI 0)]) rfl rfl ?_
      refine g_iinc (l1 := [(5, aI 2), (4, aI (lcmp P.2.1 0)), (3, aI ((p5 : Int))), (0, aO (some o)), (1, aO (some aP)), (2, aI 0)]) rfl rfl (by omega) (by omega) rfl ?_
      refine g_goto rfl ?_
      refine g_iload rfl rfl ?_
      refine g_iconst rfl ?_
      refine g_icmp_ge_f rfl (by omega) ?_
      refine g_aload_n rfl rfl ?_
      refine g_aload_n rfl rfl ?_
      refine g_iload rfl rfl ?_
      refine g_iald (i := 2) rfl (ms.slot hP) (by omega) (by omega) ?_
      refine g_top (v2 := aI ((Pr : Int))) (congrArg aI (by exact (g5.sa hP (g3.sa hP (g1.sa hP sP))).2.2.1)) ?_
      refine g_callVI [aI ((Pr : Int))] [] rfl rfl rfl rfl (Nat.le_of_ble_eq_true rfl) ms.1 (r_sign (by omega) ms V5 (g5.rb (g3.rb (g1.rb xPr)))) ?_
      rintro r315 _ ⟨rfl, e316⟩
      rw [e316]
      clear e316 r315
      refine g_if_eq rfl (fun c62 => ?_) (fun c62 => ?_)
      · skip
        refine g_iload rfl rfl ?_
        refine g_istore (l1 := [(4, aI (lcmp P.2.1 0)), (5, aI 2), (3, aI ((p5 : Int))), (0, aO (some o)), (1, aO (some aP)), (2, aI 0)]) rfl rfl ?_
        refine g_iinc (l1 := [(5, aI 3), (4, aI (lcmp P.2.1 0)), (3, aI ((p5 : Int))), (0, aO (some o)), (1, aO (some aP)), (2, aI 0)]) rfl rfl (by omega) (by omega) rfl ?_
        refine g_goto rfl ?_
        refine g_iload rfl rfl ?_
        refine g_iconst rfl ?_
        refine g_icmp_ge_t rfl (by omega) ?_
        refine g_iconst rfl ?_
        refine g_istore (l1 := [(5, aI 0), (4, aI (lcmp P.2.1 0)), (3, aI ((p5 : Int))), (0, aO (some o)), (1, aO (some aP)), (2, aI 0)]) rfl rfl ?_
        refine g_iload rfl rfl ?_
        refine g_iconst rfl ?_
        refine g_icmp_ge_f rfl (by omega) ?_
        refine g_aload_n rfl rfl ?_
        refine g_iload rfl rfl ?_
        refine g_aload_n rfl rfl ?_
        refine g_aload_n rfl rfl ?_
        refine g_iload rfl rfl ?_
        refine g_iald (i := 0) rfl (ms.slot hP) (by omega) (by omega) ?_
        refine g_top (v2 := aI ((Pp : Int))) (congrArg aI (by exact (g5.sa hP (g3.sa hP (g1.sa hP sP))).1)) ?_
        refine g_iload_n rfl rfl ?_
        refine g_callVI [aI ((Pp : Int)), aI ((p5 : Int))] [aI 0, aO (some aP)] rfl rfl rfl rfl (Nat.le_of_ble_eq_true rfl) ms.1 (r_div (by omega) ms V5 (by have := G_6.2.2.1; omega) (g5.rb (g3.rb (g1.rb xPp))) xp5 (by intro h0; have q4 := g4_0 h0; omega) (by omega) (by omega)) ?_
        rintro _ _ ⟨p317, rfl, V317, rfl, g317, xp317⟩
        have G_318 := G_6.trans (g317.gs _)
        refine g_iast (i := 0) rfl (ms.slot hP) (by omega) (by omega) ?_
        obtain ⟨V319, eV319⟩ : ∃ W, W = vset V317 aP 0 (p317 : Int) := ⟨_, rfl⟩
        refine g_hp (h2 := hw h V319) (by rw [eV319]; rfl) ?_
        have g319 : Gs V317 V319 o 0 (fun q => q = aP) := by rw [eV319]; exact Gs.cell hP
        have s319 : SA V319 aP p317 Pq Pr Ps := by rw [eV319]; exact SA.c0 (g317.sa hP (g5.sa hP (g3.sa hP (g1.sa hP sP)))) p317
        have G_320 := G_318.trans (g319.wide (fun q hq => by have hq : q = aP := hq; show q = aP; omega))
        refine g_aload_n rfl rfl ?_
        refine g_iload rfl rfl ?_
        refine g_iload rfl rfl ?_
        refine g_if_ge rfl (fun c113 => ?_) (fun c113 => ?_)
        · skip
          refine g_aload_n rfl rfl ?_
          refine g_iload rfl rfl ?_
          refine g_iald (i := 0) rfl (ms.slot hP) (by omega) (by omega) ?_
          refine g_top (v2 := aI ((p317 : Int))) (congrArg aI (by exact s319.1)) ?_
          refine g_iast (i := 0) rfl (ms.slot hP) (by omega) (by omega) ?_
          obtain ⟨V321, eV321⟩ : ∃ W, W = vset V319 aP 0 (p317 : Int) := ⟨_, rfl⟩
          refine g_hp (h2 := hw h V321) (by rw [eV321]; rfl) ?_
          have g321 : Gs V319 V321 o 0 (fun q => q = aP) := by rw [eV321]; exact Gs.cell hP
          have s321 : SA V321 aP p317 Pq Pr Ps := by rw [eV321]; exact SA.c0 s319 p317
          have G_322 := G_320.trans (g321.wide (fun q hq => by have hq : q = aP := hq; show q = aP; omega))
          refine g_iinc (l1 := [(5, aI 1), (4, aI (lcmp P.2.1 0)), (3, aI ((p5 : Int))), (0, aO (some o)), (1, aO (some aP)), (2, aI 0)]) rfl rfl (by omega) (by omega) rfl ?_
          refine g_goto rfl ?_
          refine g_iload rfl rfl ?_
          refine g_iconst rfl ?_
          refine g_icmp_ge_f rfl (by omega) ?_
          refine g_aload_n rfl rfl ?_
          refine g_iload rfl rfl ?_
          refine g_aload_n rfl rfl ?_
          refine g_aload_n rfl rfl ?_
          refine g_iload rfl rfl ?_
          refine g_iald (i := 1) rfl (ms.slot hP) (by omega) (by omega) ?_
          refine g_top (v2 := aI ((Pq : Int))) (congrArg aI (by exact s321.2.1)) ?_
          refine g_iload_n rfl rfl ?_
          refine g_callVI [aI ((Pq : Int)), aI ((p5 : Int))] [aI 1, aO (some aP)] rfl rfl rfl rfl (Nat.le_of_ble_eq_true rfl) ms.1 (r_div (by omega) ms V321 (by have := G_322.2.2.1; omega) (g321.rb (g319.rb (g317.rb (g5.rb (g3.rb (g1.rb xPq)))))) (g321.rb (g319.rb (g317.rb xp5))) (by intro h0; have q4 := g4_0 h0; omega) (by omega) (by omega)) ?_
          rintro _ _ ⟨p323, rfl, V323, rfl, g323, xp323⟩
          have G_324 := G_322.trans (g323.gs _)
          refine g_iast (i := 1) rfl (ms.slot hP) (by omega) (by omega) ?_
          obtain ⟨V325, eV325⟩ : ∃ W, W = vset V323 aP 1 (p323 : Int) := ⟨_, rfl⟩
          refine g_hp (h2 := hw h V325) (by rw [eV325]; rfl) ?_
          have g325 : Gs V323 V325 o 0 (fun q => q = aP) := by rw [eV325]; exact Gs.cell hP
          have s325 : SA V325 aP p317 p323 Pr Ps := by rw [eV325]; exact SA.c1 (g323.sa hP s321) p323
          have G_326 := G_324.trans (g325.wide (fun q hq => by have hq : q = aP := hq; show q = aP; omega))
          refine g_aload_n rfl rfl ?_
          refine g_iload rfl rfl ?_
          refine g_iload rfl rfl ?_
          refine g_if_ge_t rfl (by omega) ?_
          refine g_aload_n rfl rfl ?_
          refine g_iload rfl rfl ?_
          refine g_iald (i := 1) rfl (ms.slot hP) (by omega) (by omega) ?_
          refine g_top (v2 := aI ((p323 : Int))) (congrArg aI (by exact s325.2.1)) ?_
          refine g_iast (i := 1) rfl (ms.slot hP) (by omega) (by omega) ?_
          obtain ⟨V327, eV327⟩ : ∃ W, W = vset V325 aP 1 (p323 : Int) := ⟨_, rfl⟩
          refine g_hp (h2 := hw h V327) (by rw [eV327]; rfl) ?_
          have g327 : Gs V325 V327 o 0 (fun q => q = aP) := by rw [eV327]; exact Gs.cell hP
          have s327 : SA V327 aP p317 p323 Pr Ps := by rw [eV327]; exact SA.c1 s325 p323
          have G_328 := G_326.trans (g327.wide (fun q hq => by have hq : q = aP := hq; show q = aP; omega))
          refine g_iinc (l1 := [(5, aI 2), (4, aI (lcmp P.2.1 0)), (3, aI ((p5 : Int))), (0, aO (some o)), (1, aO (some aP)), (2, aI 0)]) rfl rfl (by omega) (by omega) rfl ?_
          refine g_goto rfl ?_
          refine g_iload rfl rfl ?_
          refine g_iconst rfl ?_
          refine g_icmp_ge_f rfl (by omega) ?_
          refine g_aload_n rfl rfl ?_
          refine g_iload rfl rfl ?_
          refine g_aload_n rfl rfl ?_
          refine g_aload_n rfl rfl ?_
          refine g_iload rfl rfl ?_
          refine g_iald (i := 2) rfl (ms.slot hP) (by omega) (by omega) ?_
          refine g_top (v2 := aI ((Pr : Int))) (congrArg aI (by exact s327.2.2.1)) ?_
          refine g_iload_n rfl rfl ?_
          refine g_callVI [aI ((Pr : Int)), aI ((p5 : Int))] [aI 2, aO (some aP)] rfl rfl rfl rfl (Nat.le_of_ble_eq_true rfl) ms.1 (r_div (by omega) ms V327 (by have := G_328.2.2.1; omega) (g327.rb (g325.rb (g323.rb (g321.rb (g319.rb (g317.rb (g5.rb (g3.rb (g1.rb xPr))))))))) (g327.rb (g325.rb (g323.rb (g321.rb (g319.rb (g317.rb xp5)))))) (by intro h0; have q4 := g4_0 h0; omega) (by omega) (by omega)) ?_
          rintro _ _ ⟨p329, rfl, V329, rfl, g329, xp329⟩
          have G_330 := G_328.trans (g329.gs _)
          refine g_iast (i := 2) rfl (ms.slot hP) (by omega) (by omega) ?_
          obtain ⟨V331, eV331⟩ : ∃ W, W = vset V329 aP 2 (p329 : Int) := ⟨_, rfl⟩
          refine g_hp (h2 := hw h V331) (by rw [eV331]; rfl) ?_
          have g331 : Gs V329 V331 o 0 (fun q => q = aP) := by rw [eV331]; exact Gs.cell hP
          have s331 : SA V331 aP p317 p323 p329 Ps := by rw [eV331]; exact SA.c2 (g329.sa hP s327) p329
          have G_332 := G_330.trans (g331.wide (fun q hq => by have hq : q = aP := hq; show q = aP; omega))
          refine g_aload_n rfl rfl ?_
          refine g_iload rfl rfl ?_
          refine g_iload rfl rfl ?_
          refine g_if_ge_t rfl (by omega) ?_
          refine g_aload_n rfl rfl ?_
          refine g_iload rfl rfl ?_
          refine g_iald (i := 2) rfl (ms.slot hP) (by omega) (by omega) ?_
          refine g_top (v2 := aI ((p329 : Int))) (congrArg aI (by exact s331.2.2.1)) ?_
          refine g_iast (i := 2) rfl (ms.slot hP) (by omega) (by omega) ?_
          obtain ⟨V333, eV333⟩ : ∃ W, W = vset V331 aP 2 (p329 : Int) := ⟨_, rfl⟩
          refine g_hp (h2 := hw h V333) (by rw [eV333]; rfl) ?_
          have g333 : Gs V331 V333 o 0 (fun q => q = aP) := by rw [eV333]; exact Gs.cell hP
          have s333 : SA V333 aP p317 p323 p329 Ps := by rw [eV333]; exact SA.c2 s331 p329
          have G_334 := G_332.trans (g333.wide (fun q hq => by have hq : q = aP := hq; show q = aP; omega))
          refine g_iinc (l1 := [(5, aI 3), (4, aI (lcmp P.2.1 0)), (3, aI ((p5 : Int))), (0, aO (some o)), (1, aO (some aP)), (2, aI 0)]) rfl rfl (by omega) (by omega) rfl ?_
          refine g_goto rfl ?_
          refine g_iload rfl rfl ?_
          refine g_iconst rfl ?_
          refine g_icmp_ge_f rfl (by omega) ?_
          refine g_aload_n rfl rfl ?_
          refine g_iload rfl rfl ?_
          refine g_aload_n rfl rfl ?_
          refine g_aload_n rfl rfl ?_
          refine g_iload rfl rfl ?_
          refine g_iald (i := 3) rfl (ms.slot hP) (by omega) (by omega) ?_
          refine g_top (v2 := aI ((Ps : Int))) (congrArg aI (by exact s333.2.2.2)) ?_
          refine g_iload_n rfl rfl ?_
          refine g_callVI [aI ((Ps : Int)), aI ((p5 : Int))] [aI 3, aO (some aP)] rfl rfl rfl rfl (Nat.le_of_ble_eq_true rfl) ms.1 (r_div (by omega) ms V333 (by have := G_334.2.2.1; omega) (g333.rb (g331.rb (g329.rb (g327.rb (g325.rb (g323.rb (g321.rb (g319.rb (g317.rb (g5.rb (g3.rb (g1.rb xPs)))))))))))) (g333.rb (g331.rb (g329.rb (g327.rb (g325.rb (g323.rb (g321.rb (g319.rb (g317.rb xp5))))))))) (by intro h0; have q4 := g4_0 h0; omega) (by omega) (by omega)) ?_
          rintro _ _ ⟨p335, rfl, V335, rfl, g335, xp335⟩
          have G_336 := G_334.trans (g335.gs _)
          refine g_iast (i := 3) rfl (ms.slot hP) (by omega) (by omega) ?_
          obtain ⟨V337, eV337⟩ : ∃ W, W = vset V335 aP 3 (p335 : Int) := ⟨_, rfl⟩
          refine g_hp (h2 := hw h V337) (by rw [eV337]; rfl) ?_
          have g337 : Gs V335 V337 o 0 (fun q => q = aP) := by rw [eV337]; exact Gs.cell hP
          have s337 : SA V337 aP p317 p323 p329 p335 := by rw [eV337]; exact SA.c3 (g335.sa hP s333) p335
          have G_338 := G_336.trans (g337.wide (fun q hq => by have hq : q = aP := hq; show q = aP; omega))
          refine g_aload_n rfl rfl ?_
          refine g_iload rfl rfl ?_
          refine g_iload rfl rfl ?_
          refine g_if_ge_t rfl (by omega) ?_
          refine g_aload_n rfl rfl ?_
          refine g_iload rfl rfl ?_
          refine g_iald (i := 3) rfl (ms.slot hP) (by omega) (by omega) ?_
          refine g_top (v2 := aI ((p335 : Int))) (congrArg aI (by exact s337.2.2.2)) ?_
          refine g_iast (i := 3) rfl (ms.slot hP) (by omega) (by omega) ?_
          obtain ⟨V339, eV339⟩ : ∃ W, W = vset V337 aP 3 (p335 : Int) := ⟨_, rfl⟩
          refine g_hp (h2 := hw h V339) (by rw [eV339]; rfl) ?_
          have g339 : Gs V337 V339 o 0 (fun q => q = aP) := by rw [eV339]; exact Gs.cell hP
          have s339 : SA V339 aP p317 p323 p329 p335 := by rw [eV339]; exact SA.c3 s337 p335
          have G_340 := G_338.trans (g339.wide (fun q hq => by have hq : q = aP := hq; show q = aP; omega))
          refine g_iinc (l1 := [(5, aI 4), (4, aI (lcmp P.2.1 0)), (3, aI ((p5 : Int))), (0, aO (some o)), (1, aO (some aP)), (2, aI 0)]) rfl rfl (by omega) (by omega) rfl ?_
          refine g_goto rfl ?_
          refine g_iload rfl rfl ?_
          refine g_iconst rfl ?_
          refine g_icmp_ge_t rfl (by omega) ?_
          refine g_vret rfl ?_
          refine ⟨V339, rfl, G_340.mono (by omega), ?_⟩
          have l0 := @lcmp_0 P.1 0
          have m0 := @lcmp_lt P.1 0
          have n0 := @lcmp_gt P.1 0
          have l1 := @lcmp_0 P.2.1 0
          have m1 := @lcmp_lt P.2.1 0
          have n1 := @lcmp_gt P.2.1 0
          have l2 := @lcmp_0 P.2.2.1 0
          have m2 := @lcmp_lt P.2.2.1 0
          have n2 := @lcmp_gt P.2.2.1 0
          unfold m_low
          first
            | (rw [if_pos (by omega)]; unfold set_up)
            | (rw [if_neg (by omega)]; unfold set_dn)
          exact ⟨_, _, _, _, s339, ((g339.rb (g337.rb (g335.rb (g333.rb (g331.rb (g329.rb (g327.rb (g325.rb (g323.rb (g321.rb (g319.rb xp317))))))))))).up (by omega)), ((g339.rb (g337.rb (g335.rb (g333.rb (g331.rb (g329.rb (g327.rb (g325.rb xp323)))))))).up (by omega)), ((g339.rb (g337.rb (g335.rb (g333.rb (g331.rb xp329))))).up (by omega)), ((g339.rb (g337.rb xp335)).up (by omega))⟩
        · skip
          refine g_aload_n rfl rfl ?_
          refine g_aload_n rfl rfl ?_
          refine g_iload rfl rfl ?_
          refine g_iald (i := 0) rfl (ms.slot hP) (by omega) (by omega) ?_
          refine g_top (v2 := aI ((p317 : Int))) (congrArg aI (by exact s319.1)) ?_
          refine g_callVI [aI ((p317 : Int))] [aI 0, aO (some aP)] rfl rfl rfl rfl (Nat.le_of_ble_eq_true rfl) ms.1 (r_neg (by omega) ms V319 (by have := G_320.2.2.1; omega) (g319.rb xp317) (by omega)) ?_
          rintro _ _ ⟨p341, rfl, V341, rfl, g341, xp341⟩
          have G_342 := G_320.trans (g341.gs _)
          refine g_goto rfl ?_
          refine g_iast (i := 0) rfl (ms.slot hP) (by omega) (by omega) ?_
          obtain ⟨V343, eV343⟩ : ∃ W, W = vset V341 aP 0 (p341 : Int) := ⟨_, rfl⟩
          refine g_hp (h2 := hw h V343) (by rw [eV343]; rfl) ?_
          have g343 : Gs V341 V343 o 0 (fun q => q = aP) := by rw [eV343]; exact Gs.cell hP
          have s343 : SA V343 aP p341 Pq Pr Ps := by rw [eV343]; exact SA.c0 (g341.sa hP s319) p341
          have G_344 := G_342.trans (g343.wide (fun q hq => by have hq : q = aP := hq; show q = aP; omega))
          refine g_iinc (l1 := [(5, aI 1), (4, aI (lcmp P.2.1 0)), (3, aI ((p5 : Int))), (0, aO (some o)), (1, aO (some aP)), (2, aI 0)]) rfl rfl (by omega) (by omega) rfl ?_
          refine g_goto rfl ?_
          refine g_iload rfl rfl ?_
          refine g_iconst rfl ?_
          refine g_icmp_ge_f rfl (by omega) ?_
          refine g_aload_n rfl rfl ?_
          refine g_iload rfl rfl ?_
          refine g_aload_n rfl rfl ?_
          refine g_aload_n rfl rfl ?_
          refine g_iload rfl rfl ?_
          refine g_iald (i := 1) rfl (ms.slot hP) (by omega) (by omega) ?_
          refine g_top (v2 := aI ((Pq : Int))) (congrArg aI (by exact s343.2.1)) ?_
          refine g_iload_n rfl rfl ?_
          refine g_callVI [aI ((Pq : Int)), aI ((p5 : Int))] [aI 1, aO (some aP)] rfl rfl rfl rfl (Nat.le_of_ble_eq_true rfl) ms.1 (r_div (by omega) ms V343 (by have := G_344.2.2.1; omega) (g343.rb (g341.rb (g319.rb (g317.rb (g5.rb (g3.rb (g1.rb xPq))))))) (g343.rb (g341.rb (g319.rb (g317.rb xp5)))) (by intro h0; have q4 := g4_0 h0; omega) (by omega) (by omega)) ?_
          rintro _ _ ⟨p345, rfl, V345, rfl, g345, xp345⟩
          have G_346 := G_344.trans (g345.gs _)
          refine g_iast (i := 1) rfl (ms.slot hP) (by omega) (by omega) ?_
          obtain ⟨V347, eV347⟩ : ∃ W, W = vset V345 aP 1 (p345 : Int) := ⟨_, rfl⟩
          refine g_hp (h2 := hw h V347) (by rw [eV347]; rfl) ?_
          have g347 : Gs V345 V347 o 0 (fun q => q = aP) := by rw [eV347]; exact Gs.cell hP
          have s347 : SA V347 aP p341 p345 Pr Ps := by rw [eV347]; exact SA.c1 (g345.sa hP s343) p345
          have G_348 := G_346.trans (g347.wide (fun q hq => by have hq : q = aP := hq; show q = aP; omega))
          refine g_aload_n rfl rfl ?_
          refine g_iload rfl rfl ?_
          refine g_iload rfl rfl ?_
          refine g_if_ge_f rfl (by omega) ?_
          refine g_aload_n rfl rfl ?_
          refine g_aload_n rfl rfl ?_
          refine g_iload rfl rfl ?_
          refine g_iald (i := 1) rfl (ms.slot hP) (by omega) (by omega) ?_
          refine g_top (v2 := aI ((p345 : Int))) (congrArg aI (by exact s347.2.1)) ?_
          refine g_callVI [aI ((p345 : Int))] [aI 1, aO (some aP)] rfl rfl rfl rfl (Nat.le_of_ble_eq_true rfl) ms.1 (r_neg (by omega) ms V347 (by have := G_348.2.2.1; omega) (g347.rb xp345) (by omega)) ?_
          rintro _ _ ⟨p349, rfl, V349, rfl, g349, xp349⟩
          have G_350 := G_348.trans (g349.gs _)
          refine g_goto rfl ?_
          refine g_iast (i := 1) rfl (ms.slot hP) (by omega) (by omega) ?_
          obtain ⟨V351, eV351⟩ : ∃ W, W = vset V349 aP 1 (p349 : Int) := ⟨_, rfl⟩
          refine g_hp (h2 := hw h V351) (by rw [eV351]; rfl) ?_
          have g351 : Gs V349 V351 o 0 (fun q => q = aP) := by rw [eV351]; exact Gs.cell hP
          have s351 : SA V351 aP p341 p349 Pr Ps := by rw [eV351]; exact SA.c1 (g349.sa hP s347) p349
          have G_352 := G_350.trans (g351.wide (fun q hq => by have hq : q = aP := hq; show q = aP; omega))
          refine g_iinc (l1 := [(5, aI 2), (4, aI (lcmp P.2.1 0)), (3, aI ((p5 : Int))), (0, aO (some o)), (1, aO (some aP)), (2, aI 0)]) rfl rfl (by omega) (by omega) rfl ?_
          refine g_goto rfl ?_
          refine g_iload rfl rfl ?_
          refine g_iconst rfl ?_
          refine g_icmp_ge_f rfl (by omega) ?_
          refine g_aload_n rfl rfl ?_
          refine g_iload rfl rfl ?_
          refine g_aload_n rfl rfl ?_
          refine g_aload_n rfl rfl ?_
          refine g_iload rfl rfl ?_
          refine g_iald (i := 2) rfl (ms.slot hP) (by omega) (by omega) ?_
          refine g_top (v2 := aI ((Pr : Int))) (congrArg aI (by exact s351.2.2.1)) ?_
          refine g_iload_n rfl rfl ?_
          refine g_callVI [aI ((Pr : Int)), aI ((p5 : Int))] [aI 2, aO (some aP)] rfl rfl rfl rfl (Nat.le_of_ble_eq_true rfl) ms.1 (r_div (by omega) ms V351 (by have := G_352.2.2.1; omega) (g351.rb (g349.rb (g347.rb (g345.rb (g343.rb (g341.rb (g319.rb (g317.rb (g5.rb (g3.rb (g1.rb xPr))))))))))) (g351.rb (g349.rb (g347.rb (g345.rb (g343.rb (g341.rb (g319.rb (g317.rb xp5)))))))) (by intro h0; have q4 := g4_0 h0; omega) (by omega) (by omega)) ?_
          rintro _ _ ⟨p353, rfl, V353, rfl, g353, xp353⟩
          have G_354 := G_352.trans (g353.gs _)
          refine g_iast (i := 2) rfl (ms.slot hP) (by omega) (by omega) ?_
          obtain ⟨V355, eV355⟩ : ∃ W, W = vset V353 aP 2 (p353 : Int) := ⟨_, rfl⟩
          refine g_hp (h2 := hw h V355) (by rw [eV355]; rfl) ?_
          have g355 : Gs V353 V355 o 0 (fun q => q = aP) := by rw [eV355]; exact Gs.cell hP
          have s355 : SA V355 aP p341 p349 p353 Ps := by rw [eV355]; exact SA.c2 (g353.sa hP s351) p353
          have G_356 := G_354.trans (g355.wide (fun q hq => by have hq : q = aP := hq; show q = aP; omega))
          refine g_aload_n rfl rfl ?_
          refine g_iload rfl rfl ?_
          refine g_iload rfl rfl ?_
          refine g_if_ge_f rfl (by omega) ?_
          refine g_aload_n rfl rfl ?_
          refine g_aload_n rfl rfl ?_
          refine g_iload rfl rfl ?_
          refine g_iald (i := 2) rfl (ms.slot hP) (by omega) (by omega) ?_
          refine g_top (v2 := aI ((p353 : Int))) (congrArg aI (by exact s355.2.2.1)) ?_
          refine g_callVI [aI ((p353 : Int))] [aI 2, aO (some aP)] rfl rfl rfl rfl (Nat.le_of_ble_eq_true rfl) ms.1 (r_neg (by omega) ms V355 (by have := G_356.2.2.1; omega) (g355.rb xp353) (by omega)) ?_
          rintro _ _ ⟨p357, rfl, V357, rfl, g357, xp357⟩
          have G_358 := G_356.trans (g357.gs _)
          refine g_goto rfl ?_
          refine g_iast (i := 2) rfl (ms.slot hP) (by omega) (by omega) ?_
          obtain ⟨V359, eV359⟩ : ∃ W, W = vset V357 aP 2 (p357 : Int) := ⟨_, rfl⟩
          refine g_hp (h2 := hw h V359) (by rw [eV359]; rfl) ?_
          have g359 : Gs V357 V359 o 0 (fun q => q = aP) := by rw [eV359]; exact Gs.cell hP
          have s359 : SA V359 aP p341 p349 p357 Ps := by rw [eV359]; exact SA.c2 (g357.sa hP s355) p357
          have G_360 := G_358.trans (g359.wide (fun q hq => by have hq : q = aP := hq; show q = aP; omega))
          refine g_iinc (l1 := [(5, aI 3), (4, aI (lcmp P.2.1 0)), (3, aI ((p5 : Int))), (0, aO (some o)), (1, aO (some aP)), (2, aI 0)]) rfl rfl (by omega) (by omega) rfl ?_
          refine g_goto rfl ?_
          refine g_iload rfl rfl ?_
          refine g_iconst rfl ?_
          refine g_icmp_ge_f rfl (by omega) ?_
          refine g_aload_n rfl rfl ?_
          refine g_iload rfl rfl ?_
          refine g_aload_n rfl rfl ?_
          refine g_aload_n rfl rfl ?_
          refine g_iload rfl rfl ?_
          refine g_iald (i := 3) rfl (ms.slot hP) (by omega) (by omega) ?_
          refine g_top (v2 := aI ((Ps : Int))) (congrArg aI (by exact s359.2.2.2)) ?_
          refine g_iload_n rfl rfl ?_
          refine g_callVI [aI ((Ps : Int)), aI ((p5 : Int))] [aI 3, aO (some aP)] rfl rfl rfl rfl (Nat.le_of_ble_eq_true rfl) ms.1 (r_div (by omega) ms V359 (by have := G_360.2.2.1; omega) (g359.rb (g357.rb (g355.rb (g353.rb (g351.rb (g349.rb (g347.rb (g345.rb (g343.rb (g341.rb (g319.rb (g317.rb (g5.rb (g3.rb (g1.rb xPs))))))))))))))) (g359.rb (g357.rb (g355.rb (g353.rb (g351.rb (g349.rb (g347.rb (g345.rb (g343.rb (g341.rb (g319.rb (g317.rb xp5)))))))))))) (by intro h0; have q4 := g4_0 h0; omega) (by omega) (by omega)) ?_
          rintro _ _ ⟨p361, rfl, V361, rfl, g361, xp361⟩
          have G_362 := G_360.trans (g361.gs _)
          refine g_iast (i := 3) rfl (ms.slot hP) (by omega) (by omega) ?_
          obtain ⟨V363, eV363⟩ : ∃ W, W = vset V361 aP 3 (p361 : Int) := ⟨_, rfl⟩
          refine g_hp (h2 := hw h V363) (by rw [eV363]; rfl) ?_
          have g363 : Gs V361 V363 o 0 (fun q => q = aP) := by rw [eV363]; exact Gs.cell hP
          have s363 : SA V363 aP p341 p349 p357 p361 := by rw [eV363]; exact SA.c3 (g361.sa hP s359) p361
          have G_364 := G_362.trans (g363.wide (fun q hq => by have hq : q = aP := hq; show q = aP; omega))
          refine g_aload_n rfl rfl ?_
          refine g_iload rfl rfl ?_
          refine g_iload rfl rfl ?_
          refine g_if_ge_f rfl (by omega) ?_
          refine g_aload_n rfl rfl ?_
          refine g_aload_n rfl rfl ?_
          refine g_iload rfl rfl ?_
          refine g_iald (i := 3) rfl (ms.slot hP) (by omega) (by omega) ?_
          refine g_top (v2 := aI ((p361 : Int))) (congrArg aI (by exact s363.2.2.2)) ?_
          refine g_callVI [aI ((p361 : Int))] [aI 3, aO (some aP)] rfl rfl rfl rfl (Nat.le_of_ble_eq_true rfl) ms.1 (r_neg (by omega) ms V363 (by have := G_364.2.2.1; omega) (g363.rb xp361) (by omega)) ?_
          rintro _ _ ⟨p365, rfl, V365, rfl, g365, xp365⟩
          have G_366 := G_364.trans (g365.gs _)
          refine g_goto rfl ?_
          refine g_iast (i := 3) rfl (ms.slot hP) (by omega) (by omega) ?_
          obtain ⟨V367, eV367⟩ : ∃ W, W = vset V365 aP 3 (p365 : Int) := ⟨_, rfl⟩
          refine g_hp (h2 := hw h V367) (by rw [eV367]; rfl) ?_
          have g367 : Gs V365 V367 o 0 (fun q => q = aP) := by rw [eV367]; exact Gs.cell hP
          have s367 : SA V367 aP p341 p349 p357 p365 := by rw [eV367]; exact SA.c3 (g365.sa hP s363) p365
          have G_368 := G_366.trans (g367.wide (fun q hq => by have hq : q = aP := hq; show q = aP; omega))
          refine g_iinc (l1 := [(5, aI 4), (4, aI (lcmp P.2.1 0)), (3, aI ((p5 : Int))), (0, aO (some o)), (1, aO (some aP)), (2, aI 0)]) rfl rfl (by omega) (by omega) rfl ?_
          refine g_goto rfl ?_
          refine g_iload rfl rfl ?_
          refine g_iconst rfl ?_
          refine g_icmp_ge_t rfl (by omega) ?_
          refine g_vret rfl ?_
          refine ⟨V367, rfl, G_368.mono (by omega), ?_⟩
          have l0 := @lcmp_0 P.1 0
          have m0 := @lcmp_lt P.1 0
          have n0 := @lcmp_gt P.1 0
          have l1 := @lcmp_0 P.2.1 0
          have m1 := @lcmp_lt P.2.1 0
          have n1 := @lcmp_gt P.2.1 0
          have l2 := @lcmp_0 P.2.2.1 0
          have m2 := @lcmp_lt P.2.2.1 0
          have n2 := @lcmp_gt P.2.2.1 0
          unfold m_low
          first
            | (rw [if_pos (by omega)]; unfold set_up)
            | (rw [if_neg (by omega)]; unfold set_dn)
          exact ⟨_, _, _, _, s367, ((g367.rb (g365.rb (g363.rb (g361.rb (g359.rb (g357.rb (g355.rb (g353.rb (g351.rb (g349.rb (g347.rb (g345.rb (g343.rb xp341))))))))))))).up (by omega)), ((g367.rb (g365.rb (g363.rb (g361.rb (g359.rb (g357.rb (g355.rb (g353.rb (g351.rb xp349))))))))).up (by omega)), ((g367.rb (g365.rb (g363.rb (g361.rb (g359.rb xp357))))).up (by omega)), ((g367.rb xp365).up (by omega))⟩
      · skip
        refine g_aload_n rfl rfl ?_
        refine g_aload_n rfl rfl ?_
        refine g_iload rfl rfl ?_
        refine g_iald (i := 2) rfl (ms.slot hP) (by omega) (by omega) ?_
        refine g_top (v2 := aI ((Pr : Int))) (congrArg aI (by exact (g5.sa hP (g3.sa hP (g1.sa hP sP))).2.2.1)) ?_
        refine g_callVI [aI ((Pr : Int))] [] rfl rfl rfl rfl (Nat.le_of_ble_eq_true rfl) ms.1 (r_sign (by omega) ms V5 (g5.rb (g3.rb (g1.rb xPr)))) ?_
        rintro r369 _ ⟨rfl, e370⟩
        rw [e370]
        clear e370 r369
        refine g_goto rfl ?_
        refine g_istore (l1 := [(4, aI (lcmp P.2.2.1 0)), (5, aI 2), (3, aI ((p5 : Int))), (0, aO (some o)), (1, aO (some aP)), (2, aI 0)]) rfl rfl ?_
        refine g_iinc (l1 := [(5, aI 3), (4, aI (lcmp P.2.2.1 0)), (3, aI ((p5 : Int))), (0, aO (some o)), (1, aO (some aP)), (2, aI 0)]) rfl rfl (by omega) (by omega) rfl ?_
        refine g_goto rfl ?_
        refine g_iload rfl rfl ?_
        refine g_iconst rfl ?_
        refine g_icmp_ge_t rfl (by omega) ?_
        refine g_iconst rfl ?_
        refine g_istore (l1 := [(5, aI 0), (4, aI (lcmp P.2.2.1 0)), (3, aI ((p5 : Int))), (0, aO (some o)), (1, aO (some aP)), (2, aI 0)]) rfl rfl ?_
        refine g_iload rfl rfl ?_
        refine g_iconst rfl ?_
        refine g_icmp_ge_f rfl (by omega) ?_
        refine g_aload_n rfl rfl ?_
        refine g_iload rfl rfl ?_
        refine g_aload_n rfl rfl ?_
        refine g_aload_n rfl rfl ?_
        refine g_iload rfl rfl ?_
        refine g_iald (i := 0) rfl (ms.slot hP) (by omega) (by omega) ?_
        refine g_top (v2 := aI ((Pp : Int))) (congrArg aI (by exact (g5.sa hP (g3.sa hP (g1.sa hP sP))).1)) ?_
        refine g_iload_n rfl rfl ?_
        refine g_callVI [aI ((Pp : Int)), aI ((p5 : Int))] [aI 0, aO (some aP)] rfl rfl rfl rfl (Nat.le_of_ble_eq_true rfl) ms.1 (r_div (by omega) ms V5 (by have := G_6.2.2.1; omega) (g5.rb (g3.rb (g1.rb xPp))) xp5 (by intro h0; have q4 := g4_0 h0; omega) (by omega) (by omega)) ?_
        rintro _ _ ⟨p371, rfl, V371, rfl, g371, xp371⟩
        have G_372 := G_6.trans (g371.gs _)
        refine g_iast (i := 0) rfl (ms.slot hP) (by omega) (by omega) ?_
        obtain ⟨V373, eV373⟩ : ∃ W, W = vset V371 aP 0 (p371 : Int) := ⟨_, rfl⟩
        refine g_hp (h2 := hw h V373) (by rw [eV373]; rfl) ?_
        have g373 : Gs V371 V373 o 0 (fun q => q = aP) := by rw [eV373]; exact Gs.cell hP
        have s373 : SA V373 aP p371 Pq Pr Ps := by rw [eV373]; exact SA.c0 (g371.sa hP (g5.sa hP (g3.sa hP (g1.sa hP sP)))) p371
        have G_374 := G_372.trans (g373.wide (fun q hq => by have hq : q = aP := hq; show q = aP; omega))
        refine g_aload_n rfl rfl ?_
        refine g_iload rfl rfl ?_
        refine g_iload rfl rfl ?_
        refine g_if_ge rfl (fun c113 => ?_) (fun c113 => ?_)
        · skip
          refine g_aload_n rfl rfl ?_
          refine g_iload rfl rfl ?_
          refine g_iald (i := 0) rfl (ms.slot hP) (by omega) (by omega) ?_
          refine g_top (v2 := aI ((p371 : Int))) (congrArg aI (by exact s373.1)) ?_
          refine g_iast (i := 0) rfl (ms.slot hP) (by omega) (by omega) ?_
          obtain ⟨V375, eV375⟩ : ∃ W, W = vset V373 aP 0 (p371 : Int) := ⟨_, rfl⟩
          refine g_hp (h2 := hw h V375) (by rw [eV375]; rfl) ?_
          have g375 : Gs V373 V375 o 0 (fun q => q = aP) := by rw [eV375]; exact Gs.cell hP
          have s375 : SA V375 aP p371 Pq Pr Ps := by rw [eV375]; exact SA.c0 s373 p371
          have G_376 := G_374.trans (g375.wide (fun q hq => by have hq : q = aP := hq; show q = aP; omega))
          refine g_iinc (l1 := [(5, aI 1), (4, aI (lcmp P.2.2.1 0)), (3, aI ((p5 : Int))), (0, aO (some o)), (1, aO (some aP)), (2, aI 0)]) rfl rfl (by omega) (by omega) rfl ?_
          refine g_goto rfl ?_
          refine g_iload rfl rfl ?_
          refine g_iconst rfl ?_
          refine g_icmp_ge_f rfl (by omega) ?_
          refine g_aload_n rfl rfl ?_
          refine g_iload rfl rfl ?_
          refine g_aload_n rfl rfl ?_
          refine g_aload_n rfl rfl ?_
          refine g_iload rfl rfl ?_
          refine g_iald (i := 1) rfl (ms.slot hP) (by omega) (by omega) ?_
          refine g_top (v2 := aI ((Pq : Int))) (congrArg aI (by exact s375.2.1)) ?_
          refine g_iload_n rfl rfl ?_
          refine g_callVI [aI ((Pq : Int)), aI ((p5 : Int))] [aI 1, aO (some aP)] rfl rfl rfl rfl (Nat.le_of_ble_eq_true rfl) ms.1 (r_div (by omega) ms V375 (by have := G_376.2.2.1; omega) (g375.rb (g373.rb (g371.rb (g5.rb (g3.rb (g1.rb xPq)))))) (g375.rb (g373.rb (g371.rb xp5))) (by intro h0; have q4 := g4_0 h0; omega) (by omega) (by omega)) ?_
          rintro _ _ ⟨p377, rfl, V377, rfl, g377, xp377⟩
          have G_378 := G_376.trans (g377.gs _)
          refine g_iast (i := 1) rfl (ms.slot hP) (by omega) (by omega) ?_
          obtain ⟨V379, eV379⟩ : ∃ W, W = vset V377 aP 1 (p377 : Int) := ⟨_, rfl⟩
          refine g_hp (h2 := hw h V379) (by rw [eV379]; rfl) ?_
          have g379 : Gs V377 V379 o 0 (fun q => q = aP) := by rw [eV379]; exact Gs.cell hP
          have s379 : SA V379 aP p371 p377 Pr Ps := by rw [eV379]; exact SA.c1 (g377.sa hP s375) p377
          have G_380 := G_378.trans (g379.wide (fun q hq => by have hq : q = aP := hq; show q = aP; omega))
          refine g_aload_n rfl rfl ?_
          refine g_iload rfl rfl ?_
          refine g_iload rfl rfl ?_
          refine g_if_ge_t rfl (by omega) ?_
          refine g_aload_n rfl rfl ?_
          refine g_iload rfl rfl ?_
          refine g_iald (i := 1) rfl (ms.slot hP) (by omega) (by omega) ?_
          refine g_top (v2 := aI ((p377 : Int))) (congrArg aI (by exact s379.2.1)) ?_
          refine g_iast (i := 1) rfl (ms.slot hP) (by omega) (by omega) ?_
          obtain ⟨V381, eV381⟩ : ∃ W, W = vset V379 aP 1 (p377 : Int) := ⟨_, rfl⟩
          refine g_hp (h2 := hw h V381) (by rw [eV381]; rfl) ?_
          have g381 : Gs V379 V381 o 0 (fun q => q = aP) := by rw [eV381]; exact Gs.cell hP
          have s381 : SA V381 aP p371 p377 Pr Ps := by rw [eV381]; exact SA.c1 s379 p377
          have G_382 := G_380.trans (g381.wide (fun q hq => by have hq : q = aP := hq; show q = aP; omega))
          refine g_iinc (l1 := [(5, aI 2), (4, aI (lcmp P.2.2.1 0)), (3, aI ((p5 : Int))), (0, aO (some o)), (1, aO (some aP)), (2, aI 0)]) rfl rfl (by omega) (by omega) rfl ?_
          refine g_goto rfl ?_
          refine g_iload rfl rfl ?_
          refine g_iconst rfl ?_
          refine g_icmp_ge_f rfl (by omega) ?_
          refine g_aload_n rfl rfl ?_
          refine g_iload rfl rfl ?_
          refine g_aload_n rfl rfl ?_
          refine g_aload_n rfl rfl ?_
          refine g_iload rfl rfl ?_
          refine g_iald (i := 2) rfl (ms.slot hP) (by omega) (by omega) ?_
          refine g_top (v2 := aI ((Pr : Int))) (congrArg aI (by exact s381.2.2.1)) ?_
          refine g_iload_n rfl rfl ?_
          refine g_callVI [aI ((Pr : Int)), aI ((p5 : Int))] [aI 2, aO (some aP)] rfl rfl rfl rfl (Nat.le_of_ble_eq_true rfl) ms.1 (r_div (by omega) ms V381 (by have := G_382.2.2.1; omega) (g381.rb (g379.rb (g377.rb (g375.rb (g373.rb (g371.rb (g5.rb (g3.rb (g1.rb xPr))))))))) (g381.rb (g379.rb (g377.rb (g375.rb (g373.rb (g371.rb xp5)))))) (by intro h0; have q4 := g4_0 h0; omega) (by omega) (by omega)) ?_
          rintro _ _ ⟨p383, rfl, V383, rfl, g383, xp383⟩
          have G_384 := G_382.trans (g383.gs _)
          refine g_iast (i := 2) rfl (ms.slot hP) (by omega) (by omega) ?_
          obtain ⟨V385, eV385⟩ : ∃ W, W = vset V383 aP 2 (p383 : Int) := ⟨_, rfl⟩
          refine g_hp (h2 := hw h V385) (by rw [eV385]; rfl) ?_
          have g385 : Gs V383 V385 o 0 (fun q => q = aP) := by rw [eV385]; exact Gs.cell hP
          have s385 : SA V385 aP p371 p377 p383 Ps := by rw [eV385]; exact SA.c2 (g383.sa hP s381) p383
          have G_386 := G_384.trans (g385.wide (fun q hq => by have hq : q = aP := hq; show q = aP; omega))
          refine g_aload_n rfl rfl ?_
          refine g_iload rfl rfl ?_
          refine g_iload rfl rfl ?_
          refine g_if_ge_t rfl (by omega) ?_
          refine g_aload_n rfl rfl ?_
          refine g_iload rfl rfl ?_
          refine g_iald (i := 2) rfl (ms.slot hP) (by omega) (by omega) ?_
          refine g_top (v2 := aI ((p383 : Int))) (congrArg aI (by exact s385.2.2.1)) ?_
          refine g_iast (i := 2) rfl (ms.slot hP) (by omega) (by omega) ?_
          obtain ⟨V387, eV387⟩ : ∃ W, W = vset V385 aP 2 (p383 : Int) := ⟨_, rfl⟩
          refine g_hp (h2 := hw h V387) (by rw [eV387]; rfl) ?_
          have g387 : Gs V385 V387 o 0 (fun q => q = aP) := by rw [eV387]; exact Gs.cell hP
          have s387 : SA V387 aP p371 p377 p383 Ps := by rw [eV387]; exact SA.c2 s385 p383
          have G_388 := G_386.trans (g387.wide (fun q hq => by have hq : q = aP := hq; show q = aP; omega))
          refine g_iinc (l1 := [(5, aI 3), (4, aI (lcmp P.2.2.1 0)), (3, aI ((p5 : Int))), (0, aO (some o)), (1, aO (some aP)), (2, aI 0)]) rfl rfl (by omega) (by omega) rfl ?_
          refine g_goto rfl ?_
          refine g_iload rfl rfl ?_
          refine g_iconst rfl ?_
          refine g_icmp_ge_f rfl (by omega) ?_
          refine g_aload_n rfl rfl ?_
          refine g_iload rfl rfl ?_
          refine g_aload_n rfl rfl ?_
          refine g_aload_n rfl rfl ?_
          refine g_iload rfl rfl ?_
          refine g_iald (i := 3) rfl (ms.slot hP) (by omega) (by omega) ?_
          refine g_top (v2 := aI ((Ps : Int))) (congrArg aI (by exact s387.2.2.2)) ?_
          refine g_iload_n rfl rfl ?_
          refine g_callVI [aI ((Ps : Int)), aI ((p5 : Int))] [aI 3, aO (some aP)] rfl rfl rfl rfl (Nat.le_of_ble_eq_true rfl) ms.1 (r_div (by omega) ms V387 (by have := G_388.2.2.1; omega) (g387.rb (g385.rb (g383.rb (g381.rb (g379.rb (g377.rb (g375.rb (g373.rb (g371.rb (g5.rb (g3.rb (g1.rb xPs)))))))))))) (g387.rb (g385.rb (g383.rb (g381.rb (g379.rb (g377.rb (g375.rb (g373.rb (g371.rb xp5))))))))) (by intro h0; have q4 := g4_0 h0; omega) (by omega) (by omega)) ?_
          rintro _ _ ⟨p389, rfl, V389, rfl, g389, xp389⟩
          have G_390 := G_388.trans (g389.gs _)
          refine g_iast (i := 3) rfl (ms.slot hP) (by omega) (by omega) ?_
          obtain ⟨V391, eV391⟩ : ∃ W, W = vset V389 aP 3 (p389 : Int) := ⟨_, rfl⟩
          refine g_hp (h2 := hw h V391) (by rw [eV391]; rfl) ?_
          have g391 : Gs V389 V391 o 0 (fun q => q = aP) := by rw [eV391]; exact Gs.cell hP
          have s391 : SA V391 aP p371 p377 p383 p389 := by rw [eV391]; exact SA.c3 (g389.sa hP s387) p389
          have G_392 := G_390.trans (g391.wide (fun q hq => by have hq : q = aP := hq; show q = aP; omega))
          refine g_aload_n rfl rfl ?_
          refine g_iload rfl rfl ?_
          refine g_iload rfl rfl ?_
          refine g_if_ge_t rfl (by omega) ?_
          refine g_aload_n rfl rfl ?_
          refine g_iload rfl rfl ?_
          refine g_iald (i := 3) rfl (ms.slot hP) (by omega) (by omega) ?_
          refine g_top (v2 := aI ((p389 : Int))) (congrArg aI (by exact s391.2.2.2)) ?_
          refine g_iast (i := 3) rfl (ms.slot hP) (by omega) (by omega) ?_
          obtain ⟨V393, eV393⟩ : ∃ W, W = vset V391 aP 3 (p389 : Int) := ⟨_, rfl⟩
          refine g_hp (h2 := hw h V393) (by rw [eV393]; rfl) ?_
          have g393 : Gs V391 V393 o 0 (fun q => q = aP) := by rw [eV393]; exact Gs.cell hP
          have s393 : SA V393 aP p371 p377 p383 p389 := by rw [eV393]; exact SA.c3 s391 p389
          have G_394 := G_392.trans (g393.wide (fun q hq => by have hq : q = aP := hq; show q = aP; omega))
          refine g_iinc (l1 := [(5, aI 4), (4, aI (lcmp P.2.2.1 0)), (3, aI ((p5 : Int))), (0, aO (some o)), (1, aO (some aP)), (2, aI 0)]) rfl rfl (by omega) (by omega) rfl ?_
          refine g_goto rfl ?_
          refine g_iload rfl rfl ?_
          refine g_iconst rfl ?_
          refine g_icmp_ge_t rfl (by omega) ?_
          refine g_vret rfl ?_
          refine ⟨V393, rfl, G_394.mono (by omega), ?_⟩
          have l0 := @lcmp_0 P.1 0
          have m0 := @lcmp_lt P.1 0
          have n0 := @lcmp_gt P.1 0
          have l1 := @lcmp_0 P.2.1 0
          have m1 := @lcmp_lt P.2.1 0
          have n1 := @lcmp_gt P.2.1 0
          have l2 := @lcmp_0 P.2.2.1 0
          have m2 := @lcmp_lt P.2.2.1 0
          have n2 := @lcmp_gt P.2.2.1 0
          unfold m_low
          first
            | (rw [if_pos (by omega)]; unfold set_up)
            | (rw [if_neg (by omega)]; unfold set_dn)
          exact ⟨_, _, _, _, s393, ((g393.rb (g391.rb (g389.rb (g387.rb (g385.rb (g383.rb (g381.rb (g379.rb (g377.rb (g375.rb (g373.rb xp371))))))))))).up (by omega)), ((g393.rb (g391.rb (g389.rb (g387.rb (g385.rb (g383.rb (g381.rb (g379.rb xp377)))))))).up (by omega)), ((g393.rb (g391.rb (g389.rb (g387.rb (g385.rb xp383))))).up (by omega)), ((g393.rb (g391.rb xp389)).up (by omega))⟩
        · skip
          refine g_aload_n rfl rfl ?_
          refine g_aload_n rfl rfl ?_
          refine g_iload rfl rfl ?_
          refine g_iald (i := 0) rfl (ms.slot hP) (by omega) (by omega) ?_
          refine g_top (v2 := aI ((p371 : Int))) (congrArg aI (by exact s373.1)) ?_
          refine g_callVI [aI ((p371 : Int))] [aI 0, aO (some aP)] rfl rfl rfl rfl (Nat.le_of_ble_eq_true rfl) ms.1 (r_neg (by omega) ms V373 (by have := G_374.2.2.1; omega) (g373.rb xp371) (by omega)) ?_
          rintro _ _ ⟨p395, rfl, V395, rfl, g395, xp395⟩
          have G_396 := G_374.trans (g395.gs _)
          refine g_goto rfl ?_
          refine g_iast (i := 0) rfl (ms.slot hP) (by omega) (by omega) ?_
          obtain ⟨V397, eV397⟩ : ∃ W, W = vset V395 aP 0 (p395 : Int) := ⟨_, rfl⟩
          refine g_hp (h2 := hw h V397) (by rw [eV397]; rfl) ?_
          have g397 : Gs V395 V397 o 0 (fun q => q = aP) := by rw [eV397]; exact Gs.cell hP
          have s397 : SA V397 aP p395 Pq Pr Ps := by rw [eV397]; exact SA.c0 (g395.sa hP s373) p395
          have G_398 := G_396.trans (g397.wide (fun q hq => by have hq : q = aP := hq; show q = aP; omega))
          refine g_iinc (l1 := [(5, aI 1), (4, aI (lcmp P.2.2.1 0)), (3, aI ((p5 : Int))), (0, aO (some o)), (1, aO (some aP)), (2, aI 0)]) rfl rfl (by omega) (by omega) rfl ?_
          refine g_goto rfl ?_
          refine g_iload rfl rfl ?_
          refine g_iconst rfl ?_
          refine g_icmp_ge_f rfl (by omega) ?_
          refine g_aload_n rfl rfl ?_
          refine g_iload rfl rfl ?_
          refine g_aload_n rfl rfl ?_
          refine g_aload_n rfl rfl ?_
          refine g_iload rfl rfl ?_
          refine g_iald (i := 1) rfl (ms.slot hP) (by omega) (by omega) ?_
          refine g_top (v2 := aI ((Pq : Int))) (congrArg aI (by exact s397.2.1)) ?_
          refine g_iload_n rfl rfl ?_
          refine g_callVI [aI ((Pq : Int)), aI ((p5 : Int))] [aI 1, aO (some aP)] rfl rfl rfl rfl (Nat.le_of_ble_eq_true rfl) ms.1 (r_div (by omega) ms V397 (by have := G_398.2.2.1; omega) (g397.rb (g395.rb (g373.rb (g371.rb (g5.rb (g3.rb (g1.rb xPq))))))) (g397.rb (g395.rb (g373.rb (g371.rb xp5)))) (by intro h0; have q4 := g4_0 h0; omega) (by omega) (by omega)) ?_
          rintro _ _ ⟨p399, rfl, V399, rfl, g399, xp399⟩
          have G_400 := G_398.trans (g399.gs _)
          refine g_iast (i := 1) rfl (ms.slot hP) (by omega) (by omega) ?_
          obtain ⟨V401, eV401⟩ : ∃ W, W = vset V399 aP 1 (p399 : Int) := ⟨_, rfl⟩
          refine g_hp (h2 := hw h V401) (by rw [eV401]; rfl) ?_
          have g401 : Gs V399 V401 o 0 (fun q => q = aP) := by rw [eV401]; exact Gs.cell hP
          have s401 : SA V401 aP p395 p399 Pr Ps := by rw [eV401]; exact SA.c1 (g399.sa hP s397) p399
          have G_402 := G_400.trans (g401.wide (fun q hq => by have hq : q = aP := hq; show q = aP; omega))
          refine g_aload_n rfl rfl ?_
          refine g_iload rfl rfl ?_
          refine g_iload rfl rfl ?_
          refine g_if_ge_f rfl (by omega) ?_
          refine g_aload_n rfl rfl ?_
          refine g_aload_n rfl rfl ?_
          refine g_iload rfl rfl ?_
          refine g_iald (i := 1) rfl (ms.slot hP) (by omega) (by omega) ?_
          refine g_top (v2 := aI ((p399 : Int))) (congrArg aI (by exact s401.2.1)) ?_
          refine g_callVI [aI ((p399 : Int))] [aI 1, aO (some aP)] rfl rfl rfl rfl (Nat.le_of_ble_eq_true rfl) ms.1 (r_neg (by omega) ms V401 (by have := G_402.2.2.1; omega) (g401.rb xp399) (by omega)) ?_
          rintro _ _ ⟨p403, rfl, V403, rfl, g403, xp403⟩
          have G_404 := G_402.trans (g403.gs _)
          refine g_goto rfl ?_
          refine g_iast (i := 1) rfl (ms.slot hP) (by omega) (by omega) ?_
          obtain ⟨V405, eV405⟩ : ∃ W, W = vset V403 aP 1 (p403 : Int) := ⟨_, rfl⟩
          refine g_hp (h2 := hw h V405) (by rw [eV405]; rfl) ?_
          have g405 : Gs V403 V405 o 0 (fun q => q = aP) := by rw [eV405]; exact Gs.cell hP
          have s405 : SA V405 aP p395 p403 Pr Ps := by rw [eV405]; exact SA.c1 (g403.sa hP s401) p403
          have G_406 := G_404.trans (g405.wide (fun q hq => by have hq : q = aP := hq; show q = aP; omega))
          refine g_iinc (l1 := [(5, aI 2), (4, aI (lcmp P.2.2.1 0)), (3, aI ((p5 : Int))), (0, aO (some o)), (1, aO (some aP)), (2, aI 0)]) rfl rfl (by omega) (by omega) rfl ?_
          refine g_goto rfl ?_
          refine g_iload rfl rfl ?_
          refine g_iconst rfl ?_
          refine g_icmp_ge_f rfl (by omega) ?_
          refine g_aload_n rfl rfl ?_
          refine g_iload rfl rfl ?_
          refine g_aload_n rfl rfl ?_
          refine g_aload_n rfl rfl ?_
          refine g_iload rfl rfl ?_
          refine g_iald (i := 2) rfl (ms.slot hP) (by omega) (by omega) ?_
          refine g_top (v2 := aI ((Pr : Int))) (congrArg aI (by exact s405.2.2.1)) ?_
          refine g_iload_n rfl rfl ?_
          refine g_callVI [aI ((Pr : Int)), aI ((p5 : Int))] [aI 2, aO (some aP)] rfl rfl rfl rfl (Nat.le_of_ble_eq_true rfl) ms.1 (r_div (by omega) ms V405 (by have := G_406.2.2.1; omega) (g405.rb (g403.rb (g401.rb (g399.rb (g397.rb (g395.rb (g373.rb (g371.rb (g5.rb (g3.rb (g1.rb xPr))))))))))) (g405.rb (g403.rb (g401.rb (g399.rb (g397.rb (g395.rb (g373.rb (g371.rb xp5)))))))) (by intro h0; have q4 := g4_0 h0; omega) (by omega) (by omega)) ?_
          rintro _ _ ⟨p407, rfl, V407, rfl, g407, xp407⟩
          have G_408 := G_406.trans (g407.gs _)
          refine g_iast (i := 2) rfl (ms.slot hP) (by omega) (by omega) ?_
          obtain ⟨V409, eV409⟩ : ∃ W, W = vset V407 aP 2 (p407 : Int) := ⟨_, rfl⟩
          refine g_hp (h2 := hw h V409) (by rw [eV409]; rfl) ?_
          have g409 : Gs V407 V409 o 0 (fun q => q = aP) := by rw [eV409]; exact Gs.cell hP
          have s409 : SA V409 aP p395 p403 p407 Ps := by rw [eV409]; exact SA.c2 (g407.sa hP s405) p407
          have G_410 := G_408.trans (g409.wide (fun q hq => by have hq : q = aP := hq; show q = aP; omega))
          refine g_aload_n rfl rfl ?_
          refine g_iload rfl rfl ?_
          refine g_iload rfl rfl ?_
          refine g_if_ge_f rfl (by omega) ?_
          refine g_aload_n rfl rfl ?_
          refine g_aload_n rfl rfl ?_
          refine g_iload rfl rfl ?_
          refine g_iald (i := 2) rfl (ms.slot hP) (by omega) (by omega) ?_
          refine g_top (v2 := aI ((p407 : Int))) (congrArg aI (by exact s409.2.2.1)) ?_
          refine g_callVI [aI ((p407 : Int))] [aI 2, aO (some aP)] rfl rfl rfl rfl (Nat.le_of_ble_eq_true rfl) ms.1 (r_neg (by omega) ms V409 (by have := G_410.2.2.1; omega) (g409.rb xp407) (by omega)) ?_
          rintro _ _ ⟨p411, rfl, V411, rfl, g411, xp411⟩
          have G_412 := G_410.trans (g411.gs _)
          refine g_goto rfl ?_
          refine g_iast (i := 2) rfl (ms.slot hP) (by omega) (by omega) ?_
          obtain ⟨V413, eV413⟩ : ∃ W, W = vset V411 aP 2 (p411 : Int) := ⟨_, rfl⟩
          refine g_hp (h2 := hw h V413) (by rw [eV413]; rfl) ?_
          have g413 : Gs V411 V413 o 0 (fun q => q = aP) := by rw [eV413]; exact Gs.cell hP
          have s413 : SA V413 aP p395 p403 p411 Ps := by rw [eV413]; exact SA.c2 (g411.sa hP s409) p411
          have G_414 := G_412.trans (g413.wide (fun q hq => by have hq : q = aP := hq; show q = aP; omega))
          refine g_iinc (l1 := [(5, aI 3), (4, aI (lcmp P.2.2.1 0)), (3, aI ((p5 : Int))), (0, aO (some o)), (1, aO (some aP)), (2, aI 0)]) rfl rfl (by omega) (by omega) rfl ?_
          refine g_goto rfl ?_
          refine g_iload rfl rfl ?_
          refine g_iconst rfl ?_
          refine g_icmp_ge_f rfl (by omega) ?_
          refine g_aload_n rfl rfl ?_
          refine g_iload rfl rfl ?_
          refine g_aload_n rfl rfl ?_
          refine g_aload_n rfl rfl ?_
          refine g_iload rfl rfl ?_
          refine g_iald (i := 3) rfl (ms.slot hP) (by omega) (by omega) ?_
          refine g_top (v2 := aI ((Ps : Int))) (congrArg aI (by exact s413.2.2.2)) ?_
          refine g_iload_n rfl rfl ?_
          refine g_callVI [aI ((Ps : Int)), aI ((p5 : Int))] [aI 3, aO (some aP)] rfl rfl rfl rfl (Nat.le_of_ble_eq_true rfl) ms.1 (r_div (by omega) ms V413 (by have := G_414.2.2.1; omega) (g413.rb (g411.rb (g409.rb (g407.rb (g405.rb (g403.rb (g401.rb (g399.rb (g397.rb (g395.rb (g373.rb (g371.rb (g5.rb (g3.rb (g1.rb xPs))))))))))))))) (g413.rb (g411.rb (g409.rb (g407.rb (g405.rb (g403.rb (g401.rb (g399.rb (g397.rb (g395.rb (g373.rb (g371.rb xp5)))))))))))) (by intro h0; have q4 := g4_0 h0; omega) (by omega) (by omega)) ?_
          rintro _ _ ⟨p415, rfl, V415, rfl, g415, xp415⟩
          have G_416 := G_414.trans (g415.gs _)
          refine g_iast (i := 3) rfl (ms.slot hP) (by omega) (by omega) ?_
          obtain ⟨V417, eV417⟩ : ∃ W, W = vset V415 aP 3 (p415 : Int) := ⟨_, rfl⟩
          refine g_hp (h2 := hw h V417) (by rw [eV417]; rfl) ?_
          have g417 : Gs V415 V417 o 0 (fun q => q = aP) := by rw [eV417]; exact Gs.cell hP
          have s417 : SA V417 aP p395 p403 p411 p415 := by rw [eV417]; exact SA.c3 (g415.sa hP s413) p415
          have G_418 := G_416.trans (g417.wide (fun q hq => by have hq : q = aP := hq; show q = aP; omega))
          refine g_aload_n rfl rfl ?_
          refine g_iload rfl rfl ?_
          refine g_iload rfl rfl ?_
          refine g_if_ge_f rfl (by omega) ?_
          refine g_aload_n rfl rfl ?_
          refine g_aload_n rfl rfl ?_
          refine g_iload rfl rfl ?_
          refine g_iald (i := 3) rfl (ms.slot hP) (by omega) (by omega) ?_
          refine g_top (v2 := aI ((p415 : Int))) (congrArg aI (by exact s417.2.2.2)) ?_
          refine g_callVI [aI ((p415 : Int))] [aI 3, aO (some aP)] rfl rfl rfl rfl (Nat.le_of_ble_eq_true rfl) ms.1 (r_neg (by omega) ms V417 (by have := G_418.2.2.1; omega) (g417.rb xp415) (by omega)) ?_
          rintro _ _ ⟨p419, rfl, V419, rfl, g419, xp419⟩
          have G_420 := G_418.trans (g419.gs _)
          refine g_goto rfl ?_
          refine g_iast (i := 3) rfl (ms.slot hP) (by omega) (by omega) ?_
          obtain ⟨V421, eV421⟩ : ∃ W, W = vset V419 aP 3 (p419 : Int) := ⟨_, rfl⟩
          refine g_hp (h2 := hw h V421) (by rw [eV421]; rfl) ?_
          have g421 : Gs V419 V421 o 0 (fun q => q = aP) := by rw [eV421]; exact Gs.cell hP
          have s421 : SA V421 aP p395 p403 p411 p419 := by rw [eV421]; exact SA.c3 (g419.sa hP s417) p419
          have G_422 := G_420.trans (g421.wide (fun q hq => by have hq : q = aP := hq; show q = aP; omega))
          refine g_iinc (l1 := [(5, aI 4), (4, aI (lcmp P.2.2.1 0)), (3, aI ((p5 : Int))), (0, aO (some o)), (1, aO (some aP)), (2, aI 0)]) rfl rfl (by omega) (by omega) rfl ?_
          refine g_goto rfl ?_
          refine g_iload rfl rfl ?_
          refine g_iconst rfl ?_
          refine g_icmp_ge_t rfl (by omega) ?_
          refine g_vret rfl ?_
          refine ⟨V421, rfl, G_422.mono (by omega), ?_⟩
          have l0 := @lcmp_0 P.1 0
          have m0 := @lcmp_lt P.1 0
          have n0 := @lcmp_gt P.1 0
          have l1 := @lcmp_0 P.2.1 0
          have m1 := @lcmp_lt P.2.1 0
          have n1 := @lcmp_gt P.2.1 0
          have l2 := @lcmp_0 P.2.2.1 0
          have m2 := @lcmp_lt P.2.2.1 0
          have n2 := @lcmp_gt P.2.2.1 0
          unfold m_low
          first
            | (rw [if_pos (by omega)]; unfold set_up)
            | (rw [if_neg (by omega)]; unfold set_dn)
          exact ⟨_, _, _, _, s421, ((g421.rb (g419.rb (g417.rb (g415.rb (g413.rb (g411.rb (g409.rb (g407.rb (g405.rb (g403.rb (g401.rb (g399.rb (g397.rb xp395))))))))))))).up (by omega)), ((g421.rb (g419.rb (g417.rb (g415.rb (g413.rb (g411.rb (g409.rb (g407.rb (g405.rb xp403))))))))).up (by omega)), ((g421.rb (g419.rb (g417.rb (g415.rb (g413.rb xp411))))).up (by omega)), ((g421.rb xp419).up (by omega))⟩
set_option maxHeartbeats 4000000 in
theorem m_settle1 {w : aW} {d : Nat} (hd : 7 ≤ d) {k : Nat} {h : aH} {o : Nat} (ms : MS h o) (V : Nat → Nat → Int) (hF : 0 ≤ V o 1 ∧ V o 1 + 22 ≤ 700) {P : T4} (aP : Nat) (hP : SLa o aP) (tP : SB V o aP P (k))  (hk : k ≤ 381) : WP w d 288 [aO (some o), aO (some aP), aI 1] (hw h V) (RN (fun h1 => ∃ V1, h1 = hw h V1 ∧ Gs V V1 o 22 (fun q => q = aP) ∧ SB V1 o aP (m_low P) (k))) := by
  obtain ⟨d, rfl⟩ : ∃ d1, d = d1 + 1 := ⟨d - 1, by omega⟩
  refine WP.enter (cd := cd_X12_settle) rfl ?_
  have G0 := Gs.refl V o (fun q => q = aP)
  obtain ⟨Pp, Pq, Pr, Ps, sP, xPp, xPq, xPr, xPs⟩ := tP
  have hs_P := hP
  unfold SLa at hs_P
  have hls : largs 0 [aO (some o), aO (some aP), aI 1] = [(0, aO (some o)), (1, aO (some aP)), (2, aI 1)] := rfl
  rw [hls]
  clear hls
  refine g_aload_n rfl rfl ?_
  refine g_aload_n rfl rfl ?_
  refine g_aload_n rfl rfl ?_
  refine g_iconst rfl ?_
  refine g_iald (i := 0) rfl (ms.slot hP) (by omega) (by omega) ?_
  refine g_top (v2 := aI ((Pp : Int))) (congrArg aI (by exact sP.1)) ?_
  refine g_aload_n rfl rfl ?_
  refine g_iconst rfl ?_
  refine g_iald (i := 1) rfl (ms.slot hP) (by omega) (by omega) ?_
  refine g_top (v2 := aI ((Pq : Int))) (congrArg aI (by exact sP.2.1)) ?_
  refine g_callVI [aI ((Pp : Int)), aI ((Pq : Int))] [aO (some o)] rfl rfl rfl rfl (Nat.le_of_ble_eq_true rfl) ms.1 (r_gcd (by omega) ms V (by have := G0.2.2.1; omega) (show RB V o Pp P.1 (k) from (xPp.up (by omega))) (show RB V o Pq P.2.1 (k) from (xPq.up (by omega)))) ?_
  rintro _ _ ⟨p1, rfl, V1, rfl, g1, xp1⟩
  have G_2 := G0.trans (g1.gs _)
  refine g_aload_n rfl rfl ?_
  refine g_aload_n rfl rfl ?_
  refine g_iconst rfl ?_
  refine g_iald (i := 2) rfl (ms.slot hP) (by omega) (by omega) ?_
  refine g_top (v2 := aI ((Pr : Int))) (congrArg aI (by exact (g1.sa hP sP).2.2.1)) ?_
  refine g_aload_n rfl rfl ?_
  refine g_iconst rfl ?_
  refine g_iald (i := 3) rfl (ms.slot hP) (by omega) (by omega) ?_
  refine g_top (v2 := aI ((Ps : Int))) (congrArg aI (by exact (g1.sa hP sP).2.2.2)) ?_
  refine g_callVI [aI ((Pr : Int)), aI ((Ps : Int))] [aI ((p1 : Int)), aO (some o)] rfl rfl rfl rfl (Nat.le_of_ble_eq_true rfl) ms.1 (r_gcd (by omega) ms V1 (by have := G_2.2.2.1; omega) (show RB V1 o Pr P.2.2.1 (k) from ((g1.rb xPr).up (by omega))) (show RB V1 o Ps P.2.2.2 (k) from ((g1.rb xPs).up (by omega)))) ?_
  rintro _ _ ⟨p3, rfl, V3, rfl, g3, xp3⟩
  have G_4 := G_2.trans (g3.gs _)
  refine g_callVI [aI ((p1 : Int)), aI ((p3 : Int))] [] rfl rfl rfl rfl (Nat.le_of_ble_eq_true rfl) ms.1 (r_gcd (by omega) ms V3 (by have := G_4.2.2.1; omega) (show RB V3 o p1 (((Int.gcd P.1 P.2.1 : Nat) : Int)) (k) from ((g3.rb xp1).up (by omega))) (show RB V3 o p3 (((Int.gcd P.2.2.1 P.2.2.2 : Nat) : Int)) (k) from (xp3.up (by omega)))) ?_
  rintro _ _ ⟨p5, rfl, V5, rfl, g5, xp5⟩
  have xp5 : RB V5 o p5 (g4 P) (k) := xp5
  have G_6 := G_4.trans (g5.gs _)
  refine g_istore_n (l1 := [(3, aI ((p5 : Int))), (0, aO (some o)), (1, aO (some aP)), (2, aI 1)]) rfl rfl ?_
  refine g_iconst rfl ?_
  refine g_istore (l1 := [(4, aI 0), (3, aI ((p5 : Int))), (0, aO (some o)), (1, aO (some aP)), (2, aI 1)]) rfl rfl ?_
  refine g_iload_n rfl rfl ?_
  refine g_iconst rfl ?_
  refine g_icmp_ne_t rfl (by omega) ?_
  refine g_iconst rfl ?_
  refine g_istore (l1 := [(5, aI 0), (4, aI 0), (3, aI ((p5 : Int))), (0, aO (some o)), (1, aO (some aP)), (2, aI 1)]) rfl rfl ?_
  refine g_iload rfl rfl ?_
  refine g_iconst rfl ?_
  refine g_icmp_ge_f rfl (by omega) ?_
  refine g_aload_n rfl rfl ?_
  refine g_aload_n rfl rfl ?_
  refine g_iload rfl rfl ?_
  refine g_iald (i := 0) rfl (ms.slot hP) (by omega) (by omega) ?_
  refine g_top (v2 := aI ((Pp : Int))) (congrArg aI (by exact (g5.sa hP (g3.sa hP (g1.sa hP sP))).1)) ?_
  refine g_callVI [aI ((Pp : Int))] [] rfl rfl rfl rfl (Nat.le_of_ble_eq_true rfl) ms.1 (r_sign (by omega) ms V5 (g5.rb (g3.rb (g1.rb xPp)))) ?_
  rintro r7 _ ⟨rfl, e8⟩
  rw [e8]
  clear e8 r7
  refine g_if_eq rfl (fun c62 => ?_) (fun c62 => ?_)
  · skip
    refine g_iload rfl rfl ?_
    refine g_istore (l1 := [(4, aI 0), (5, aI 0), (3, aI ((p5 : Int))), (0, aO (some o)), (1, aO (some aP)), (2, aI 1)]) rfl rfl ?_
    refine g_iinc (l1 := [(5, aI 1), (4, aI 0), (3, aI ((p5 : Int))), (0, aO (some o)), (1, aO (some aP)), (2, aI 1)]) rfl rfl (by omega) (by omega) rfl ?_
    refine g_goto rfl ?_
    refine g_iload rfl rfl ?_
    refine g_iconst rfl ?_
    refine g_icmp_ge_f rfl (by omega) ?_
    refine g_aload_n rfl rfl ?_
    refine g_aload_n rfl rfl ?_
    refine g_iload rfl rfl ?_
    refine g_iald (i := 1) rfl (ms.slot hP) (by omega) (by omega) ?_
    refine g_top (v2 := aI ((Pq : Int))) (congrArg aI (by exact (g5.sa hP (g3.sa hP (g1.sa hP sP))).2.1)) ?_
    refine g_callVI [aI ((Pq : Int))] [] rfl rfl rfl rfl (Nat.le_of_ble_eq_true rfl) ms.1 (r_sign (by omega) ms V5 (g5.rb (g3.rb (g1.rb xPq)))) ?_
    rintro r9 _ ⟨rfl, e10⟩
    rw [e10]
    clear e10 r9
    refine g_if_eq rfl (fun c62 => ?_) (fun c62 => ?_)
    · skip
      refine g_iload rfl rfl ?_
      refine g_istore (l1 := [(4, aI 0), (5, aI 1), (3, aI ((p5 : Int))), (0, aO (some o)), (1, aO (some aP)), (2, aI 1)]) rfl rfl ?_
      refine g_iinc (l1 := [(5, aI 2), (4, aI 0), (3, aI ((p5 : Int))), (0, aO (some o)), (1, aO (some aP)), (2, aI 1)]) rfl rfl (by omega) (by omega) rfl ?_
      refine g_goto rfl ?_
      refine g_iload rfl rfl ?_
      refine g_iconst rfl ?_
      refine g_icmp_ge_f rfl (by omega) ?_
      refine g_aload_n rfl rfl ?_
      refine g_aload_n rfl rfl ?_
      refine g_iload rfl rfl ?_
      refine g_iald (i := 2) rfl (ms.slot hP) (by omega) (by omega) ?_
      refine g_top (v2 := aI ((Pr : Int))) (congrArg aI (by exact (g5.sa hP (g3.sa hP (g1.sa hP sP))).2.2.1)) ?_
      refine g_callVI [aI ((Pr : Int))] [] rfl rfl rfl rfl (Nat.le_of_ble_eq_true rfl) ms.1 (r_sign (by omega) ms V5 (g5.rb (g3.rb (g1.rb xPr)))) ?_
      rintro r11 _ ⟨rfl, e12⟩
      rw [e12]
      clear e12 r11
      refine g_if_eq rfl (fun c62 => ?_) (fun c62 => ?_)
      · skip
        refine g_iload rfl rfl ?_
        refine g_istore (l1 := [(4, aI 0), (5, aI 2), (3, aI ((p5 : Int))), (0, aO (some o)), (1, aO (some aP)), (2, aI 1)]) rfl rfl ?_
        refine g_iinc (l1 := [(5, aI 3), (4, aI 0), (3, aI ((p5 : Int))), (0, aO (some o)), (1, aO (some aP)), (2, aI 1)]) rfl rfl (by omega) (by omega) rfl ?_
        refine g_goto rfl ?_
        refine g_iload rfl rfl ?_
        refine g_iconst rfl ?_
        refine g_icmp_ge_t rfl (by omega) ?_
        refine g_iconst rfl ?_
        refine g_istore (l1 := [(5, aI 0), (4, aI 0), (3, aI ((p5 : Int))), (0, aO (some o)), (1, aO (some aP)), (2, aI 1)]) rfl rfl ?_
        refine g_iload rfl rfl ?_
        refine g_iconst rfl ?_
        refine g_icmp_ge_f rfl (by omega) ?_
        refine g_aload_n rfl rfl ?_
        refine g_iload rfl rfl ?_
        refine g_aload_n rfl rfl ?_
        refine g_aload_n rfl rfl ?_
        refine g_iload rfl rfl ?_
        refine g_iald (i := 0) rfl (ms.slot hP) (by omega) (by omega) ?_
        refine g_top (v2 := aI ((Pp : Int))) (congrArg aI (by exact (g5.sa hP (g3.sa hP (g1.sa hP sP))).1)) ?_
        refine g_iload_n rfl rfl ?_
        refine g_callVI [aI ((Pp : Int)), aI ((p5 : Int))] [aI 0, aO (some aP)] rfl rfl rfl rfl (Nat.le_of_ble_eq_true rfl) ms.1 (r_div (by omega) ms V5 (by have := G_6.2.2.1; omega) (g5.rb (g3.rb (g1.rb xPp))) xp5 (by intro h0; have q4 := g4_0 h0; omega) (by omega) (by omega)) ?_
        rintro _ _ ⟨p13, rfl, V13, rfl, g13, xp13⟩
        have G_14 := G_6.trans (g13.gs _)
        refine g_iast (i := 0) rfl (ms.slot hP) (by omega) (by omega) ?_
        obtain ⟨V15, eV15⟩ : ∃ W, W = vset V13 aP 0 (p13 : Int) := ⟨_, rfl⟩
        refine g_hp (h2 := hw h V15) (by rw [eV15]; rfl) ?_
        have g15 : Gs V13 V15 o 0 (fun q => q = aP) := by rw [eV15]; exact Gs.cell hP
        have s15 : SA V15 aP p13 Pq Pr Ps := by rw [eV15]; exact SA.c0 (g13.sa hP (g5.sa hP (g3.sa hP (g1.sa hP sP)))) p13
        have G_16 := G_14.trans (g15.wide (fun q hq => by have hq : q = aP := hq; show q = aP; omega))
        refine g_aload_n rfl rfl ?_
        refine g_iload rfl rfl ?_
        refine g_iload rfl rfl ?_
        refine g_if_ge_t rfl (by omega) ?_
        refine g_aload_n rfl rfl ?_
        refine g_iload rfl rfl ?_
        refine g_iald (i := 0) rfl (ms.slot hP) (by omega) (by omega) ?_
        refine g_top (v2 := aI ((p13 : Int))) (congrArg aI (by exact s15.1)) ?_
        refine g_iast (i := 0) rfl (ms.slot hP) (by omega) (by omega) ?_
        obtain ⟨V17, eV17⟩ : ∃ W, W = vset V15 aP 0 (p13 : Int) := ⟨_, rfl⟩
        refine g_hp (h2 := hw h V17) (by rw [eV17]; rfl) ?_
        have g17 : Gs V15 V17 o 0 (fun q => q = aP) := by rw [eV17]; exact Gs.cell hP
        have s17 : SA V17 aP p13 Pq Pr Ps := by rw [eV17]; exact SA.c0 s15 p13
        have G_18 := G_16.trans (g17.wide (fun q hq => by have hq : q = aP := hq; show q = aP; omega))
        refine g_iinc (l1 := [(5, aI 1), (4, aI 0), (3, aI ((p5 : Int))), (0, aO (some o)), (1, aO (some aP)), (2, aI 1)]) rfl rfl (by omega) (by omega) rfl ?_
        refine g_goto rfl ?_
        refine g_iload rfl rfl ?_
        refine g_iconst rfl ?_
        refine g_icmp_ge_f rfl (by omega) ?_
        refine g_aload_n rfl rfl ?_
        refine g_iload rfl rfl ?_
        refine g_aload_n rfl rfl ?_
        refine g_aload_n rfl rfl ?_
        refine g_iload rfl rfl ?_
        refine g_iald (i := 1) rfl (ms.slot hP) (by omega) (by omega) ?_
        refine g_top (v2 := aI ((Pq : Int))) (congrArg aI (by exact s17.2.1)) ?_
        refine g_iload_n rfl rfl ?_
        refine g_callVI [aI ((Pq : Int)), aI ((p5 : Int))] [aI 1, aO (some aP)] rfl rfl rfl rfl (Nat.le_of_ble_eq_true rfl) ms.1 (r_div (by omega) ms V17 (by have := G_18.2.2.1; omega) (g17.rb (g15.rb (g13.rb (g5.rb (g3.rb (g1.rb xPq)))))) (g17.rb (g15.rb (g13.rb xp5))) (by intro h0; have q4 := g4_0 h0; omega) (by omega) (by omega)) ?_
        rintro _ _ ⟨p19, rfl, V19, rfl, g19, xp19⟩
        have G_20 := G_18.trans (g19.gs _)
        refine g_iast (i := 1) rfl (ms.slot hP) (by omega) (by omega) ?_
        obtain ⟨V21, eV21⟩ : ∃ W, W = vset V19 aP 1 (p19 : Int) := ⟨_, rfl⟩
        refine g_hp (h2 := hw h V21) (by rw [eV21]; rfl) ?_
        have g21 : Gs V19 V21 o 0 (fun q => q = aP) := by rw [eV21]; exact Gs.cell hP
        have s21 : SA V21 aP p13 p19 Pr Ps := by rw [eV21]; exact SA.c1 (g19.sa hP s17) p19
        have G_22 := G_20.trans (g21.wide (fun q hq => by have hq : q = aP := hq; show q = aP; omega))
        refine g_aload_n rfl rfl ?_
        refine g_iload rfl rfl ?_
        refine g_iload rfl rfl ?_
        refine g_if_ge_t rfl (by omega) ?_
        refine g_aload_n rfl rfl ?_
        refine g_iload rfl rfl ?_
        refine g_iald (i := 1) rfl (ms.slot hP) (by omega) (by omega) ?_
        refine g_top (v2 := aI ((p19 : Int))) (congrArg aI (by exact s21.2.1)) ?_
        refine g_iast (i := 1) rfl (ms.slot hP) (by omega) (by omega) ?_
        obtain ⟨V23, eV23⟩ : ∃ W, W = vset V21 aP 1 (p19 : Int) := ⟨_, rfl⟩
        refine g_hp (h2 := hw h V23) (by rw [eV23]; rfl) ?_
        have g23 : Gs V21 V23 o 0 (fun q => q = aP) := by rw [eV23]; exact Gs.cell hP
        have s23 : SA V23 aP p13 p19 Pr Ps := by rw [eV23]; exact SA.c1 s21 p19
        have G_24 := G_22.trans (g23.wide (fun q hq => by have hq : q = aP := hq; show q = aP; omega))
        refine g_iinc (l1 := [(5, aI 2), (4, aI 0), (3, aI ((p5 : Int))), (0, aO (some o)), (1, aO (some aP)), (2, aI 1)]) rfl rfl (by omega) (by omega) rfl ?_
        refine g_goto rfl ?_
        refine g_iload rfl rfl ?_
        refine g_iconst rfl ?_
        refine g_icmp_ge_f rfl (by omega) ?_
        refine g_aload_n rfl rfl ?_
        refine g_iload rfl rfl ?_
        refine g_aload_n rfl rfl ?_
        refine g_aload_n rfl rfl ?_
        refine g_iload rfl rfl ?_
        refine g_iald (i := 2) rfl (ms.slot hP) (by omega) (by omega) ?_
        refine g_top (v2 := aI ((Pr : Int))) (congrArg aI (by exact s23.2.2.1)) ?_
        refine g_iload_n rfl rfl ?_
        refine g_callVI [aI ((Pr : Int)), aI ((p5 : Int))] [aI 2, aO (some aP)] rfl rfl rfl rfl (Nat.le_of_ble_eq_true rfl) ms.1 (r_div (by omega) ms V23 (by have := G_24.2.2.1; omega) (g23.rb (g21.rb (g19.rb (g17.rb (g15.rb (g13.rb (g5.rb (g3.rb (g1.rb xPr))))))))) (g23.rb (g21.rb (g19.rb (g17.rb (g15.rb (g13.rb xp5)))))) (by intro h0; have q4 := g4_0 h0; omega) (by omega) (by omega)) ?_
        rintro _ _ ⟨p25, rfl, V25, rfl, g25, xp25⟩
        have G_26 := G_24.trans (g25.gs _)
        refine g_iast (i := 2) rfl (ms.slot hP) (by omega) (by omega) ?_
        obtain ⟨V27, eV27⟩ : ∃ W, W = vset V25 aP 2 (p25 : Int) := ⟨_, rfl⟩
        refine g_hp (h2 := hw h V27) (by rw [eV27]; rfl) ?_
        have g27 : Gs V25 V27 o 0 (fun q => q = aP) := by rw [eV27]; exact Gs.cell hP
        have s27 : SA V27 aP p13 p19 p25 Ps := by rw [eV27]; exact SA.c2 (g25.sa hP s23) p25
        have G_28 := G_26.trans (g27.wide (fun q hq => by have hq : q = aP := hq; show q = aP; omega))
        refine g_aload_n rfl rfl ?_
        refine g_iload rfl rfl ?_
        refine g_iload rfl rfl ?_
        refine g_if_ge_t rfl (by omega) ?_
        refine g_aload_n rfl rfl ?_
        refine g_iload rfl rfl ?_
        refine g_iald (i := 2) rfl (ms.slot hP) (by omega) (by omega) ?_
        refine g_top (v2 := aI ((p25 : Int))) (congrArg aI (by exact s27.2.2.1)) ?_
        refine g_iast (i := 2) rfl (ms.slot hP) (by omega) (by omega) ?_
        obtain ⟨V29, eV29⟩ : ∃ W, W = vset V27 aP 2 (p25 : Int) := ⟨_, rfl⟩
        refine g_hp (h2 := hw h V29) (by rw [eV29]; rfl) ?_
        have g29 : Gs V27 V29 o 0 (fun q => q = aP) := by rw [eV29]; exact Gs.cell hP
        have s29 : SA V29 aP p13 p19 p25 Ps := by rw [eV29]; exact SA.c2 s27 p25
        have G_30 := G_28.trans (g29.wide (fun q hq => by have hq : q = aP := hq; show q = aP; omega))
        refine g_iinc (l1 := [(5, aI 3), (4, aI 0), (3, aI ((p5 : Int))), (0, aO (some o)), (1, aO (some aP)), (2, aI 1)]) rfl rfl (by omega) (by omega) rfl ?_
        refine g_goto rfl ?_
        refine g_iload rfl rfl ?_
        refine g_iconst rfl ?_
        refine g_icmp_ge_f rfl (by omega) ?_
        refine g_aload_n rfl rfl ?_
        refine g_iload rfl rfl ?_
        refine g_aload_n rfl rfl ?_
        refine g_aload_n rfl rfl ?_
        refine g_iload rfl rfl ?_
        refine g_iald (i := 3) rfl (ms.slot hP) (by omega) (by omega) ?_
        refine g_top (v2 := aI ((Ps : Int))) (congrArg aI (by exact s29.2.2.2)) ?_
        refine g_iload_n rfl rfl ?_
        refine g_callVI [aI ((Ps : Int)), aI ((p5 : Int))] [aI 3, aO (some aP)] rfl rfl rfl rfl (Nat.le_of_ble_eq_true rfl) ms.1 (r_div (by omega) ms V29 (by have := G_30.2.2.1; omega) (g29.rb (g27.rb (g25.rb (g23.rb (g21.rb (g19.rb (g17.rb (g15.rb (g13.rb (g5.rb (g3.rb (g1.rb xPs)))))))))))) (g29.rb (g27.rb (g25.rb (g23.rb (g21.rb (g19.rb (g17.rb (g15.rb (g13.rb xp5))))))))) (by intro h0; have q4 := g4_0 h0; omega) (by omega) (by omega)) ?_
        rintro _ _ ⟨p31, rfl, V31, rfl, g31, xp31⟩
        have G_32 := G_30.trans (g31.gs _)
        refine g_iast (i := 3) rfl (ms.slot hP) (by omega) (by omega) ?_
        obtain ⟨V33, eV33⟩ : ∃ W, W = vset V31 aP 3 (p31 : Int) := ⟨_, rfl⟩
        refine g_hp (h2 := hw h V33) (by rw [eV33]; rfl) ?_
        have g33 : Gs V31 V33 o 0 (fun q => q = aP) := by rw [eV33]; exact Gs.cell hP
        have s33 : SA V33 aP p13 p19 p25 p31 := by rw [eV33]; exact SA.c3 (g31.sa hP s29) p31
        have G_34 := G_32.trans (g33.wide (fun q hq => by have hq : q = aP := hq; show q = aP; omega))
        refine g_aload_n rfl rfl ?_
        refine g_iload rfl rfl ?_
        refine g_iload rfl rfl ?_
        refine g_if_ge_t rfl (by omega) ?_
        refine g_aload_n rfl rfl ?_
        refine g_iload rfl rfl ?_
        refine g_iald (i := 3) rfl (ms.slot hP) (by omega) (by omega) ?_
        refine g_top (v2 := aI ((p31 : Int))) (congrArg aI (by exact s33.2.2.2)) ?_
        refine g_iast (i := 3) rfl (ms.slot hP) (by omega) (by omega) ?_
        obtain ⟨V35, eV35⟩ : ∃ W, W = vset V33 aP 3 (p31 : Int) := ⟨_, rfl⟩
        refine g_hp (h2 := hw h V35) (by rw [eV35]; rfl) ?_
        have g35 : Gs V33 V35 o 0 (fun q => q = aP) := by rw [eV35]; exact Gs.cell hP
        have s35 : SA V35 aP p13 p19 p25 p31 := by rw [eV35]; exact SA.c3 s33 p31
        have G_36 := G_34.trans (g35.wide (fun q hq => by have hq : q = aP := hq; show q = aP; omega))
        refine g_iinc (l1 := [(5, aI 4), (4, aI 0), (3, aI ((p5 : Int))), (0, aO (some o)), (1, aO (some aP)), (2, aI 1)]) rfl rfl (by omega) (by omega) rfl ?_
        refine g_goto rfl ?_
        refine g_iload rfl rfl ?_
        refine g_iconst rfl ?_
        refine g_icmp_ge_t rfl (by omega) ?_
        refine g_vret rfl ?_
        refine ⟨V35, rfl, G_36.mono (by omega), ?_⟩
        have l0 := @lcmp_0 P.1 0
        have m0 := @lcmp_lt P.1 0
        have n0 := @lcmp_gt P.1 0
        have l1 := @lcmp_0 P.2.1 0
        have m1 := @lcmp_lt P.2.1 0
        have n1 := @lcmp_gt P.2.1 0
        have l2 := @lcmp_0 P.2.2.1 0
        have m2 := @lcmp_lt P.2.2.1 0
        have n2 := @lcmp_gt P.2.2.1 0
        unfold m_low
        first
          | (rw [if_pos (by omega)]; unfold set_up)
          | (rw [if_neg (by omega)]; unfold set_dn)
        exact ⟨_, _, _, _, s35, ((g35.rb (g33.rb (g31.rb (g29.rb (g27.rb (g25.rb (g23.rb (g21.rb (g19.rb (g17.rb (g15.rb xp13))))))))))).up (by omega)), ((g35.rb (g33.rb (g31.rb (g29.rb (g27.rb (g25.rb (g23.rb (g21.rb xp19)))))))).up (by omega)), ((g35.rb (g33.rb (g31.rb (g29.rb (g27.rb xp25))))).up (by omega)), ((g35.rb (g33.rb xp31)).up (by omega))⟩
      · skip
        refine g_aload_n rfl rfl ?_
        refine g_aload_n rfl rfl ?_
        refine g_iload rfl rfl ?_
        refine g_iald (i := 2) rfl (ms.slot hP) (by omega) (by omega) ?_
        refine g_top (v2 := aI ((Pr : Int))) (congrArg aI (by exact (g5.sa hP (g3.sa hP (g1.sa hP sP))).2.2.1)) ?_
        refine g_callVI [aI ((Pr : Int))] [] rfl rfl rfl rfl (Nat.le_of_ble_eq_true rfl) ms.1 (r_sign (by omega) ms V5 (g5.rb (g3.rb (g1.rb xPr)))) ?_
        rintro r37 _ ⟨rfl, e38⟩
        rw [e38]
        clear e38 r37
        refine g_goto rfl ?_
        refine g_istore (l1 := [(4, aI (lcmp P.2.2.1 0)), (5, aI 2), (3, aI ((p5 : Int))), (0, aO (some o)), (1, aO (some aP)), (2, aI 1)]) rfl rfl ?_
        refine g_iinc (l1 := [(5, aI 3), (4, aI (lcmp P.2.2.1 0)), (3, aI ((p5 : Int))), (0, aO (some o)), (1, aO (some aP)), (2, aI 1)]) rfl rfl (by omega) (by omega) rfl ?_
        refine g_goto rfl ?_
        refine g_iload rfl rfl ?_
        refine g_iconst rfl ?_
        refine g_icmp_ge_t rfl (by omega) ?_
        refine g_iconst rfl ?_
        refine g_istore (l1 := [(5, aI 0), (4, aI (lcmp P.2.2.1 0)), (3, aI ((p5 : Int))), (0, aO (some o)), (1, aO (some aP)), (2, aI 1)]) rfl rfl ?_
        refine g_iload rfl rfl ?_
        refine g_iconst rfl ?_
        refine g_icmp_ge_f rfl (by omega) ?_
        refine g_aload_n rfl rfl ?_
        refine g_iload rfl rfl ?_
        refine g_aload_n rfl rfl ?_
        refine g_aload_n rfl rfl ?_
        refine g_iload rfl rfl ?_
        refine g_iald (i := 0) rfl (ms.slot hP) (by omega) (by omega) ?_
        refine g_top (v2 := aI ((Pp : Int))) (congrArg aI (by exact (g5.sa hP (g3.sa hP (g1.sa hP sP))).1)) ?_
        refine g_iload_n rfl rfl ?_
        refine g_callVI [aI ((Pp : Int)), aI ((p5 : Int))] [aI 0, aO (some aP)] rfl rfl rfl rfl (Nat.le_of_ble_eq_true rfl) ms.1 (r_div (by omega) ms V5 (by have := G_6.2.2.1; omega) (g5.rb (g3.rb (g1.rb xPp))) xp5 (by intro h0; have q4 := g4_0 h0; omega) (by omega) (by omega)) ?_
        rintro _ _ ⟨p39, rfl, V39, rfl, g39, xp39⟩
        have G_40 := G_6.trans (g39.gs _)
        refine g_iast (i := 0) rfl (ms.slot hP) (by omega) (by omega) ?_
        obtain ⟨V41, eV41⟩ : ∃ W, W = vset V39 aP 0 (p39 : Int) := ⟨_, rfl⟩
        refine g_hp (h2 := hw h V41) (by rw [eV41]; rfl) ?_
        have g41 : Gs V39 V41 o 0 (fun q => q = aP) := by rw [eV41]; exact Gs.cell hP
        have s41 : SA V41 aP p39 Pq Pr Ps := by rw [eV41]; exact SA.c0 (g39.sa hP (g5.sa hP (g3.sa hP (g1.sa hP sP)))) p39
        have G_42 := G_40.trans (g41.wide (fun q hq => by have hq : q = aP := hq; show q = aP; omega))
        refine g_aload_n rfl rfl ?_
        refine g_iload rfl rfl ?_
        refine g_iload rfl rfl ?_
        refine g_if_ge rfl (fun c113 => ?_) (fun c113 => ?_)
        · skip
          refine g_aload_n rfl rfl ?_
          refine g_iload rfl rfl ?_
          refine g_iald (i := 0) rfl (ms.slot hP) (by omega) (by omega) ?_
          refine g_top (v2 := aI ((p39 : Int))) (congrArg aI (by exact s41.1)) ?_
          refine g_iast (i := 0) rfl (ms.slot hP) (by omega) (by omega) ?_
          obtain ⟨V43, eV43⟩ : ∃ W, W = vset V41 aP 0 (p39 : Int) := ⟨_, rfl⟩
          refine g_hp (h2 := hw h V43) (by rw [eV43]; rfl) ?_
          have g43 : Gs V41 V43 o 0 (fun q => q = aP) := by rw [eV43]; exact Gs.cell hP
          have s43 : SA V43 aP p39 Pq Pr Ps := by rw [eV43]; exact SA.c0 s41 p39
          have G_44 := G_42.trans (g43.wide (fun q hq => by have hq : q = aP := hq; show q = aP; omega))
          refine g_iinc (l1 := [(5, aI 1), (4, aI (lcmp P.2.2.1 0)), (3, aI ((p5 : Int))), (0, aO (some o)), (1, aO (some aP)), (2, aI 1)]) rfl rfl (by omega) (by omega) rfl ?_
          refine g_goto rfl ?_
          refine g_iload rfl rfl ?_
          refine g_iconst rfl ?_
          refine g_icmp_ge_f rfl (by omega) ?_
          refine g_aload_n rfl rfl ?_
          refine g_iload rfl rfl ?_
          refine g_aload_n rfl rfl ?_
          refine g_aload_n rfl rfl ?_
          refine g_iload rfl rfl ?_
          refine g_iald (i := 1) rfl (ms.slot hP) (by omega) (by omega) ?_
          refine g_top (v2 := aI ((Pq : Int))) (congrArg aI (by exact s43.2.1)) ?_
          refine g_iload_n rfl rfl ?_
          refine g_callVI [aI ((Pq : Int)), aI ((p5 : Int))] [aI 1, aO (some aP)] rfl rfl rfl rfl (Nat.le_of_ble_eq_true rfl) ms.1 (r_div (by omega) ms V43 (by have := G_44.2.2.1; omega) (g43.rb (g41.rb (g39.rb (g5.rb (g3.rb (g1.rb xPq)))))) (g43.rb (g41.rb (g39.rb xp5))) (by intro h0; have q4 := g4_0 h0; omega) (by omega) (by omega)) ?_
          rintro _ _ ⟨p45, rfl, V45, rfl, g45, xp45⟩
          have G_46 := G_44.trans (g45.gs _)
          refine g_iast (i := 1) rfl (ms.slot hP) (by omega) (by omega) ?_
          obtain ⟨V47, eV47⟩ : ∃ W, W = vset V45 aP 1 (p45 : Int) := ⟨_, rfl⟩
          refine g_hp (h2 := hw h V47) (by rw [eV47]; rfl) ?_
          have g47 : Gs V45 V47 o 0 (fun q => q = aP) := by rw [eV47]; exact Gs.cell hP
          have s47 : SA V47 aP p39 p45 Pr Ps := by rw [eV47]; exact SA.c1 (g45.sa hP s43) p45
          have G_48 := G_46.trans (g47.wide (fun q hq => by have hq : q = aP := hq; show q = aP; omega))
          refine g_aload_n rfl rfl ?_
          refine g_iload rfl rfl ?_
          refine g_iload rfl rfl ?_
          refine g_if_ge_t rfl (by omega) ?_
          refine g_aload_n rfl rfl ?_
          refine g_iload rfl rfl ?_
          refine g_iald (i := 1) rfl (ms.slot hP) (by omega) (by omega) ?_
          refine g_top (v2 := aI ((p45 : Int))) (congrArg aI (by exact s47.2.1)) ?_
          refine g_iast (i := 1) rfl (ms.slot hP) (by omega) (by omega) ?_
          obtain ⟨V49, eV49⟩ : ∃ W, W = vset V47 aP 1 (p45 : Int) := ⟨_, rfl⟩
          refine g_hp (h2 := hw h V49) (by rw [eV49]; rfl) ?_
          have g49 : Gs V47 V49 o 0 (fun q => q = aP) := by rw [eV49]; exact Gs.cell hP
          have s49 : SA V49 aP p39 p45 Pr Ps := by rw [eV49]; exact SA.c1 s47 p45
          have G_50 := G_48.trans (g49.wide (fun q hq => by have hq : q = aP := hq; show q = aP; omega))
          refine g_iinc (l1 := [(5, aI 2), (4, aI (lcmp P.2.2.1 0)), (3, aI ((p5 : Int))), (0, aO (some o)), (1, aO (some aP)), (2, aI 1)]) rfl rfl (by omega) (by omega) rfl ?_
          refine g_goto rfl ?_
          refine g_iload rfl rfl ?_
          refine g_iconst rfl ?_
          refine g_icmp_ge_f rfl (by omega) ?_
          refine g_aload_n rfl rfl ?_
          refine g_iload rfl rfl ?_
          refine g_aload_n rfl rfl ?_
          refine g_aload_n rfl rfl ?_
          refine g_iload rfl rfl ?_
          refine g_iald (i := 2) rfl (ms.slot hP) (by omega) (by omega) ?_
          refine g_top (v2 := aI ((Pr : Int))) (congrArg aI (by exact s49.2.2.1)) ?_
          refine g_iload_n rfl rfl ?_
          refine g_callVI [aI ((Pr : Int)), aI ((p5 : Int))] [aI 2, aO (some aP)] rfl rfl rfl rfl (Nat.le_of_ble_eq_true rfl) ms.1 (r_div (by omega) ms V49 (by have := G_50.2.2.1; omega) (g49.rb (g47.rb (g45.rb (g43.rb (g41.rb (g39.rb (g5.rb (g3.rb (g1.rb xPr))))))))) (g49.rb (g47.rb (g45.rb (g43.rb (g41.rb (g39.rb xp5)))))) (by intro h0; have q4 := g4_0 h0; omega) (by omega) (by omega)) ?_
          rintro _ _ ⟨p51, rfl, V51, rfl, g51, xp51⟩
          have G_52 := G_50.trans (g51.gs _)
          refine g_iast (i := 2) rfl (ms.slot hP) (by omega) (by omega) ?_
          obtain ⟨V53, eV53⟩ : ∃ W, W = vset V51 aP 2 (p51 : Int) := ⟨_, rfl⟩
          refine g_hp (h2 := hw h V53) (by rw [eV53]; rfl) ?_
          have g53 : Gs V51 V53 o 0 (fun q => q = aP) := by rw [eV53]; exact Gs.cell hP
          have s53 : SA V53 aP p39 p45 p51 Ps := by rw [eV53]; exact SA.c2 (g51.sa hP s49) p51
          have G_54 := G_52.trans (g53.wide (fun q hq => by have hq : q = aP := hq; show q = aP; omega))
          refine g_aload_n rfl rfl ?_
          refine g_iload rfl rfl ?_
          refine g_iload rfl rfl ?_
          refine g_if_ge_t rfl (by omega) ?_
          refine g_aload_n rfl rfl ?_
          refine g_iload rfl rfl ?_
          refine g_iald (i := 2) rfl (ms.slot hP) (by omega) (by omega) ?_
          refine g_top (v2 := aI ((p51 : Int))) (congrArg aI (by exact s53.2.2.1)) ?_
          refine g_iast (i := 2) rfl (ms.slot hP) (by omega) (by omega) ?_
          obtain ⟨V55, eV55⟩ : ∃ W, W = vset V53 aP 2 (p51 : Int) := ⟨_, rfl⟩
          refine g_hp (h2 := hw h V55) (by rw [eV55]; rfl) ?_
          have g55 : Gs V53 V55 o 0 (fun q => q = aP) := by rw [eV55]; exact Gs.cell hP
          have s55 : SA V55 aP p39 p45 p51 Ps := by rw [eV55]; exact SA.c2 s53 p51
          have G_56 := G_54.trans (g55.wide (fun q hq => by have hq : q = aP := hq; show q = aP; omega))
          refine g_iinc (l1 := [(5, aI 3), (4, aI (lcmp P.2.2.1 0)), (3, aI ((p5 : Int))), (0, aO (some o)), (1, aO (some aP)), (2, aI 1)]) rfl rfl (by omega) (by omega) rfl ?_
          refine g_goto rfl ?_
          refine g_iload rfl rfl ?_
          refine g_iconst rfl ?_
          refine g_icmp_ge_f rfl (by omega) ?_
          refine g_aload_n rfl rfl ?_
          refine g_iload rfl rfl ?_
          refine g_aload_n rfl rfl ?_
          refine g_aload_n rfl rfl ?_
          refine g_iload rfl rfl ?_
          refine g_iald (i := 3) rfl (ms.slot hP) (by omega) (by omega) ?_
          refine g_top (v2 := aI ((Ps : Int))) (congrArg aI (by exact s55.2.2.2)) ?_
          refine g_iload_n rfl rfl ?_
          refine g_callVI [aI ((Ps : Int)), aI ((p5 : Int))] [aI 3, aO (some aP)] rfl rfl rfl rfl (Nat.le_of_ble_eq_true rfl) ms.1 (r_div (by omega) ms V55 (by have := G_56.2.2.1; omega) (g55.rb (g53.rb (g51.rb (g49.rb (g47.rb (g45.rb (g43.rb (g41.rb (g39.rb (g5.rb (g3.rb (g1.rb xPs)))))))))))) (g55.rb (g53.rb (g51.rb (g49.rb (g47.rb (g45.rb (g43.rb (g41.rb (g39.rb xp5))))))))) (by intro h0; have q4 := g4_0 h0; omega) (by omega) (by omega)) ?_
          rintro _ _ ⟨p57, rfl, V57, rfl, g57, xp57⟩
          have G_58 := G_56.trans (g57.gs _)
          refine g_iast (i := 3) rfl (ms.slot hP) (by omega) (by omega) ?_
          obtain ⟨V59, eV59⟩ : ∃ W, W = vset V57 aP 3 (p57 : Int) := ⟨_, rfl⟩
          refine g_hp (h2 := hw h V59) (by rw [eV59]; rfl) ?_
          have g59 : Gs V57 V59 o 0 (fun q => q = aP) := by rw [eV59]; exact Gs.cell hP
          have s59 : SA V59 aP p39 p45 p51 p57 := by rw [eV59]; exact SA.c3 (g57.sa hP s55) p57
          have G_60 := G_58.trans (g59.wide (fun q hq => by have hq : q = aP := hq; show q = aP; omega))
          refine g_aload_n rfl rfl ?_
          refine g_iload rfl rfl ?_
          refine g_iload rfl rfl ?_
          refine g_if_ge_t rfl (by omega) ?_
          refine g_aload_n rfl rfl ?_
          refine g_iload rfl rfl ?_
          refine g_iald (i := 3) rfl (ms.slot hP) (by omega) (by omega) ?_
          refine g_top (v2 := aI ((p57 : Int))) (congrArg aI (by exact s59.2.2.2)) ?_
          refine g_iast (i := 3) rfl (ms.slot hP) (by omega) (by omega) ?_
          obtain ⟨V61, eV61⟩ : ∃ W, W = vset V59 aP 3 (p57 : Int) := ⟨_, rfl⟩
          refine g_hp (h2 := hw h V61) (by rw [eV61]; rfl) ?_
          have g61 : Gs V59 V61 o 0 (fun q => q = aP) := by rw [eV61]; exact Gs.cell hP
          have s61 : SA V61 aP p39 p45 p51 p57 := by rw [eV61]; exact SA.c3 s59 p57
          have G_62 := G_60.trans (g61.wide (fun q hq => by have hq : q = aP := hq; show q = aP; omega))
          refine g_iinc (l1 := [(5, aI 4), (4, aI (lcmp P.2.2.1 0)), (3, aI ((p5 : Int))), (0, aO (some o)), (1, aO (some aP)), (2, aI 1)]) rfl rfl (by omega) (by omega) rfl ?_
          refine g_goto rfl ?_
          refine g_iload rfl rfl ?_
          refine g_iconst rfl ?_
          refine g_icmp_ge_t rfl (by omega) ?_
          refine g_vret rfl ?_
          refine ⟨V61, rfl, G_62.mono (by omega), ?_⟩
          have l0 := @lcmp_0 P.1 0
          have m0 := @lcmp_lt P.1 0
          have n0 := @lcmp_gt P.1 0
          have l1 := @lcmp_0 P.2.1 0
          have m1 := @lcmp_lt P.2.1 0
          have n1 := @lcmp_gt P.2.1 0
          have l2 := @lcmp_0 P.2.2.1 0
          have m2 := @lcmp_lt P.2.2.1 0
          have n2 := @lcmp_gt P.2.2.1 0
          unfold m_low
          first
            | (rw [if_pos (by omega)]; unfold set_up)
            | (rw [if_neg (by omega)]; unfold set_dn)
          exact ⟨_, _, _, _, s61, ((g61.rb (g59.rb (g57.rb (g55.rb (g53.rb (g51.rb (g49.rb (g47.rb (g45.rb (g43.rb (g41.rb xp39))))))))))).up (by omega)), ((g61.rb (g59.rb (g57.rb (g55.rb (g53.rb (g51.rb (g49.rb (g47.rb xp45)))))))).up (by omega)), ((g61.rb (g59.rb (g57.rb (g55.rb (g53.rb xp51))))).up (by omega)), ((g61.rb (g59.rb xp57)).up (by omega))⟩
        · skip
          refine g_aload_n rfl rfl ?_
          refine g_aload_n rfl rfl ?_
          refine g_iload rfl rfl ?_
          refine g_iald (i := 0) rfl (ms.slot hP) (by omega) (by omega) ?_
          refine g_top (v2 := aI ((p39 : Int))) (congrArg aI (by exact s41.1)) ?_
          refine g_callVI [aI ((p39 : Int))] [aI 0, aO (some aP)] rfl rfl rfl rfl (Nat.le_of_ble_eq_true rfl) ms.1 (r_neg (by omega) ms V41 (by have := G_42.2.2.1; omega) (g41.rb xp39) (by omega)) ?_
          rintro _ _ ⟨p63, rfl, V63, rfl, g63, xp63⟩
          have G_64 := G_42.trans (g63.gs _)
          refine g_goto rfl ?_
          refine g_iast (i := 0) rfl (ms.slot hP) (by omega) (by omega) ?_
          obtain ⟨V65, eV65⟩ : ∃ W, W = vset V63 aP 0 (p63 : Int) := ⟨_, rfl⟩
          refine g_hp (h2 := hw h V65) (by rw [eV65]; rfl) ?_
          have g65 : Gs V63 V65 o 0 (fun q => q = aP) := by rw [eV65]; exact Gs.cell hP
          have s65 : SA V65 aP p63 Pq Pr Ps := by rw [eV65]; exact SA.c0 (g63.sa hP s41) p63
          have G_66 := G_64.trans (g65.wide (fun q hq => by have hq : q = aP := hq; show q = aP; omega))
          refine g_iinc (l1 := [(5, aI 1), (4, aI (lcmp P.2.2.1 0)), (3, aI ((p5 : Int))), (0, aO (some o)), (1, aO (some aP)), (2, aI 1)]) rfl rfl (by omega) (by omega) rfl ?_
          refine g_goto rfl ?_
          refine g_iload rfl rfl ?_
          refine g_iconst rfl ?_
          refine g_icmp_ge_f rfl (by omega) ?_
          refine g_aload_n rfl rfl ?_
          refine g_iload rfl rfl ?_
          refine g_aload_n rfl rfl ?_
          refine g_aload_n rfl rfl ?_
          refine g_iload rfl rfl ?_
          refine g_iald (i := 1) rfl (ms.slot hP) (by omega) (by omega) ?_
          refine g_top (v2 := aI ((Pq : Int))) (congrArg aI (by exact s65.2.1)) ?_
          refine g_iload_n rfl rfl ?_
          refine g_callVI [aI ((Pq : Int)), aI ((p5 : Int))] [aI 1, aO (some aP)] rfl rfl rfl rfl (Nat.le_of_ble_eq_true rfl) ms.1 (r_div (by omega) ms V65 (by have := G_66.2.2.1; omega) (g65.rb (g63.rb (g41.rb (g39.rb (g5.rb (g3.rb (g1.rb xPq))))))) (g65.rb (g63.rb (g41.rb (g39.rb xp5)))) (by intro h0; have q4 := g4_0 h0; omega) (by omega) (by omega)) ?_
          rintro _ _ ⟨p67, rfl, V67, rfl, g67, xp67⟩
          have G_68 := G_66.trans (g67.gs _)
          refine g_iast (i := 1) rfl (ms.slot hP) (by omega) (by omega) ?_
          obtain ⟨V69, eV69⟩ : ∃ W, W = vset V67 aP 1 (p67 : Int) := ⟨_, rfl⟩
          refine g_hp (h2 := hw h V69) (by rw [eV69]; rfl) ?_
          have g69 : Gs V67 V69 o 0 (fun q => q = aP) := by rw [eV69]; exact Gs.cell hP
          have s69 : SA V69 aP p63 p67 Pr Ps := by rw [eV69]; exact SA.c1 (g67.sa hP s65) p67
          have G_70 := G_68.trans (g69.wide (fun q hq => by have hq : q = aP := hq; show q = aP; omega))
          refine g_aload_n rfl rfl ?_
          refine g_iload rfl rfl ?_
          refine g_iload rfl rfl ?_
          refine g_if_ge_f rfl (by omega) ?_
          refine g_aload_n rfl rfl ?_
          refine g_aload_n rfl rfl ?_
          refine g_iload rfl rfl ?_
          refine g_iald (i := 1) rfl (ms.slot hP) (by omega) (by omega) ?_
          refine g_top (v2 := aI ((p67 : Int))) (congrArg aI (by exact s69.2.1)) ?_
          refine g_callVI [aI ((p67 : Int))] [aI 1, aO (some aP)] rfl rfl rfl rfl (Nat.le_of_ble_eq_true rfl) ms.1 (r_neg (by omega) ms V69 (by have := G_70.2.2.1; omega) (g69.rb xp67) (by omega)) ?_
          rintro _ _ ⟨p71, rfl, V71, rfl, g71, xp71⟩
          have G_72 := G_70.trans (g71.gs _)
          refine g_goto rfl ?_
          refine g_iast (i := 1) rfl (ms.slot hP) (by omega) (by omega) ?_
          obtain ⟨V73, eV73⟩ : ∃ W, W = vset V71 aP 1 (p71 : Int) := ⟨_, rfl⟩
          refine g_hp (h2 := hw h V73) (by rw [eV73]; rfl) ?_
          have g73 : Gs V71 V73 o 0 (fun q => q = aP) := by rw [eV73]; exact Gs.cell hP
          have s73 : SA V73 aP p63 p71 Pr Ps := by rw [eV73]; exact SA.c1 (g71.sa hP s69) p71
          have G_74 := G_72.trans (g73.wide (fun q hq => by have hq : q = aP := hq; show q = aP; omega))
          refine g_iinc (l1 := [(5, aI 2), (4, aI (lcmp P.2.2.1 0)), (3, aI ((p5 : Int))), (0, aO (some o)), (1, aO (some aP)), (2, aI 1)]) rfl rfl (by omega) (by omega) rfl ?_
          refine g_goto rfl ?_
          refine g_iload rfl rfl ?_
          refine g_iconst rfl ?_
          refine g_icmp_ge_f rfl (by omega) ?_
          refine g_aload_n rfl rfl ?_
          refine g_iload rfl rfl ?_
          refine g_aload_n rfl rfl ?_
          refine g_aload_n rfl rfl ?_
          refine g_iload rfl rfl ?_
          refine g_iald (i := 2) rfl (ms.slot hP) (by omega) (by omega) ?_
          refine g_top (v2 := aI ((Pr : Int))) (congrArg aI (by exact s73.2.2.1)) ?_
          refine g_iload_n rfl rfl ?_
          refine g_callVI [aI ((Pr : Int)), aI ((p5 : Int))] [aI 2, aO (some aP)] rfl rfl rfl rfl (Nat.le_of_ble_eq_true rfl) ms.1 (r_div (by omega) ms V73 (by have := G_74.2.2.1; omega) (g73.rb (g71.rb (g69.rb (g67.rb (g65.rb (g63.rb (g41.rb (g39.rb (g5.rb (g3.rb (g1.rb xPr))))))))))) (g73.rb (g71.rb (g69.rb (g67.rb (g65.rb (g63.rb (g41.rb (g39.rb xp5)))))))) (by intro h0; have q4 := g4_0 h0; omega) (by omega) (by omega)) ?_
          rintro _ _ ⟨p75, rfl, V75, rfl, g75, xp75⟩
          have G_76 := G_74.trans (g75.gs _)
          refine g_iast (i := 2) rfl (ms.slot hP) (by omega) (by omega) ?_
          obtain ⟨V77, eV77⟩ : ∃ W, W = vset V75 aP 2 (p75 : Int) := ⟨_, rfl⟩
          refine g_hp (h2 := hw h V77) (by rw [eV77]; rfl) ?_
          have g77 : Gs V75 V77 o 0 (fun q => q = aP) := by rw [eV77]; exact Gs.cell hP
          have s77 : SA V77 aP p63 p71 p75 Ps := by rw [eV77]; exact SA.c2 (g75.sa hP s73) p75
          have G_78 := G_76.trans (g77.wide (fun q hq => by have hq : q = aP := hq; show q = aP; omega))
          refine g_aload_n rfl rfl ?_
          refine g_iload rfl rfl ?_
          refine g_iload rfl rfl ?_
          refine g_if_ge_f rfl (by omega) ?_
          refine g_aload_n rfl rfl ?_
          refine g_aload_n rfl rfl ?_
          refine g_iload rfl rfl ?_
          refine g_iald (i := 2) rfl (ms.slot hP) (by omega) (by omega) ?_
          refine g_top (v2 := aI ((p75 : Int))) (congrArg aI (by exact s77.2.2.1)) ?_
          refine g_callVI [aI ((p75 : Int))] [aI 2, aO (some aP)] rfl rfl rfl rfl (Nat.le_of_ble_eq_true rfl) ms.1 (r_neg (by omega) ms V77 (by have := G_78.2.2.1; omega) (g77.rb xp75) (by omega)) ?_
          rintro _ _ ⟨p79, rfl, V79, rfl, g79, xp79⟩
          have G_80 := G_78.trans (g79.gs _)
          refine g_goto rfl ?_
          refine g_iast (i := 2) rfl (ms.slot hP) (by omega) (by omega) ?_
          obtain ⟨V81, eV81⟩ : ∃ W, W = vset V79 aP 2 (p79 : Int) := ⟨_, rfl⟩
          refine g_hp (h2 := hw h V81) (by rw [eV81]; rfl) ?_
          have g81 : Gs V79 V81 o 0 (fun q => q = aP) := by rw [eV81]; exact Gs.cell hP
          have s81 : SA V81 aP p63 p71 p79 Ps := by rw [eV81]; exact SA.c2 (g79.sa hP s77) p79
          have G_82 := G_80.trans (g81.wide (fun q hq => by have hq : q = aP := hq; show q = aP; omega))
          refine g_iinc (l1 := [(5, aI 3), (4, aI (lcmp P.2.2.1 0)), (3, aI ((p5 : Int))), (0, aO (some o)), (1, aO (some aP)), (2, aI 1)]) rfl rfl (by omega) (by omega) rfl ?_
          refine g_goto rfl ?_
          refine g_iload rfl rfl ?_
          refine g_iconst rfl ?_
          refine g_icmp_ge_f rfl (by omega) ?_
          refine g_aload_n rfl rfl ?_
          refine g_iload rfl rfl ?_
          refine g_aload_n rfl rfl ?_
          refine g_aload_n rfl rfl ?_
          refine g_iload rfl rfl ?_
          refine g_iald (i := 3) rfl (ms.slot hP) (by omega) (by omega) ?_
          refine g_top (v2 := aI ((Ps : Int))) (congrArg aI (by exact s81.2.2.2)) ?_
          refine g_iload_n rfl rfl ?_
          refine g_callVI [aI ((Ps : Int)), aI ((p5 : Int))] [aI 3, aO (some aP)] rfl rfl rfl rfl (Nat.le_of_ble_eq_true rfl) ms.1 (r_div (by omega) ms V81 (by have := G_82.2.2.1; omega) (g81.rb (g79.rb (g77.rb (g75.rb (g73.rb (g71.rb (g69.rb (g67.rb (g65.rb (g63.rb (g41.rb (g39.rb (g5.rb (g3.rb (g1.rb xPs))))))))))))))) (g81.rb (g79.rb (g77.rb (g75.rb (g73.rb (g71.rb (g69.rb (g67.rb (g65.rb (g63.rb (g41.rb (g39.rb xp5)))))))))))) (by intro h0; have q4 := g4_0 h0; omega) (by omega) (by omega)) ?_
          rintro _ _ ⟨p83, rfl, V83, rfl, g83, xp83⟩
          have G_84 := G_82.trans (g83.gs _)
          refine g_iast (i := 3) rfl (ms.slot hP) (by omega) (by omega) ?_
          obtain ⟨V85, eV85⟩ : ∃ W, W = vset V83 aP 3 (p83 : Int) := ⟨_, rfl⟩
          refine g_hp (h2 := hw h V85) (by rw [eV85]; rfl) ?_
          have g85 : Gs V83 V85 o 0 (fun q => q = aP) := by rw [eV85]; exact Gs.cell hP
          have s85 : SA V85 aP p63 p71 p79 p83 := by rw [eV85]; exact SA.c3 (g83.sa hP s81) p83
          have G_86 := G_84.trans (g85.wide (fun q hq => by have hq : q = aP := hq; show q = aP; omega))
          refine g_aload_n rfl rfl ?_
          refine g_iload rfl rfl ?_
          refine g_iload rfl rfl ?_
          refine g_if_ge_f rfl (by omega) ?_
          refine g_aload_n rfl rfl ?_
          refine g_aload_n rfl rfl ?_
          refine g_iload rfl rfl ?_
          refine g_iald (i := 3) rfl (ms.slot hP) (by omega) (by omega) ?_
          refine g_top (v2 := aI ((p83 : Int))) (congrArg aI (by exact s85.2.2.2)) ?_
          refine g_callVI [aI ((p83 : Int))] [aI 3, aO (some aP)] rfl rfl rfl rfl (Nat.le_of_ble_eq_true rfl) ms.1 (r_neg (by omega) ms V85 (by have := G_86.2.2.1; omega) (g85.rb xp83) (by omega)) ?_
          rintro _ _ ⟨p87, rfl, V87, rfl, g87, xp87⟩
          have G_88 := G_86.trans (g87.gs _)
          refine g_goto rfl ?_
          refine g_iast (i := 3) rfl (ms.slot hP) (by omega) (by omega) ?_
          obtain ⟨V89, eV89⟩ : ∃ W, W = vset V87 aP 3 (p87 : Int) := ⟨_, rfl⟩
          refine g_hp (h2 := hw h V89) (by rw [eV89]; rfl) ?_
          have g89 : Gs V87 V89 o 0 (fun q => q = aP) := by rw [eV89]; exact Gs.cell hP
          have s89 : SA V89 aP p63 p71 p79 p87 := by rw [eV89]; exact SA.c3 (g87.sa hP s85) p87
          have G_90 := G_88.trans (g89.wide (fun q hq => by have hq : q = aP := hq; show q = aP; omega))
          refine g_iinc (l1 := [(5, aI 4), (4, aI (lcmp P.2.2.1 0)), (3, aI ((p5 : Int))), (0, aO (some o)), (1, aO (some aP)), (2, aI 1)]) rfl rfl (by omega) (by omega) rfl ?_
          refine g_goto rfl ?_
          refine g_iload rfl rfl ?_
          refine g_iconst rfl ?_
          refine g_icmp_ge_t rfl (by omega) ?_
          refine g_vret rfl ?_
          refine ⟨V89, rfl, G_90.mono (by omega), ?_⟩
          have l0 := @lcmp_0 P.1 0
          have m0 := @lcmp_lt P.1 0
          have n0 := @lcmp_gt P.1 0
          have l1 := @lcmp_0 P.2.1 0
          have m1 := @lcmp_lt P.2.1 0
          have n1 := @lcmp_gt P.2.1 0
          have l2 := @lcmp_0 P.2.2.1 0
          have m2 := @lcmp_lt P.2.2.1 0
          have n2 := @lcmp_gt P.2.2.1 0
          unfold m_low
          first
            | (rw [if_pos (by omega)]; unfold set_up)
            | (rw [if_neg (by omega)]; unfold set_dn)
          exact ⟨_, _, _, _, s89, ((g89.rb (g87.rb (g85.rb (g83.rb (g81.rb (g79.rb (g77.rb (g75.rb (g73.rb (g71.rb (g69.rb (g67.rb (g65.rb xp63))))))))))))).up (by omega)), ((g89.rb (g87.rb (g85.rb (g83.rb (g81.rb (g79.rb (g77.rb (g75.rb (g73.rb xp71))))))))).up (by omega)), ((g89.rb (g87.rb (g85.rb (g83.rb (g81.rb xp79))))).up (by omega)), ((g89.rb xp87).up (by omega))⟩
    · skip
      refine g_aload_n rfl rfl ?_
      refine g_aload_n rfl rfl ?_
      refine g_iload rfl rfl ?_
      refine g_iald (i := 1) rfl (ms.slot hP) (by omega) (by omega) ?_
      refine g_top (v2 := aI ((Pq : Int))) (congrArg aI (by exact (g5.sa hP (g3.sa hP (g1.sa hP sP))).2.1)) ?_
      refine g_callVI [aI ((Pq : Int))] [] rfl rfl rfl rfl (Nat.le_of_ble_eq_true rfl) ms.1 (r_sign (by omega) ms V5 (g5.rb (g3.rb (g1.rb xPq)))) ?_
      rintro r91 _ ⟨rfl, e92⟩
      rw [e92]
      clear e92 r91
      refine g_goto rfl ?_
      refine g_istore (l1 := [(4, aI (lcmp P.2.1 0)), (5, aI 1), (3, aI ((p5 : Int))), (0, aO (some o)), (1, aO (some aP)), (2, aI 1)]) rfl rfl ?_
      refine g_iinc (l1 := [(5, aI 2), (4, aI (lcmp P.2.1 0)), (3, aI ((p5 : Int))), (0, aO (some o)), (1, aO (some aP)), (2, aI 1)]) rfl rfl (by omega) (by omega) rfl ?_
      refine g_goto rfl ?_
      refine g_iload rfl rfl ?_
      refine g_iconst rfl ?_
      refine g_icmp_ge_f rfl (by omega) ?_
      refine g_aload_n rfl rfl ?_
      refine g_aload_n rfl rfl ?_
      refine g_iload rfl rfl ?_
      refine g_iald (i := 2) rfl (ms.slot hP) (by omega) (by omega) ?_
      refine g_top (v2 := aI ((Pr : Int))) (congrArg aI (by exact (g5.sa hP (g3.sa hP (g1.sa hP sP))).2.2.1)) ?_
      refine g_callVI [aI ((Pr : Int))] [] rfl rfl rfl rfl (Nat.le_of_ble_eq_true rfl) ms.1 (r_sign (by omega) ms V5 (g5.rb (g3.rb (g1.rb xPr)))) ?_
      rintro r93 _ ⟨rfl, e94⟩
      rw [e94]
      clear e94 r93
      refine g_if_eq rfl (fun c62 => ?_) (fun c62 => ?_)
      · skip
        refine g_iload rfl rfl ?_
        refine g_istore (l1 := [(4, aI (lcmp P.2.1 0)), (5, aI 2), (3, aI ((p5 : Int))), (0, aO (some o)), (1, aO (some aP)), (2, aI 1)]) rfl rfl ?_
        refine g_iinc (l1 := [(5, aI 3), (4, aI (lcmp P.2.1 0)), (3, aI ((p5 : Int))), (0, aO (some o)), (1, aO (some aP)), (2, aI 1)]) rfl rfl (by omega) (by omega) rfl ?_
        refine g_goto rfl ?_
        refine g_iload rfl rfl ?_
        refine g_iconst rfl ?_
        refine g_icmp_ge_t rfl (by omega) ?_
        refine g_iconst rfl ?_
        refine g_istore (l1 := [(5, aI 0), (4, aI (lcmp P.2.1 0)), (3, aI ((p5 : Int))), (0, aO (some o)), (1, aO (some aP)), (2, aI 1)]) rfl rfl ?_
        refine g_iload rfl rfl ?_
        refine g_iconst rfl ?_
        refine g_icmp_ge_f rfl (by omega) ?_
        refine g_aload_n rfl rfl ?_
        refine g_iload rfl rfl ?_
        refine g_aload_n rfl rfl ?_
        refine g_aload_n rfl rfl ?_
        refine g_iload rfl rfl ?_
        refine g_iald (i := 0) rfl (ms.slot hP) (by omega) (by omega) ?_
        refine g_top (v2 := aI ((Pp : Int))) (congrArg aI (by exact (g5.sa hP (g3.sa hP (g1.sa hP sP))).1)) ?_
        refine g_iload_n rfl rfl ?_
        refine g_callVI [aI ((Pp : Int)), aI ((p5 : Int))] [aI 0, aO (some aP)] rfl rfl rfl rfl (Nat.le_of_ble_eq_true rfl) ms.1 (r_div (by omega) ms V5 (by have := G_6.2.2.1; omega) (g5.rb (g3.rb (g1.rb xPp))) xp5 (by intro h0; have q4 := g4_0 h0; omega) (by omega) (by omega)) ?_
        rintro _ _ ⟨p95, rfl, V95, rfl, g95, xp95⟩
        have G_96 := G_6.trans (g95.gs _)
        refine g_iast (i := 0) rfl (ms.slot hP) (by omega) (by omega) ?_
        obtain ⟨V97, eV97⟩ : ∃ W, W = vset V95 aP 0 (p95 : Int) := ⟨_, rfl⟩
        refine g_hp (h2 := hw h V97) (by rw [eV97]; rfl) ?_
        have g97 : Gs V95 V97 o 0 (fun q => q = aP) := by rw [eV97]; exact Gs.cell hP
        have s97 : SA V97 aP p95 Pq Pr Ps := by rw [eV97]; exact SA.c0 (g95.sa hP (g5.sa hP (g3.sa hP (g1.sa hP sP)))) p95
        have G_98 := G_96.trans (g97.wide (fun q hq => by have hq : q = aP := hq; show q = aP; omega))
        refine g_aload_n rfl rfl ?_
        refine g_iload rfl rfl ?_
        refine g_iload rfl rfl ?_
        refine g_if_ge rfl (fun c113 => ?_) (fun c113 => ?_)
        · skip
          refine g_aload_n rfl rfl ?_
          refine g_iload rfl rfl ?_
          refine g_iald (i := 0) rfl (ms.slot hP) (by omega) (by omega) ?_
          refine g_top (v2 := aI ((p95 : Int))) (congrArg aI (by exact s97.1)) ?_
          refine g_iast (i := 0) rfl (ms.slot hP) (by omega) (by omega) ?_
          obtain ⟨V99, eV99⟩ : ∃ W, W = vset V97 aP 0 (p95 : Int) := ⟨_, rfl⟩
          refine g_hp (h2 := hw h V99) (by rw [eV99]; rfl) ?_
          have g99 : Gs V97 V99 o 0 (fun q => q = aP) := by rw [eV99]; exact Gs.cell hP
          have s99 : SA V99 aP p95 Pq Pr Ps := by rw [eV99]; exact SA.c0 s97 p95
          have G_100 := G_98.trans (g99.wide (fun q hq => by have hq : q = aP := hq; show q = aP; omega))
          refine g_iinc (l1 := [(5, aI 1), (4, aI (lcmp P.2.1 0)), (3, aI ((p5 : Int))), (0, aO (some o)), (1, aO (some aP)), (2, aI 1)]) rfl rfl (by omega) (by omega) rfl ?_
          refine g_goto rfl ?_
          refine g_iload rfl rfl ?_
          refine g_iconst rfl ?_
          refine g_icmp_ge_f rfl (by omega) ?_
          refine g_aload_n rfl rfl ?_
          refine g_iload rfl rfl ?_
          refine g_aload_n rfl rfl ?_
          refine g_aload_n rfl rfl ?_
          refine g_iload rfl rfl ?_
          refine g_iald (i := 1) rfl (ms.slot hP) (by omega) (by omega) ?_
          refine g_top (v2 := aI ((Pq : Int))) (congrArg aI (by exact s99.2.1)) ?_
          refine g_iload_n rfl rfl ?_
          refine g_callVI [aI ((Pq : Int)), aI ((p5 : Int))] [aI 1, aO (some aP)] rfl rfl rfl rfl (Nat.le_of_ble_eq_true rfl) ms.1 (r_div (by omega) ms V99 (by have := G_100.2.2.1; omega) (g99.rb (g97.rb (g95.rb (g5.rb (g3.rb (g1.rb xPq)))))) (g99.rb (g97.rb (g95.rb xp5))) (by intro h0; have q4 := g4_0 h0; omega) (by omega) (by omega)) ?_
          rintro _ _ ⟨p101, rfl, V101, rfl, g101, xp101⟩
          have G_102 := G_100.trans (g101.gs _)
          refine g_iast (i := 1) rfl (ms.slot hP) (by omega) (by omega) ?_
          obtain ⟨V103, eV103⟩ : ∃ W, W = vset V101 aP 1 (p101 : Int) := ⟨_, rfl⟩
          refine g_hp (h2 := hw h V103) (by rw [eV103]; rfl) ?_
          have g103 : Gs V101 V103 o 0 (fun q => q = aP) := by rw [eV103]; exact Gs.cell hP
          have s103 : SA V103 aP p95 p101 Pr Ps := by rw [eV103]; exact SA.c1 (g101.sa hP s99) p101
          have G_104 := G_102.trans (g103.wide (fun q hq => by have hq : q = aP := hq; show q = aP; omega))
          refine g_aload_n rfl rfl ?_
          refine g_iload rfl rfl ?_
          refine g_iload rfl rfl ?_
          refine g_if_ge_t rfl (by omega) ?_
          refine g_aload_n rfl rfl ?_
          refine g_iload rfl rfl ?_
          refine g_iald (i := 1) rfl (ms.slot hP) (by omega) (by omega) ?_
          refine g_top (v2 := aI ((p101 : Int))) (congrArg aI (by exact s103.2.1)) ?_
          refine g_iast (i := 1) rfl (ms.slot hP) (by omega) (by omega) ?_
          obtain ⟨V105, eV105⟩ : ∃ W, W = vset V103 aP 1 (p101 : Int) := ⟨_, rfl⟩
          refine g_hp (h2 := hw h V105) (by rw [eV105]; rfl) ?_
          have g105 : Gs V103 V105 o 0 (fun q => q = aP) := by rw [eV105]; exact Gs.cell hP
          have s105 : SA V105 aP p95 p101 Pr Ps := by rw [eV105]; exact SA.c1 s103 p101
          have G_106 := G_104.trans (g105.wide (fun q hq => by have hq : q = aP := hq; show q = aP; omega))
          refine g_iinc (l1 := [(5, aI 2), (4, aI (lcmp P.2.1 0)), (3, aI ((p5 : Int))), (0, aO (some o)), (1, aO (some aP)), (2, aI 1)]) rfl rfl (by omega) (by omega) rfl ?_
          refine g_goto rfl ?_
          refine g_iload rfl rfl ?_
          refine g_iconst rfl ?_
          refine g_icmp_ge_f rfl (by omega) ?_
          refine g_aload_n rfl rfl ?_
          refine g_iload rfl rfl ?_
          refine g_aload_n rfl rfl ?_
          refine g_aload_n rfl rfl ?_
          refine g_iload rfl rfl ?_
          refine g_iald (i := 2) rfl (ms.slot hP) (by omega) (by omega) ?_
          refine g_top (v2 := aI ((Pr : Int))) (congrArg aI (by exact s105.2.2.1)) ?_
          refine g_iload_n rfl rfl ?_
          refine g_callVI [aI ((Pr : Int)), aI ((p5 : Int))] [aI 2, aO (some aP)] rfl rfl rfl rfl (Nat.le_of_ble_eq_true rfl) ms.1 (r_div (by omega) ms V105 (by have := G_106.2.2.1; omega) (g105.rb (g103.rb (g101.rb (g99.rb (g97.rb (g95.rb (g5.rb (g3.rb (g1.rb xPr))))))))) (g105.rb (g103.rb (g101.rb (g99.rb (g97.rb (g95.rb xp5)))))) (by intro h0; have q4 := g4_0 h0; omega) (by omega) (by omega)) ?_
          rintro _ _ ⟨p107, rfl, V107, rfl, g107, xp107⟩
          have G_108 := G_106.trans (g107.gs _)
          refine g_iast (i := 2) rfl (ms.slot hP) (by omega) (by omega) ?_
          obtain ⟨V109, eV109⟩ : ∃ W, W = vset V107 aP 2 (p107 : Int) := ⟨_, rfl⟩
          refine g_hp (h2 := hw h V109) (by rw [eV109]; rfl) ?_
          have g109 : Gs V107 V109 o 0 (fun q => q = aP) := by rw [eV109]; exact Gs.cell hP
          have s109 : SA V109 aP p95 p101 p107 Ps := by rw [eV109]; exact SA.c2 (g107.sa hP s105) p107
          have G_110 := G_108.trans (g109.wide (fun q hq => by have hq : q = aP := hq; show q = aP; omega))
          refine g_aload_n rfl rfl ?_
          refine g_iload rfl rfl ?_
          refine g_iload rfl rfl ?_
          refine g_if_ge_t rfl (by omega) ?_
          refine g_aload_n rfl rfl ?_
          refine g_iload rfl rfl ?_
          refine g_iald (i := 2) rfl (ms.slot hP) (by omega) (by omega) ?_
          refine g_top (v2 := aI ((p107 : Int))) (congrArg aI (by exact s109.2.2.1)) ?_
          refine g_iast (i := 2) rfl (ms.slot hP) (by omega) (by omega) ?_
          obtain ⟨V111, eV111⟩ : ∃ W, W = vset V109 aP 2 (p107 : Int) := ⟨_, rfl⟩
          refine g_hp (h2 := hw h V111) (by rw [eV111]; rfl) ?_
          have g111 : Gs V109 V111 o 0 (fun q => q = aP) := by rw [eV111]; exact Gs.cell hP
          have s111 : SA V111 aP p95 p101 p107 Ps := by rw [eV111]; exact SA.c2 s109 p107
          have G_112 := G_110.trans (g111.wide (fun q hq => by have hq : q = aP := hq; show q = aP; omega))
          refine g_iinc (l1 := [(5, aI 3), (4, aI (lcmp P.2.1 0)), (3, aI ((p5 : Int))), (0, aO (some o)), (1, aO (some aP)), (2, aI 1)]) rfl rfl (by omega) (by omega) rfl ?_
          refine g_goto rfl ?_
          refine g_iload rfl rfl ?_
          refine g_iconst rfl ?_
          refine g_icmp_ge_f rfl (by omega) ?_
          refine g_aload_n rfl rfl ?_
          refine g_iload rfl rfl ?_
          refine g_aload_n rfl rfl ?_
          refine g_aload_n rfl rfl ?_
          refine g_iload rfl rfl ?_
          refine g_iald (i := 3) rfl (ms.slot hP) (by omega) (by omega) ?_
          refine g_top (v2 := aI ((Ps : Int))) (congrArg aI (by exact s111.2.2.2)) ?_
          refine g_iload_n rfl rfl ?_
          refine g_callVI [aI ((Ps : Int)), aI ((p5 : Int))] [aI 3, aO (some aP)] rfl rfl rfl rfl (Nat.le_of_ble_eq_true rfl) ms.1 (r_div (by omega) ms V111 (by have := G_112.2.2.1; omega) (g111.rb (g109.rb (g107.rb (g105.rb (g103.rb (g101.rb (g99.rb (g97.rb (g95.rb (g5.rb (g3.rb (g1.rb xPs)))))))))))) (g111.rb (g109.rb (g107.rb (g105.rb (g103.rb (g101.rb (g99.rb (g97.rb (g95.rb xp5))))))))) (by intro h0; have q4 := g4_0 h0; omega) (by omega) (by omega)) ?_
          rintro _ _ ⟨p113, rfl, V113, rfl, g113, xp113⟩
          have G_114 := G_112.trans (g113.gs _)
          refine g_iast (i := 3) rfl (ms.slot hP) (by omega) (by omega) ?_
          obtain ⟨V115, eV115⟩ : ∃ W, W = vset V113 aP 3 (p113 : Int) := ⟨_, rfl⟩
          refine g_hp (h2 := hw h V115) (by rw [eV115]; rfl) ?_
          have g115 : Gs V113 V115 o 0 (fun q => q = aP) := by rw [eV115]; exact Gs.cell hP
          have s115 : SA V115 aP p95 p101 p107 p113 := by rw [eV115]; exact SA.c3 (g113.sa hP s111) p113
          have G_116 := G_114.trans (g115.wide (fun q hq => by have hq : q = aP := hq; show q = aP; omega))
          refine g_aload_n rfl rfl ?_
          refine g_iload rfl rfl ?_
          refine g_iload rfl rfl ?_
          refine g_if_ge_t rfl (by omega) ?_
          refine g_aload_n rfl rfl ?_
          refine g_iload rfl rfl ?_
          refine g_iald (i := 3) rfl (ms.slot hP) (by omega) (by omega) ?_
          refine g_top (v2 := aI ((p113 : Int))) (congrArg aI (by exact s115.2.2.2)) ?_
          refine g_iast (i := 3) rfl (ms.slot hP) (by omega) (by omega) ?_
          obtain ⟨V117, eV117⟩ : ∃ W, W = vset V115 aP 3 (p113 : Int) := ⟨_, rfl⟩
          refine g_hp (h2 := hw h V117) (by rw [eV117]; rfl) ?_
          have g117 : Gs V115 V117 o 0 (fun q => q = aP) := by rw [eV117]; exact Gs.cell hP
          have s117 : SA V117 aP p95 p101 p107 p113 := by rw [eV117]; exact SA.c3 s115 p113
          have G_118 := G_116.trans (g117.wide (fun q hq => by have hq : q = aP := hq; show q = aP; omega))
          refine g_iinc (l1 := [(5, aI 4), (4, aI (lcmp P.2.1 0)), (3, aI ((p5 : Int))), (0, aO (some o)), (1, aO (some aP)), (2, aI 1)]) rfl rfl (by omega) (by omega) rfl ?_
          refine g_goto rfl ?_
          refine g_iload rfl rfl ?_
          refine g_iconst rfl ?_
          refine g_icmp_ge_t rfl (by omega) ?_
          refine g_vret rfl ?_
          refine ⟨V117, rfl, G_118.mono (by omega), ?_⟩
          have l0 := @lcmp_0 P.1 0
          have m0 := @lcmp_lt P.1 0
          have n0 := @lcmp_gt P.1 0
          have l1 := @lcmp_0 P.2.1 0
          have m1 := @lcmp_lt P.2.1 0
          have n1 := @lcmp_gt P.2.1 0
          have l2 := @lcmp_0 P.2.2.1 0
          have m2 := @lcmp_lt P.2.2.1 0
          have n2 := @lcmp_gt P.2.2.1 0
          unfold m_low
          first
            | (rw [if_pos (by omega)]; unfold set_up)
            | (rw [if_neg (by omega)]; unfold set_dn)
          exact ⟨_, _, _, _, s117, ((g117.rb (g115.rb (g113.rb (g111.rb (g109.rb (g107.rb (g105.rb (g103.rb (g101.rb (g99.rb (g97.rb xp95))))))))))).up (by omega)), ((g117.rb (g115.rb (g113.rb (g111.rb (g109.rb (g107.rb (g105.rb (g103.rb xp101)))))))).up (by omega)), ((g117.rb (g115.rb (g113.rb (g111.rb (g109.rb xp107))))).up (by omega)), ((g117.rb (g115.rb xp113)).up (by omega))⟩
        · skip
          refine g_aload_n rfl rfl ?_
          refine g_aload_n rfl rfl ?_
          refine g_iload rfl rfl ?_
          refine g_iald (i := 0) rfl (ms.slot hP) (by omega) (by omega) ?_
          refine g_top (v2 := aI ((p95 : Int))) (congrArg aI (by exact s97.1)) ?_
          refine g_callVI [aI ((p95 : Int))] [aI 0, aO (some aP)] rfl rfl rfl rfl (Nat.le_of_ble_eq_true rfl) ms.1 (r_neg (by omega) ms V97 (by have := G_98.2.2.1; omega) (g97.rb xp95) (by omega)) ?_
          rintro _ _ ⟨p119, rfl, V119, rfl, g119, xp119⟩
          have G_120 := G_98.trans (g119.gs _)
          refine g_goto rfl ?_
          refine g_iast (i := 0) rfl (ms.slot hP) (by omega) (by omega) ?_
          obtain ⟨V121, eV121⟩ : ∃ W, W = vset V119 aP 0 (p119 : Int) := ⟨_, rfl⟩
          refine g_hp (h2 := hw h V121) (by rw [eV121]; rfl) ?_
          have g121 : Gs V119 V121 o 0 (fun q => q = aP) := by rw [eV121]; exact Gs.cell hP
          have s121 : SA V121 aP p119 Pq Pr Ps := by rw [eV121]; exact SA.c0 (g119.sa hP s97) p119
          have G_122 := G_120.trans (g121.wide (fun q hq => by have hq : q = aP := hq; show q = aP; omega))
          refine g_iinc (l1 := [(5, aI 1), (4, aI (lcmp P.2.1 0)), (3, aI ((p5 : Int))), (0, aO (some o)), (1, aO (some aP)), (2, aI 1)]) rfl rfl (by omega) (by omega) rfl ?_
          refine g_goto rfl ?_
          refine g_iload rfl rfl ?_
          refine g_iconst rfl ?_
          refine g_icmp_ge_f rfl (by omega) ?_
          refine g_aload_n rfl rfl ?_
          refine g_iload rfl rfl ?_
          refine g_aload_n rfl rfl ?_
          refine g_aload_n rfl rfl ?_
          refine g_iload rfl rfl ?_
          refine g_iald (i := 1) rfl (ms.slot hP) (by omega) (by omega) ?_
          refine g_top (v2 := aI ((Pq : Int))) (congrArg aI (by exact s121.2.1)) ?_
          refine g_iload_n rfl rfl ?_
          refine g_callVI [aI ((Pq : Int)), aI ((p5 : Int))] [aI 1, aO (some aP)] rfl rfl rfl rfl (Nat.le_of_ble_eq_true rfl) ms.1 (r_div (by omega) ms V121 (by have := G_122.2.2.1; omega) (g121.rb (g119.rb (g97.rb (g95.rb (g5.rb (g3.rb (g1.rb xPq))))))) (g121.rb (g119.rb (g97.rb (g95.rb xp5)))) (by intro h0; have q4 := g4_0 h0; omega) (by omega) (by omega)) ?_
          rintro _ _ ⟨p123, rfl, V123, rfl, g123, xp123⟩
          have G_124 := G_122.trans (g123.gs _)
          refine g_iast (i := 1) rfl (ms.slot hP) (by omega) (by omega) ?_
          obtain ⟨V125, eV125⟩ : ∃ W, W = vset V123 aP 1 (p123 : Int) := ⟨_, rfl⟩
          refine g_hp (h2 := hw h V125) (by rw [eV125]; rfl) ?_
          have g125 : Gs V123 V125 o 0 (fun q => q = aP) := by rw [eV125]; exact Gs.cell hP
          have s125 : SA V125 aP p119 p123 Pr Ps := by rw [eV125]; exact SA.c1 (g123.sa hP s121) p123
          have G_126 := G_124.trans (g125.wide (fun q hq => by have hq : q = aP := hq; show q = aP; omega))
          refine g_aload_n rfl rfl ?_
          refine g_iload rfl rfl ?_
          refine g_iload rfl rfl ?_
          refine g_if_ge_f rfl (by omega) ?_
          refine g_aload_n rfl rfl ?_
          refine g_aload_n rfl rfl ?_
          refine g_iload rfl rfl ?_
          refine g_iald (i := 1) rfl (ms.slot hP) (by omega) (by omega) ?_
          refine g_top (v2 := aI ((p123 : Int))) (congrArg aI (by exact s125.2.1)) ?_
          refine g_callVI [aI ((p123 : Int))] [aI 1, aO (some aP)] rfl rfl rfl rfl (Nat.le_of_ble_eq_true rfl) ms.1 (r_neg (by omega) ms V125 (by have := G_126.2.2.1; omega) (g125.rb xp123) (by omega)) ?_
          rintro _ _ ⟨p127, rfl, V127, rfl, g127, xp127⟩
          have G_128 := G_126.trans (g127.gs _)
          refine g_goto rfl ?_
          refine g_iast (i := 1) rfl (ms.slot hP) (by omega) (by omega) ?_
          obtain ⟨V129, eV129⟩ : ∃ W, W = vset V127 aP 1 (p127 : Int) := ⟨_, rfl⟩
          refine g_hp (h2 := hw h V129) (by rw [eV129]; rfl) ?_
          have g129 : Gs V127 V129 o 0 (fun q => q = aP) := by rw [eV129]; exact Gs.cell hP
          have s129 : SA V129 aP p119 p127 Pr Ps := by rw [eV129]; exact SA.c1 (g127.sa hP s125) p127
          have G_130 := G_128.trans (g129.wide (fun q hq => by have hq : q = aP := hq; show q = aP; omega))
          refine g_iinc (l1 := [(5, aI 2), (4, aI (lcmp P.2.1 0)), (3, aI ((p5 : Int))), (0, aO (some o)), (1, aO (some aP)), (2, aI 1)]) rfl rfl (by omega) (by omega) rfl ?_
          refine g_goto rfl ?_
          refine g_iload rfl rfl ?_
          refine g_iconst rfl ?_
          refine g_icmp_ge_f rfl (by omega) ?_
          refine g_aload_n rfl rfl ?_
          refine g_iload rfl rfl ?_
          refine g_aload_n rfl rfl ?_
          refine g_aload_n rfl rfl ?_
          refine g_iload rfl rfl ?_
          refine g_iald (i := 2) rfl (ms.slot hP) (by omega) (by omega) ?_
          refine g_top (v2 := aI ((Pr : Int))) (congrArg aI (by exact s129.2.2.1)) ?_
          refine g_iload_n rfl rfl ?_
          refine g_callVI [aI ((Pr : Int)), aI ((p5 : Int))] [aI 2, aO (some aP)] rfl rfl rfl rfl (Nat.le_of_ble_eq_true rfl) ms.1 (r_div (by omega) ms V129 (by have := G_130.2.2.1; omega) (g129.rb (g127.rb (g125.rb (g123.rb (g121.rb (g119.rb (g97.rb (g95.rb (g5.rb (g3.rb (g1.rb xPr))))))))))) (g129.rb (g127.rb (g125.rb (g123.rb (g121.rb (g119.rb (g97.rb (g95.rb xp5)))))))) (by intro h0; have q4 := g4_0 h0; omega) (by omega) (by omega)) ?_
          rintro _ _ ⟨p131, rfl, V131, rfl, g131, xp131⟩
          have G_132 := G_130.trans (g131.gs _)
          refine g_iast (i := 2) rfl (ms.slot hP) (by omega) (by omega) ?_
          obtain ⟨V133, eV133⟩ : ∃ W, W = vset V131 aP 2 (p131 : Int) := ⟨_, rfl⟩
          refine g_hp (h2 := hw h V133) (by rw [eV133]; rfl) ?_
          have g133 : Gs V131 V133 o 0 (fun q => q = aP) := by rw [eV133]; exact Gs.cell hP
          have s133 : SA V133 aP p119 p127 p131 Ps := by rw [eV133]; exact SA.c2 (g131.sa hP s129) p131
          have G_134 := G_132.trans (g133.wide (fun q hq => by have hq : q = aP := hq; show q = aP; omega))
          refine g_aload_n rfl rfl ?_
          refine g_iload rfl rfl ?_
          refine g_iload rfl rfl ?_
          refine g_if_ge_f rfl (by omega) ?_
          refine g_aload_n rfl rfl ?_
          refine g_aload_n rfl rfl ?_
          refine g_iload rfl rfl ?_
          refine g_iald (i := 2) rfl (ms.slot hP) (by omega) (by omega) ?_
          refine g_top (v2 := aI ((p131 : Int))) (congrArg aI (by exact s133.2.2.1)) ?_
          refine g_callVI [aI ((p131 : Int))] [aI 2, aO (some aP)] rfl rfl rfl rfl (Nat.le_of_ble_eq_true rfl) ms.1 (r_neg (by omega) ms V133 (by have := G_134.2.2.1; omega) (g133.rb xp131) (by omega)) ?_
          rintro _ _ ⟨p135, rfl, V135, rfl, g135, xp135⟩
          have G_136 := G_134.trans (g135.gs _)
          refine g_goto rfl ?_
          refine g_iast (i := 2) rfl (ms.slot hP) (by omega) (by omega) ?_
          obtain ⟨V137, eV137⟩ : ∃ W, W = vset V135 aP 2 (p135 : Int) := ⟨_, rfl⟩
          refine g_hp (h2 := hw h V137) (by rw [eV137]; rfl) ?_
          have g137 : Gs V135 V137 o 0 (fun q => q = aP) := by rw [eV137]; exact Gs.cell hP
          have s137 : SA V137 aP p119 p127 p135 Ps := by rw [eV137]; exact SA.c2 (g135.sa hP s133) p135
          have G_138 := G_136.trans (g137.wide (fun q hq => by have hq : q = aP := hq; show q = aP; omega))
          refine g_iinc (l1 := [(5, aI 3), (4, aI (lcmp P.2.1 0)), (3, aI ((p5 : Int))), (0, aO (some o)), (1, aO (some aP)), (2, aI 1)]) rfl rfl (by omega) (by omega) rfl ?_
          refine g_goto rfl ?_
          refine g_iload rfl rfl ?_
          refine g_iconst rfl ?_
          refine g_icmp_ge_f rfl (by omega) ?_
          refine g_aload_n rfl rfl ?_
          refine g_iload rfl rfl ?_
          refine g_aload_n rfl rfl ?_
          refine g_aload_n rfl rfl ?_
          refine g_iload rfl rfl ?_
          refine g_iald (i := 3) rfl (ms.slot hP) (by omega) (by omega) ?_
          refine g_top (v2 := aI ((Ps : Int))) (congrArg aI (by exact s137.2.2.2)) ?_
          refine g_iload_n rfl rfl ?_
          refine g_callVI [aI ((Ps : Int)), aI ((p5 : Int))] [aI 3, aO (some aP)] rfl rfl rfl rfl (Nat.le_of_ble_eq_true rfl) ms.1 (r_div (by omega) ms V137 (by have := G_138.2.2.1; omega) (g137.rb (g135.rb (g133.rb (g131.rb (g129.rb (g127.rb (g125.rb (g123.rb (g121.rb (g119.rb (g97.rb (g95.rb (g5.rb (g3.rb (g1.rb xPs))))))))))))))) (g137.rb (g135.rb (g133.rb (g131.rb (g129.rb (g127.rb (g125.rb (g123.rb (g121.rb (g119.rb (g97.rb (g95.rb xp5)))))))))))) (by intro h0; have q4 := g4_0 h0; omega) (by omega) (by omega)) ?_
          rintro _ _ ⟨p139, rfl, V139, rfl, g139, xp139⟩
          have G_140 := G_138.trans (g139.gs _)
          refine g_iast (i := 3) rfl (ms.slot hP) (by omega) (by omega) ?_
          obtain ⟨V141, eV141⟩ : ∃ W, W = vset V139 aP 3 (p139 : Int) := ⟨_, rfl⟩
          refine g_hp (h2 := hw h V141) (by rw [eV141]; rfl) ?_
          have g141 : Gs V139 V141 o 0 (fun q => q = aP) := by rw [eV141]; exact Gs.cell hP
          have s141 : SA V141 aP p119 p127 p135 p139 := by rw [eV141]; exact SA.c3 (g139.sa hP s137) p139
          have G_142 := G_140.trans (g141.wide (fun q hq => by have hq : q = aP := hq; show q = aP; omega))
          refine g_aload_n rfl rfl ?_
          refine g_iload rfl rfl ?_
          refine g_iload rfl rfl ?_
          refine g_if_ge_f rfl (by omega) ?_
          refine g_aload_n rfl rfl ?_
          refine g_aload_n rfl rfl ?_
          refine g_iload rfl rfl ?_
          refine g_iald (i := 3) rfl (ms.slot hP) (by omega) (by omega) ?_
          refine g_top (v2 := aI ((p139 : Int))) (congrArg aI (by exact s141.2.2.2)) ?_
          refine g_callVI [aI ((p139 : Int))] [aI 3, aO (some aP)] rfl rfl rfl rfl (Nat.le_of_ble_eq_true rfl) ms.1 (r_neg (by omega) ms V141 (by have := G_142.2.2.1; omega) (g141.rb xp139) (by omega)) ?_
          rintro _ _ ⟨p143, rfl, V143, rfl, g143, xp143⟩
          have G_144 := G_142.trans (g143.gs _)
          refine g_goto rfl ?_
          refine g_iast (i := 3) rfl (ms.slot hP) (by omega) (by omega) ?_
          obtain ⟨V145, eV145⟩ : ∃ W, W = vset V143 aP 3 (p143 : Int) := ⟨_, rfl⟩
          refine g_hp (h2 := hw h V145) (by rw [eV145]; rfl) ?_
          have g145 : Gs V143 V145 o 0 (fun q => q = aP) := by rw [eV145]; exact Gs.cell hP
          have s145 : SA V145 aP p119 p127 p135 p143 := by rw [eV145]; exact SA.c3 (g143.sa hP s141) p143
          have G_146 := G_144.trans (g145.wide (fun q hq => by have hq : q = aP := hq; show q = aP; omega))
          refine g_iinc (l1 := [(5, aI 4), (4, aI (lcmp P.2.1 0)), (3, aI ((p5 : Int))), (0, aO (some o)), (1, aO (some aP)), (2, aI 1)]) rfl rfl (by omega) (by omega) rfl ?_
          refine g_goto rfl ?_
          refine g_iload rfl rfl ?_
          refine g_iconst rfl ?_
          refine g_icmp_ge_t rfl (by omega) ?_
          refine g_vret rfl ?_
          refine ⟨V145, rfl, G_146.mono (by omega), ?_⟩
          have l0 := @lcmp_0 P.1 0
          have m0 := @lcmp_lt P.1 0
          have n0 := @lcmp_gt P.1 0
          have l1 := @lcmp_0 P.2.1 0
          have m1 := @lcmp_lt P.2.1 0
          have n1 := @lcmp_gt P.2.1 0
          have l2 := @lcmp_0 P.2.2.1 0
          have m2 := @lcmp_lt P.2.2.1 0
          have n2 := @lcmp_gt P.2.2.1 0
          unfold m_low
          first
            | (rw [if_pos (by omega)]; unfold set_up)
            | (rw [if_neg (by omega)]; unfold set_dn)
          exact ⟨_, _, _, _, s145, ((g145.rb (g143.rb (g141.rb (g139.rb (g137.rb (g135.rb (g133.rb (g131.rb (g129.rb (g127.rb (g125.rb (g123.rb (g121.rb xp119))))))))))))).up (by omega)), ((g145.rb (g143.rb (g141.rb (g139.rb (g137.rb (g135.rb (g133.rb (g131.rb (g129.rb xp127))))))))).up (by omega)), ((g145.rb (g143.rb (g141.rb (g139.rb (g137.rb xp135))))).up (by omega)), ((g145.rb xp143).up (by omega))⟩
      · skip
        refine g_aload_n rfl rfl ?_
        refine g_aload_n rfl rfl ?_
        refine g_iload rfl rfl ?_
        refine g_iald (i := 2) rfl (ms.slot hP) (by omega) (by omega) ?_
        refine g_top (v2 := aI ((Pr : Int))) (congrArg aI (by exact (g5.sa hP (g3.sa hP (g1.sa hP sP))).2.2.1)) ?_
        refine g_callVI [aI ((Pr : Int))] [] rfl rfl rfl rfl (Nat.le_of_ble_eq_true rfl) ms.1 (r_sign (by omega) ms V5 (g5.rb (g3.rb (g1.rb xPr)))) ?_
        rintro r147 _ ⟨rfl, e148⟩
        rw [e148]
        clear e148 r147
        refine g_goto rfl ?_
        refine g_istore (l1 := [(4, aI (lcmp P.2.2.1 0)), (5, aI 2), (3, aI ((p5 : Int))), (0, aO (some o)), (1, aO (some aP)), (2, aI 1)]) rfl rfl ?_
        refine g_iinc (l1 := [(5, aI 3), (4, aI (lcmp P.2.2.1 0)), (3, aI ((p5 : Int))), (0, aO (some o)), (1, aO (some aP)), (2, aI 1)]) rfl rfl (by omega) (by omega) rfl ?_
        refine g_goto rfl ?_
        refine g_iload rfl rfl ?_
        refine g_iconst rfl ?_
        refine g_icmp_ge_t rfl (by omega) ?_
        refine g_iconst rfl ?_
        refine g_istore (l1 := [(5, aI 0), (4, aI (lcmp P.2.2.1 0)), (3, aI ((p5 : Int))), (0, aO (some o)), (1, aO (some aP)), (2, aI 1)]) rfl rfl ?_
        refine g_iload rfl rfl ?_
        refine g_iconst rfl ?_
        refine g_icmp_ge_f rfl (by omega) ?_
        refine g_aload_n rfl rfl ?_
        refine g_iload rfl rfl ?_
        refine g_aload_n rfl rfl ?_
        refine g_aload_n rfl rfl ?_
        refine g_iload rfl rfl ?_
        refine g_iald (i := 0) rfl (ms.slot hP) (by omega) (by omega) ?_
        refine g_top (v2 := aI ((Pp : Int))) (congrArg aI (by exact (g5.sa hP (g3.sa hP (g1.sa hP sP))).1)) ?_
        refine g_iload_n rfl rfl ?_
        refine g_callVI [aI ((Pp : Int)), aI ((p5 : Int))] [aI 0, aO (some aP)] rfl rfl rfl rfl (Nat.le_of_ble_eq_true rfl) ms.1 (r_div (by omega) ms V5 (by have := G_6.2.2.1; omega) (g5.rb (g3.rb (g1.rb xPp))) xp5 (by intro h0; have q4 := g4_0 h0; omega) (by omega) (by omega)) ?_
        rintro _ _ ⟨p149, rfl, V149, rfl, g149, xp149⟩
        have G_150 := G_6.trans (g149.gs _)
        refine g_iast (i := 0) rfl (ms.slot hP) (by omega) (by omega) ?_
        obtain ⟨V151, eV151⟩ : ∃ W, W = vset V149 aP 0 (p149 : Int) := ⟨_, rfl⟩
        refine g_hp (h2 := hw h V151) (by rw [eV151]; rfl) ?_
        have g151 : Gs V149 V151 o 0 (fun q => q = aP) := by rw [eV151]; exact Gs.cell hP
        have s151 : SA V151 aP p149 Pq Pr Ps := by rw [eV151]; exact SA.c0 (g149.sa hP (g5.sa hP (g3.sa hP (g1.sa hP sP)))) p149
        have G_152 := G_150.trans (g151.wide (fun q hq => by have hq : q = aP := hq; show q = aP; omega))
        refine g_aload_n rfl rfl ?_
        refine g_iload rfl rfl ?_
        refine g_iload rfl rfl ?_
        refine g_if_ge rfl (fun c113 => ?_) (fun c113 => ?_)
        · skip
          refine g_aload_n rfl rfl ?_
          refine g_iload rfl rfl ?_
          refine g_iald (i := 0) rfl (ms.slot hP) (by omega) (by omega) ?_
          refine g_top (v2 := aI ((p149 : Int))) (congrArg aI (by exact s151.1)) ?_
          refine g_iast (i := 0) rfl (ms.slot hP) (by omega) (by omega) ?_
          obtain ⟨V153, eV153⟩ : ∃ W, W = vset V151 aP 0 (p149 : Int) := ⟨_, rfl⟩
          refine g_hp (h2 := hw h V153) (by rw [eV153]; rfl) ?_
          have g153 : Gs V151 V153 o 0 (fun q => q = aP) := by rw [eV153]; exact Gs.cell hP
          have s153 : SA V153 aP p149 Pq Pr Ps := by rw [eV153]; exact SA.c0 s151 p149
          have G_154 := G_152.trans (g153.wide (fun q hq => by have hq : q = aP := hq; show q = aP; omega))
          refine g_iinc (l1 := [(5, aI 1), (4, aI (lcmp P.2.2.1 0)), (3, aI ((p5 : Int))), (0, aO (some o)), (1, aO (some aP)), (2, aI 1)]) rfl rfl (by omega) (by omega) rfl ?_
          refine g_goto rfl ?_
          refine g_iload rfl rfl ?_
          refine g_iconst rfl ?_
          refine g_icmp_ge_f rfl (by omega) ?_
          refine g_aload_n rfl rfl ?_
          refine g_iload rfl rfl ?_
          refine g_aload_n rfl rfl ?_
          refine g_aload_n rfl rfl ?_
          refine g_iload rfl rfl ?_
          refine g_iald (i := 1) rfl (ms.slot hP) (by omega) (by omega) ?_
          refine g_top (v2 := aI ((Pq : Int))) (congrArg aI (by exact s153.2.1)) ?_
          refine g_iload_n rfl rfl ?_
          refine g_callVI [aI ((Pq : Int)), aI ((p5 : Int))] [aI 1, aO (some aP)] rfl rfl rfl rfl (Nat.le_of_ble_eq_true rfl) ms.1 (r_div (by omega) ms V153 (by have := G_154.2.2.1; omega) (g153.rb (g151.rb (g149.rb (g5.rb (g3.rb (g1.rb xPq)))))) (g153.rb (g151.rb (g149.rb xp5))) (by intro h0; have q4 := g4_0 h0; omega) (by omega) (by omega)) ?_
          rintro _ _ ⟨p155, rfl, V155, rfl, g155, xp155⟩
          have G_156 := G_154.trans (g155.gs _)
          refine g_iast (i := 1) rfl (ms.slot hP) (by omega) (by omega) ?_
          obtain ⟨V157, eV157⟩ : ∃ W, W = vset V155 aP 1 (p155 : Int) := ⟨_, rfl⟩
          refine g_hp (h2 := hw h V157) (by rw [eV157]; rfl) ?_
          have g157 : Gs V155 V157 o 0 (fun q => q = aP) := by rw [eV157]; exact Gs.cell hP
          have s157 : SA V157 aP p149 p155 Pr Ps := by rw [eV157]; exact SA.c1 (g155.sa hP s153) p155
          have G_158 := G_156.trans (g157.wide (fun q hq => by have hq : q = aP := hq; show q = aP; omega))
          refine g_aload_n rfl rfl ?_
          refine g_iload rfl rfl ?_
          refine g_iload rfl rfl ?_
          refine g_if_ge_t rfl (by omega) ?_
          refine g_aload_n rfl rfl ?_
          refine g_iload rfl rfl ?_
          refine g_iald (i := 1) rfl (ms.slot hP) (by omega) (by omega) ?_
          refine g_top (v2 := aI ((p155 : Int))) (congrArg aI (by exact s157.2.1)) ?_
          refine g_iast (i := 1) rfl (ms.slot hP) (by omega) (by omega) ?_
          obtain ⟨V159, eV159⟩ : ∃ W, W = vset V157 aP 1 (p155 : Int) := ⟨_, rfl⟩
          refine g_hp (h2 := hw h V159) (by rw [eV159]; rfl) ?_
          have g159 : Gs V157 V159 o 0 (fun q => q = aP) := by rw [eV159]; exact Gs.cell hP
          have s159 : SA V159 aP p149 p155 Pr Ps := by rw [eV159]; exact SA.c1 s157 p155
          have G_160 := G_158.trans (g159.wide (fun q hq => by have hq : q = aP := hq; show q = aP; omega))
          refine g_iinc (l1 := [(5, aI 2), (4, aI (lcmp P.2.2.1 0)), (3, aI ((p5 : Int))), (0, aO (some o)), (1, aO (some aP)), (2, aI 1)]) rfl rfl (by omega) (by omega) rfl ?_
          refine g_goto rfl ?_
          refine g_iload rfl rfl ?_
          refine g_iconst rfl ?_
          refine g_icmp_ge_f rfl (by omega) ?_
          refine g_aload_n rfl rfl ?_
          refine g_iload rfl rfl ?_
          refine g_aload_n rfl rfl ?_
          refine g_aload_n rfl rfl ?_
          refine g_iload rfl rfl ?_
          refine g_iald (i := 2) rfl (ms.slot hP) (by omega) (by omega) ?_
          refine g_top (v2 := aI ((Pr : Int))) (congrArg aI (by exact s159.2.2.1)) ?_
          refine g_iload_n rfl rfl ?_
          refine g_callVI [aI ((Pr : Int)), aI ((p5 : Int))] [aI 2, aO (some aP)] rfl rfl rfl rfl (Nat.le_of_ble_eq_true rfl) ms.1 (r_div (by omega) ms V159 (by have := G_160.2.2.1; omega) (g159.rb (g157.rb (g155.rb (g153.rb (g151.rb (g149.rb (g5.rb (g3.rb (g1.rb xPr))))))))) (g159.rb (g157.rb (g155.rb (g153.rb (g151.rb (g149.rb xp5)))))) (by intro h0; have q4 := g4_0 h0; omega) (by omega) (by omega)) ?_
          rintro _ _ ⟨p161, rfl, V161, rfl, g161, xp161⟩
          have G_162 := G_160.trans (g161.gs _)
          refine g_iast (i := 2) rfl (ms.slot hP) (by omega) (by omega) ?_
          obtain ⟨V163, eV163⟩ : ∃ W, W = vset V161 aP 2 (p161 : Int) := ⟨_, rfl⟩
          refine g_hp (h2 := hw h V163) (by rw [eV163]; rfl) ?_
          have g163 : Gs V161 V163 o 0 (fun q => q = aP) := by rw [eV163]; exact Gs.cell hP
          have s163 : SA V163 aP p149 p155 p161 Ps := by rw [eV163]; exact SA.c2 (g161.sa hP s159) p161
          have G_164 := G_162.trans (g163.wide (fun q hq => by have hq : q = aP := hq; show q = aP; omega))
          refine g_aload_n rfl rfl ?_
          refine g_iload rfl rfl ?_
          refine g_iload rfl rfl ?_
          refine g_if_ge_t rfl (by omega) ?_
          refine g_aload_n rfl rfl ?_
          refine g_iload rfl rfl ?_
          refine g_iald (i := 2) rfl (ms.slot hP) (by omega) (by omega) ?_
          refine g_top (v2 := aI ((p161 : Int))) (congrArg aI (by exact s163.2.2.1)) ?_
          refine g_iast (i := 2) rfl (ms.slot hP) (by omega) (by omega) ?_
          obtain ⟨V165, eV165⟩ : ∃ W, W = vset V163 aP 2 (p161 : Int) := ⟨_, rfl⟩
          refine g_hp (h2 := hw h V165) (by rw [eV165]; rfl) ?_
          have g165 : Gs V163 V165 o 0 (fun q => q = aP) := by rw [eV165]; exact Gs.cell hP
          have s165 : SA V165 aP p149 p155 p161 Ps := by rw [eV165]; exact SA.c2 s163 p161
          have G_166 := G_164.trans (g165.wide (fun q hq => by have hq : q = aP := hq; show q = aP; omega))
          refine g_iinc (l1 := [(5, aI 3), (4, aI (lcmp P.2.2.1 0)), (3, aI ((p5 : Int))), (0, aO (some o)), (1, aO (some aP)), (2, aI 1)]) rfl rfl (by omega) (by omega) rfl ?_
          refine g_goto rfl ?_
          refine g_iload rfl rfl ?_
          refine g_iconst rfl ?_
          refine g_icmp_ge_f rfl (by omega) ?_
          refine g_aload_n rfl rfl ?_
          refine g_iload rfl rfl ?_
          refine g_aload_n rfl rfl ?_
          refine g_aload_n rfl rfl ?_
          refine g_iload rfl rfl ?_
          refine g_iald (i := 3) rfl (ms.slot hP) (by omega) (by omega) ?_
          refine g_top (v2 := aI ((Ps : Int))) (congrArg aI (by exact s165.2.2.2)) ?_
          refine g_iload_n rfl rfl ?_
          refine g_callVI [aI ((Ps : Int)), aI ((p5 : Int))] [aI 3, aO (some aP)] rfl rfl rfl rfl (Nat.le_of_ble_eq_true rfl) ms.1 (r_div (by omega) ms V165 (by have := G_166.2.2.1; omega) (g165.rb (g163.rb (g161.rb (g159.rb (g157.rb (g155.rb (g153.rb (g151.rb (g149.rb (g5.rb (g3.rb (g1.rb xPs)))))))))))) (g165.rb (g163.rb (g161.rb (g159.rb (g157.rb (g155.rb (g153.rb (g151.rb (g149.rb xp5))))))))) (by intro h0; have q4 := g4_0 h0; omega) (by omega) (by omega)) ?_
          rintro _ _ ⟨p167, rfl, V167, rfl, g167, xp167⟩
          have G_168 := G_166.trans (g167.gs _)
          refine g_iast (i := 3) rfl (ms.slot hP) (by omega) (by omega) ?_
          obtain ⟨V169, eV169⟩ : ∃ W, W = vset V167 aP 3 (p167 : Int) := ⟨_, rfl⟩
          refine g_hp (h2 := hw h V169) (by rw [eV169]; rfl) ?_
          have g169 : Gs V167 V169 o 0 (fun q => q = aP) := by rw [eV169]; exact Gs.cell hP
          have s169 : SA V169 aP p149 p155 p161 p167 := by rw [eV169]; exact SA.c3 (g167.sa hP s165) p167
          have G_170 := G_168.trans (g169.wide (fun q hq => by have hq : q = aP := hq; show q = aP; omega))
          refine g_aload_n rfl rfl ?_
          refine g_iload rfl rfl ?_
          refine g_iload rfl rfl ?_
          refine g_if_ge_t rfl (by omega) ?_
          refine g_aload_n rfl rfl ?_
          refine g_iload rfl rfl ?_
          refine g_iald (i := 3) rfl (ms.slot hP) (by omega) (by omega) ?_
          refine g_top (v2 := aI ((p167 : Int))) (congrArg aI (by exact s169.2.2.2)) ?_
          refine g_iast (i := 3) rfl (ms.slot hP) (by omega) (by omega) ?_
          obtain ⟨V171, eV171⟩ : ∃ W, W = vset V169 aP 3 (p167 : Int) := ⟨_, rfl⟩
          refine g_hp (h2 := hw h V171) (by rw [eV171]; rfl) ?_
          have g171 : Gs V169 V171 o 0 (fun q => q = aP) := by rw [eV171]; exact Gs.cell hP
          have s171 : SA V171 aP p149 p155 p161 p167 := by rw [eV171]; exact SA.c3 s169 p167
          have G_172 := G_170.trans (g171.wide (fun q hq => by have hq : q = aP := hq; show q = aP; omega))
          refine g_iinc (l1 := [(5, aI 4), (4, aI (lcmp P.2.2.1 0)), (3, aI ((p5 : Int))), (0, aO (some o)), (1, aO (some aP)), (2, aI 1)]) rfl rfl (by omega) (by omega) rfl ?_
          refine g_goto rfl ?_
          refine g_iload rfl rfl ?_
          refine g_iconst rfl ?_
          refine g_icmp_ge_t rfl (by omega) ?_
          refine g_vret rfl ?_
          refine ⟨V171, rfl, G_172.mono (by omega), ?_⟩
          have l0 := @lcmp_0 P.1 0
          have m0 := @lcmp_lt P.1 0
          have n0 := @lcmp_gt P.1 0
          have l1 := @lcmp_0 P.2.1 0
          have m1 := @lcmp_lt P.2.1 0
          have n1 := @lcmp_gt P.2.1 0
          have l2 := @lcmp_0 P.2.2.1 0
          have m2 := @lcmp_lt P.2.2.1 0
          have n2 := @lcmp_gt P.2.2.1 0
          unfold m_low
          first
            | (rw [if_pos (by omega)]; unfold set_up)
            | (rw [if_neg (by omega)]; unfold set_dn)
          exact ⟨_, _, _, _, s171, ((g171.rb (g169.rb (g167.rb (g165.rb (g163.rb (g161.rb (g159.rb (g157.rb (g155.rb (g153.rb (g151.rb xp149))))))))))).up (by omega)), ((g171.rb (g169.rb (g167.rb (g165.rb (g163.rb (g161.rb (g159.rb (g157.rb xp155)))))))).up (by omega)), ((g171.rb (g169.rb (g167.rb (g165.rb (g163.rb xp161))))).up (by omega)), ((g171.rb (g169.rb xp167)).up (by omega))⟩
        · skip
          refine g_aload_n rfl rfl ?_
          refine g_aload_n rfl rfl ?_
          refine g_iload rfl rfl ?_
          refine g_iald (i := 0) rfl (ms.slot hP) (by omega) (by omega) ?_
          refine g_top (v2 := aI ((p149 : Int))) (congrArg aI (by exact s151.1)) ?_
          refine g_callVI [aI ((p149 : Int))] [aI 0, aO (some aP)] rfl rfl rfl rfl (Nat.le_of_ble_eq_true rfl) ms.1 (r_neg (by omega) ms V151 (by have := G_152.2.2.1; omega) (g151.rb xp149) (by omega)) ?_
          rintro _ _ ⟨p173, rfl, V173, rfl, g173, xp173⟩
          have G_174 := G_152.trans (g173.gs _)
          refine g_goto rfl ?_
          refine g_iast (i := 0) rfl (ms.slot hP) (by omega) (by omega) ?_
          obtain ⟨V175, eV175⟩ : ∃ W, W = vset V173 aP 0 (p173 : Int) := ⟨_, rfl⟩
          refine g_hp (h2 := hw h V175) (by rw [eV175]; rfl) ?_
          have g175 : Gs V173 V175 o 0 (fun q => q = aP) := by rw [eV175]; exact Gs.cell hP
          have s175 : SA V175 aP p173 Pq Pr Ps := by rw [eV175]; exact SA.c0 (g173.sa hP s151) p173
          have G_176 := G_174.trans (g175.wide (fun q hq => by have hq : q = aP := hq; show q = aP; omega))
          refine g_iinc (l1 := [(5, aI 1), (4, aI (lcmp P.2.2.1 0)), (3, aI ((p5 : Int))), (0, aO (some o)), (1, aO (some aP)), (2, aI 1)]) rfl rfl (by omega) (by omega) rfl ?_
          refine g_goto rfl ?_
          refine g_iload rfl rfl ?_
          refine g_iconst rfl ?_
          refine g_icmp_ge_f rfl (by omega) ?_
          refine g_aload_n rfl rfl ?_
          refine g_iload rfl rfl ?_
          refine g_aload_n rfl rfl ?_
          refine g_aload_n rfl rfl ?_
          refine g_iload rfl rfl ?_
          refine g_iald (i := 1) rfl (ms.slot hP) (by omega) (by omega) ?_
          refine g_top (v2 := aI ((Pq : Int))) (congrArg aI (by exact s175.2.1)) ?_
          refine g_iload_n rfl rfl ?_
          refine g_callVI [aI ((Pq : Int)), aI ((p5 : Int))] [aI 1, aO (some aP)] rfl rfl rfl rfl (Nat.le_of_ble_eq_true rfl) ms.1 (r_div (by omega) ms V175 (by have := G_176.2.2.1; omega) (g175.rb (g173.rb (g151.rb (g149.rb (g5.rb (g3.rb (g1.rb xPq))))))) (g175.rb (g173.rb (g151.rb (g149.rb xp5)))) (by intro h0; have q4 := g4_0 h0; omega) (by omega) (by omega)) ?_
          rintro _ _ ⟨p177, rfl, V177, rfl, g177, xp177⟩
          have G_178 := G_176.trans (g177.gs _)
          refine g_iast (i := 1) rfl (ms.slot hP) (by omega) (by omega) ?_
          obtain ⟨V179, eV179⟩ : ∃ W, W = vset V177 aP 1 (p177 : Int) := ⟨_, rfl⟩
          refine g_hp (h2 := hw h V179) (by rw [eV179]; rfl) ?_
          have g179 : Gs V177 V179 o 0 (fun q => q = aP) := by rw [eV179]; exact Gs.cell hP
          have s179 : SA V179 aP p173 p177 Pr Ps := by rw [eV179]; exact SA.c1 (g177.sa hP s175) p177
          have G_180 := G_178.trans (g179.wide (fun q hq => by have hq : q = aP := hq; show q = aP; omega))
          refine g_aload_n rfl rfl ?_
          refine g_iload rfl rfl ?_
          refine g_iload rfl rfl ?_
          refine g_if_ge_f rfl (by omega) ?_
          refine g_aload_n rfl rfl ?_
          refine g_aload_n rfl rfl ?_
          refine g_iload rfl rfl ?_
          refine g_iald (i := 1) rfl (ms.slot hP) (by omega) (by omega) ?_
          refine g_top (v2 := aI ((p177 : Int))) (congrArg aI (by exact s179.2.1)) ?_
          refine g_callVI [aI ((p177 : Int))] [aI 1, aO (some aP)] rfl rfl rfl rfl (Nat.le_of_ble_eq_true rfl) ms.1 (r_neg (by omega) ms V179 (by have := G_180.2.2.1; omega) (g179.rb xp177) (by omega)) ?_
          rintro _ _ ⟨p181, rfl, V181, rfl, g181, xp181⟩
          have G_182 := G_180.trans (g181.gs _)
          refine g_goto rfl ?_
          refine g_iast (i := 1) rfl (ms.slot hP) (by omega) (by omega) ?_
          obtain ⟨V183, eV183⟩ : ∃ W, W = vset V181 aP 1 (p181 : Int) := ⟨_, rfl⟩
          refine g_hp (h2 := hw h V183) (by rw [eV183]; rfl) ?_
          have g183 : Gs V181 V183 o 0 (fun q => q = aP) := by rw [eV183]; exact Gs.cell hP
          have s183 : SA V183 aP p173 p181 Pr Ps := by rw [eV183]; exact SA.c1 (g181.sa hP s179) p181
          have G_184 := G_182.trans (g183.wide (fun q hq => by have hq : q = aP := hq; show q = aP; omega))
          refine g_iinc (l1 := [(5, aI 2), (4, aI (lcmp P.2.2.1 0)), (3, aI ((p5 : Int))), (0, aO (some o)), (1, aO (some aP)), (2, aI 1)]) rfl rfl (by omega) (by omega) rfl ?_
          refine g_goto rfl ?_
          refine g_iload rfl rfl ?_
          refine g_iconst rfl ?_
          refine g_icmp_ge_f rfl (by omega) ?_
          refine g_aload_n rfl rfl ?_
          refine g_iload rfl rfl ?_
          refine g_aload_n rfl rfl ?_
          refine g_aload_n rfl rfl ?_
          refine g_iload rfl rfl ?_
          refine g_iald (i := 2) rfl (ms.slot hP) (by omega) (by omega) ?_
          refine g_top (v2 := aI ((Pr : Int))) (congrArg aI (by exact s183.2.2.1)) ?_
          refine g_iload_n rfl rfl ?_
          refine g_callVI [aI ((Pr : Int)), aI ((p5 : Int))] [aI 2, aO (some aP)] rfl rfl rfl rfl (Nat.le_of_ble_eq_true rfl) ms.1 (r_div (by omega) ms V183 (by have := G_184.2.2.1; omega) (g183.rb (g181.rb (g179.rb (g177.rb (g175.rb (g173.rb (g151.rb (g149.rb (g5.rb (g3.rb (g1.rb xPr))))))))))) (g183.rb (g181.rb (g179.rb (g177.rb (g175.rb (g173.rb (g151.rb (g149.rb xp5)))))))) (by intro h0; have q4 := g4_0 h0; omega) (by omega) (by omega)) ?_
          rintro _ _ ⟨p185, rfl, V185, rfl, g185, xp185⟩
          have G_186 := G_184.trans (g185.gs _)
          refine g_iast (i := 2) rfl (ms.slot hP) (by omega) (by omega) ?_
          obtain ⟨V187, eV187⟩ : ∃ W, W = vset V185 aP 2 (p185 : Int) := ⟨_, rfl⟩
          refine g_hp (h2 := hw h V187) (by rw [eV187]; rfl) ?_
          have g187 : Gs V185 V187 o 0 (fun q => q = aP) := by rw [eV187]; exact Gs.cell hP
          have s187 : SA V187 aP p173 p181 p185 Ps := by rw [eV187]; exact SA.c2 (g185.sa hP s183) p185
          have G_188 := G_186.trans (g187.wide (fun q hq => by have hq : q = aP := hq; show q = aP; omega))
          refine g_aload_n rfl rfl ?_
          refine g_iload rfl rfl ?_
          refine g_iload rfl rfl ?_
          refine g_if_ge_f rfl (by omega) ?_
          refine g_aload_n rfl rfl ?_
          refine g_aload_n rfl rfl ?_
          refine g_iload rfl rfl ?_
          refine g_iald (i := 2) rfl (ms.slot hP) (by omega) (by omega) ?_
          refine g_top (v2 := aI ((p185 : Int))) (congrArg aI (by exact s187.2.2.1)) ?_
          refine g_callVI [aI ((p185 : Int))] [aI 2, aO (some aP)] rfl rfl rfl rfl (Nat.le_of_ble_eq_true rfl) ms.1 (r_neg (by omega) ms V187 (by have := G_188.2.2.1; omega) (g187.rb xp185) (by omega)) ?_
          rintro _ _ ⟨p189, rfl, V189, rfl, g189, xp189⟩
          have G_190 := G_188.trans (g189.gs _)
          refine g_goto rfl ?_
          refine g_iast (i := 2) rfl (ms.slot hP) (by omega) (by omega) ?_
          obtain ⟨V191, eV191⟩ : ∃ W, W = vset V189 aP 2 (p189 : Int) := ⟨_, rfl⟩
          refine g_hp (h2 := hw h V191) (by rw [eV191]; rfl) ?_
          have g191 : Gs V189 V191 o 0 (fun q => q = aP) := by rw [eV191]; exact Gs.cell hP
          have s191 : SA V191 aP p173 p181 p189 Ps := by rw [eV191]; exact SA.c2 (g189.sa hP s187) p189
          have G_192 := G_190.trans (g191.wide (fun q hq => by have hq : q = aP := hq; show q = aP; omega))
          refine g_iinc (l1 := [(5, aI 3), (4, aI (lcmp P.2.2.1 0)), (3, aI ((p5 : Int))), (0, aO (some o)), (1, aO (some aP)), (2, aI 1)]) rfl rfl (by omega) (by omega) rfl ?_
          refine g_goto rfl ?_
          refine g_iload rfl rfl ?_
          refine g_iconst rfl ?_
          refine g_icmp_ge_f rfl (by omega) ?_
          refine g_aload_n rfl rfl ?_
          refine g_iload rfl rfl ?_
          refine g_aload_n rfl rfl ?_
          refine g_aload_n rfl rfl ?_
          refine g_iload rfl rfl ?_
          refine g_iald (i := 3) rfl (ms.slot hP) (by omega) (by omega) ?_
          refine g_top (v2 := aI ((Ps : Int))) (congrArg aI (by exact s191.2.2.2)) ?_
          refine g_iload_n rfl rfl ?_
          refine g_callVI [aI ((Ps : Int)), aI ((p5 : Int))] [aI 3, aO (some aP)] rfl rfl rfl rfl (Nat.le_of_ble_eq_true rfl) ms.1 (r_div (by omega) ms V191 (by have := G_192.2.2.1; omega) (g191.rb (g189.rb (g187.rb (g185.rb (g183.rb (g181.rb (g179.rb (g177.rb (g175.rb (g173.rb (g151.rb (g149.rb (g5.rb (g3.rb (g1.rb xPs))))))))))))))) (g191.rb (g189.rb (g187.rb (g185.rb (g183.rb (g181.rb (g179.rb (g177.rb (g175.rb (g173.rb (g151.rb (g149.rb xp5)))))))))))) (by intro h0; have q4 := g4_0 h0; omega) (by omega) (by omega)) ?_
          rintro _ _ ⟨p193, rfl, V193, rfl, g193, xp193⟩
          have G_194 := G_192.trans (g193.gs _)
          refine g_iast (i := 3) rfl (ms.slot hP) (by omega) (by omega) ?_
          obtain ⟨V195, eV195⟩ : ∃ W, W = vset V193 aP 3 (p193 : Int) := ⟨_, rfl⟩
          refine g_hp (h2 := hw h V195) (by rw [eV195]; rfl) ?_
          have g195 : Gs V193 V195 o 0 (fun q => q = aP) := by rw [eV195]; exact Gs.cell hP
          have s195 : SA V195 aP p173 p181 p189 p193 := by rw [eV195]; exact SA.c3 (g193.sa hP s191) p193
          have G_196 := G_194.trans (g195.wide (fun q hq => by have hq : q = aP := hq; show q = aP; omega))
          refine g_aload_n rfl rfl ?_
          refine g_iload rfl rfl ?_
          refine g_iload rfl rfl ?_
          refine g_if_ge_f rfl (by omega) ?_
          refine g_aload_n rfl rfl ?_
          refine g_aload_n rfl rfl ?_
          refine g_iload rfl rfl ?_
          refine g_iald (i := 3) rfl (ms.slot hP) (by omega) (by omega) ?_
          refine g_top (v2 := aI ((p193 : Int))) (congrArg aI (by exact s195.2.2.2)) ?_
          refine g_callVI [aI ((p193 : Int))] [aI 3, aO (some aP)] rfl rfl rfl rfl (Nat.le_of_ble_eq_true rfl) ms.1 (r_neg (by omega) ms V195 (by have := G_196.2.2.1; omega) (g195.rb xp193) (by omega)) ?_
          rintro _ _ ⟨p197, rfl, V197, rfl, g197, xp197⟩
          have G_198 := G_196.trans (g197.gs _)
          refine g_goto rfl ?_
          refine g_iast (i := 3) rfl (ms.slot hP) (by omega) (by omega) ?_
          obtain ⟨V199, eV199⟩ : ∃ W, W = vset V197 aP 3 (p197 : Int) := ⟨_, rfl⟩
          refine g_hp (h2 := hw h V199) (by rw [eV199]; rfl) ?_
          have g199 : Gs V197 V199 o 0 (fun q => q = aP) := by rw [eV199]; exact Gs.cell hP
          have s199 : SA V199 aP p173 p181 p189 p197 := by rw [eV199]; exact SA.c3 (g197.sa hP s195) p197
          have G_200 := G_198.trans (g199.wide (fun q hq => by have hq : q = aP := hq; show q = aP; omega))
          refine g_iinc (l1 := [(5, aI 4), (4, aI (lcmp P.2.2.1 0)), (3, aI ((p5 : Int))), (0, aO (some o)), (1, aO (some aP)), (2, aI 1)]) rfl rfl (by omega) (by omega) rfl ?_
          refine g_goto rfl ?_
          refine g_iload rfl rfl ?_
          refine g_iconst rfl ?_
          refine g_icmp_ge_t rfl (by omega) ?_
          refine g_vret rfl ?_
          refine ⟨V199, rfl, G_200.mono (by omega), ?_⟩
          have l0 := @lcmp_0 P.1 0
          have m0 := @lcmp_lt P.1 0
          have n0 := @lcmp_gt P.1 0
          have l1 := @lcmp_0 P.2.1 0
          have m1 := @lcmp_lt P.2.1 0
          have n1 := @lcmp_gt P.2.1 0
          have l2 := @lcmp_0 P.2.2.1 0
          have m2 := @lcmp_lt P.2.2.1 0
          have n2 := @lcmp_gt P.2.2.1 0
          unfold m_low
          first
            | (rw [if_pos (by omega)]; unfold set_up)
            | (rw [if_neg (by omega)]; unfold set_dn)
          exact ⟨_, _, _, _, s199, ((g199.rb (g197.rb (g195.rb (g193.rb (g191.rb (g189.rb (g187.rb (g185.rb (g183.rb (g181.rb (g179.rb (g177.rb (g175.rb xp173))))))))))))).up (by omega)), ((g199.rb (g197.rb (g195.rb (g193.rb (g191.rb (g189.rb (g187.rb (g185.rb (g183.rb xp181))))))))).up (by omega)), ((g199.rb (g197.rb (g195.rb (g193.rb (g191.rb xp189))))).up (by omega)), ((g199.rb xp197).up (by omega))⟩
  · skip
    refine g_aload_n rfl rfl ?_
    refine g_aload_n rfl rfl ?_
    refine g_iload rfl rfl ?_
    refine g_iald (i := 0) rfl (ms.slot hP) (by omega) (by omega) ?_
    refine g_top (v2 := aI ((Pp : Int))) (congrArg aI (by exact (g5.sa hP (g3.sa hP (g1.sa hP sP))).1)) ?_
    refine g_callVI [aI ((Pp : Int))] [] rfl rfl rfl rfl (Nat.le_of_ble_eq_true rfl) ms.1 (r_sign (by omega) ms V5 (g5.rb (g3.rb (g1.rb xPp)))) ?_
    rintro r201 _ ⟨rfl, e202⟩
    rw [e202]
    clear e202 r201
    refine g_goto rfl ?_
    refine g_istore (l1 := [(4, aI (lcmp P.1 0)), (5, aI 0), (3, aI ((p5 : Int))), (0, aO (some o)), (1, aO (some aP)), (2, aI 1)]) rfl rfl ?_
    refine g_iinc (l1 := [(5, aI 1), (4, aI (lcmp P.1 0)), (3, aI ((p5 : Int))), (0, aO (some o)), (1, aO (some aP)), (2, aI 1)]) rfl rfl (by omega) (by omega) rfl ?_
    refine g_goto rfl ?_
    refine g_iload rfl rfl ?_
    refine g_iconst rfl ?_
    refine g_icmp_ge_f rfl (by omega) ?_
    refine g_aload_n rfl rfl ?_
    refine g_aload_n rfl rfl ?_
    refine g_iload rfl rfl ?_
    refine g_iald (i := 1) rfl (ms.slot hP) (by omega) (by omega) ?_
    refine g_top (v2 := aI ((Pq : Int))) (congrArg aI (by exact (g5.sa hP (g3.sa hP (g1.sa hP sP))).2.1)) ?_
    refine g_callVI [aI ((Pq : Int))] [] rfl rfl rfl rfl (Nat.le_of_ble_eq_true rfl) ms.1 (r_sign (by omega) ms V5 (g5.rb (g3.rb (g1.rb xPq)))) ?_
    rintro r203 _ ⟨rfl, e204⟩
    rw [e204]
    clear e204 r203
    refine g_if_eq rfl (fun c62 => ?_) (fun c62 => ?_)
    · skip
      refine g_iload rfl rfl ?_
      refine g_istore (l1 := [(4, aI (lcmp P.1 0)), (5, aI 1), (3, aI ((p5 : Int))), (0, aO (some o)), (1, aO (some aP)), (2, aI 1)]) rfl rfl ?_
      refine g_iinc (l1 := [(5, aI 2), (4, aI (lcmp P.1 0)), (3, aI ((p5 : Int))), (0, aO (some o)), (1, aO (some aP)), (2, aI 1)]) rfl rfl (by omega) (by omega) rfl ?_
      refine g_goto rfl ?_
      refine g_iload rfl rfl ?_
      refine g_iconst rfl ?_
      refine g_icmp_ge_f rfl (by omega) ?_
      refine g_aload_n rfl rfl ?_
      refine g_aload_n rfl rfl ?_
      refine g_iload rfl rfl ?_
      refine g_iald (i := 2) rfl (ms.slot hP) (by omega) (by omega) ?_
      refine g_top (v2 := aI ((Pr : Int))) (congrArg aI (by exact (g5.sa hP (g3.sa hP (g1.sa hP sP))).2.2.1)) ?_
      refine g_callVI [aI ((Pr : Int))] [] rfl rfl rfl rfl (Nat.le_of_ble_eq_true rfl) ms.1 (r_sign (by omega) ms V5 (g5.rb (g3.rb (g1.rb xPr)))) ?_
      rintro r205 _ ⟨rfl, e206⟩
      rw [e206]
      clear e206 r205
      refine g_if_eq rfl (fun c62 => ?_) (fun c62 => ?_)
      · skip
        refine g_iload rfl rfl ?_
        refine g_istore (l1 := [(4, aI (lcmp P.1 0)), (5, aI 2), (3, aI ((p5 : Int))), (0, aO (some o)), (1, aO (some aP)), (2, aI 1)]) rfl rfl ?_
        refine g_iinc (l1 := [(5, aI 3), (4, aI (lcmp P.1 0)), (3, aI ((p5 : Int))), (0, aO (some o)), (1, aO (some aP)), (2, aI 1)]) rfl rfl (by omega) (by omega) rfl ?_
        refine g_goto rfl ?_
        refine g_iload rfl rfl ?_
        refine g_iconst rfl ?_
        refine g_icmp_ge_t rfl (by omega) ?_
        refine g_iconst rfl ?_
        refine g_istore (l1 := [(5, aI 0), (4, aI (lcmp P.1 0)), (3, aI ((p5 : Int))), (0, aO (some o)), (1, aO (some aP)), (2, aI 1)]) rfl rfl ?_
        refine g_iload rfl rfl ?_
        refine g_iconst rfl ?_
        refine g_icmp_ge_f rfl (by omega) ?_
        refine g_aload_n rfl rfl ?_
        refine g_iload rfl rfl ?_
        refine g_aload_n rfl rfl ?_
        refine g_aload_n rfl rfl ?_
        refine g_iload rfl rfl ?_
        refine g_iald (i := 0) rfl (ms.slot hP) (by omega) (by omega) ?_
        refine g_top (v2 := aI ((Pp : Int))) (congrArg aI (by exact (g5.sa hP (g3.sa hP (g1.sa hP sP))).1)) ?_
        refine g_iload_n rfl rfl ?_
        refine g_callVI [aI ((Pp : Int)), aI ((p5 : Int))] [aI 0, aO (some aP)] rfl rfl rfl rfl (Nat.le_of_ble_eq_true rfl) ms.1 (r_div (by omega) ms V5 (by have := G_6.2.2.1; omega) (g5.rb (g3.rb (g1.rb xPp))) xp5 (by intro h0; have q4 := g4_0 h0; omega) (by omega) (by omega)) ?_
        rintro _ _ ⟨p207, rfl, V207, rfl, g207, xp207⟩
        have G_208 := G_6.trans (g207.gs _)
        refine g_iast (i := 0) rfl (ms.slot hP) (by omega) (by omega) ?_
        obtain ⟨V209, eV209⟩ : ∃ W, W = vset V207 aP 0 (p207 : Int) := ⟨_, rfl⟩
        refine g_hp (h2 := hw h V209) (by rw [eV209]; rfl) ?_
        have g209 : Gs V207 V209 o 0 (fun q => q = aP) := by rw [eV209]; exact Gs.cell hP
        have s209 : SA V209 aP p207 Pq Pr Ps := by rw [eV209]; exact SA.c0 (g207.sa hP (g5.sa hP (g3.sa hP (g1.sa hP sP)))) p207
        have G_210 := G_208.trans (g209.wide (fun q hq => by have hq : q = aP := hq; show q = aP; omega))
        refine g_aload_n rfl rfl ?_
        refine g_iload rfl rfl ?_
        refine g_iload rfl rfl ?_
        refine g_if_ge rfl (fun c113 => ?_) (fun c113 => ?_)
        · skip
          refine g_aload_n rfl rfl ?_
          refine g_iload rfl rfl ?_
          refine g_iald (i := 0) rfl (ms.slot hP) (by omega) (by omega) ?_
          refine g_top (v2 := aI ((p207 : Int))) (congrArg aI (by exact s209.1)) ?_
          refine g_iast (i := 0) rfl (ms.slot hP) (by omega) (by omega) ?_
          obtain ⟨V211, eV211⟩ : ∃ W, W = vset V209 aP 0 (p207 : Int) := ⟨_, rfl⟩
          refine g_hp (h2 := hw h V211) (by rw [eV211]; rfl) ?_
          have g211 : Gs V209 V211 o 0 (fun q => q = aP) := by rw [eV211]; exact Gs.cell hP
          have s211 : SA V211 aP p207 Pq Pr Ps := by rw [eV211]; exact SA.c0 s209 p207
          have G_212 := G_210.trans (g211.wide (fun q hq => by have hq : q = aP := hq; show q = aP; omega))
          refine g_iinc (l1 := [(5, aI 1), (4, aI (lcmp P.1 0)), (3, aI ((p5 : Int))), (0, aO (some o)), (1, aO (some aP)), (2, aI 1)]) rfl rfl (by omega) (by omega) rfl ?_
          refine g_goto rfl ?_
          refine g_iload rfl rfl ?_
          refine g_iconst rfl ?_
          refine g_icmp_ge_f rfl (by omega) ?_
          refine g_aload_n rfl rfl ?_
          refine g_iload rfl rfl ?_
          refine g_aload_n rfl rfl ?_
          refine g_aload_n rfl rfl ?_
          refine g_iload rfl rfl ?_
          refine g_iald (i := 1) rfl (ms.slot hP) (by omega) (by omega) ?_
          refine g_top (v2 := aI ((Pq : Int))) (congrArg aI (by exact s211.2.1)) ?_
          refine g_iload_n rfl rfl ?_
          refine g_callVI [aI ((Pq : Int)), aI ((p5 : Int))] [aI 1, aO (some aP)] rfl rfl rfl rfl (Nat.le_of_ble_eq_true rfl) ms.1 (r_div (by omega) ms V211 (by have := G_212.2.2.1; omega) (g211.rb (g209.rb (g207.rb (g5.rb (g3.rb (g1.rb xPq)))))) (g211.rb (g209.rb (g207.rb xp5))) (by intro h0; have q4 := g4_0 h0; omega) (by omega) (by omega)) ?_
          rintro _ _ ⟨p213, rfl, V213, rfl, g213, xp213⟩
          have G_214 := G_212.trans (g213.gs _)
          refine g_iast (i := 1) rfl (ms.slot hP) (by omega) (by omega) ?_
          obtain ⟨V215, eV215⟩ : ∃ W, W = vset V213 aP 1 (p213 : Int) := ⟨_, rfl⟩
          refine g_hp (h2 := hw h V215) (by rw [eV215]; rfl) ?_
          have g215 : Gs V213 V215 o 0 (fun q => q = aP) := by rw [eV215]; exact Gs.cell hP
          have s215 : SA V215 aP p207 p213 Pr Ps := by rw [eV215]; exact SA.c1 (g213.sa hP s211) p213
          have G_216 := G_214.trans (g215.wide (fun q hq => by have hq : q = aP := hq; show q = aP; omega))
          refine g_aload_n rfl rfl ?_
          refine g_iload rfl rfl ?_
          refine g_iload rfl rfl ?_
          refine g_if_ge_t rfl (by omega) ?_
          refine g_aload_n rfl rfl ?_
          refine g_iload rfl rfl ?_
          refine g_iald (i := 1) rfl (ms.slot hP) (by omega) (by omega) ?_
          refine g_top (v2 := aI ((p213 : Int))) (congrArg aI (by exact s215.2.1)) ?_
          refine g_iast (i := 1) rfl (ms.slot hP) (by omega) (by omega) ?_
          obtain ⟨V217, eV217⟩ : ∃ W, W = vset V215 aP 1 (p213 : Int) := ⟨_, rfl⟩
          refine g_hp (h2 := hw h V217) (by rw [eV217]; rfl) ?_
          have g217 : Gs V215 V217 o 0 (fun q => q = aP) := by rw [eV217]; exact Gs.cell hP
          have s217 : SA V217 aP p207 p213 Pr Ps := by rw [eV217]; exact SA.c1 s215 p213
          have G_218 := G_216.trans (g217.wide (fun q hq => by have hq : q = aP := hq; show q = aP; omega))
          refine g_iinc (l1 := [(5, aI 2), (4, aI (lcmp P.1 0)), (3, aI ((p5 : Int))), (0, aO (some o)), (1, aO (some aP)), (2, aI 1)]) rfl rfl (by omega) (by omega) rfl ?_
          refine g_goto rfl ?_
          refine g_iload rfl rfl ?_
          refine g_iconst rfl ?_
          refine g_icmp_ge_f rfl (by omega) ?_
          refine g_aload_n rfl rfl ?_
          refine g_iload rfl rfl ?_
          refine g_aload_n rfl rfl ?_
          refine g_aload_n rfl rfl ?_
          refine g_iload rfl rfl ?_
          refine g_iald (i := 2) rfl (ms.slot hP) (by omega) (by omega) ?_
          refine g_top (v2 := aI ((Pr : Int))) (congrArg aI (by exact s217.2.2.1)) ?_
          refine g_iload_n rfl rfl ?_
          refine g_callVI [aI ((Pr : Int)), aI ((p5 : Int))] [aI 2, aO (some aP)] rfl rfl rfl rfl (Nat.le_of_ble_eq_true rfl) ms.1 (r_div (by omega) ms V217 (by have := G_218.2.2.1; omega) (g217.rb (g215.rb (g213.rb (g211.rb (g209.rb (g207.rb (g5.rb (g3.rb (g1.rb xPr))))))))) (g217.rb (g215.rb (g213.rb (g211.rb (g209.rb (g207.rb xp5)))))) (by intro h0; have q4 := g4_0 h0; omega) (by omega) (by omega)) ?_
          rintro _ _ ⟨p219, rfl, V219, rfl, g219, xp219⟩
          have G_220 := G_218.trans (g219.gs _)
          refine g_iast (i := 2) rfl (ms.slot hP) (by omega) (by omega) ?_
          obtain ⟨V221, eV221⟩ : ∃ W, W = vset V219 aP 2 (p219 : Int) := ⟨_, rfl⟩
          refine g_hp (h2 := hw h V221) (by rw [eV221]; rfl) ?_
          have g221 : Gs V219 V221 o 0 (fun q => q = aP) := by rw [eV221]; exact Gs.cell hP
          have s221 : SA V221 aP p207 p213 p219 Ps := by rw [eV221]; exact SA.c2 (g219.sa hP s217) p219
          have G_222 := G_220.trans (g221.wide (fun q hq => by have hq : q = aP := hq; show q = aP; omega))
          refine g_aload_n rfl rfl ?_
          refine g_iload rfl rfl ?_
          refine g_iload rfl rfl ?_
          refine g_if_ge_t rfl (by omega) ?_
          refine g_aload_n rfl rfl ?_
          refine g_iload rfl rfl ?_
          refine g_iald (i := 2) rfl (ms.slot hP) (by omega) (by omega) ?_
          refine g_top (v2 := aI ((p219 : Int))) (congrArg aI (by exact s221.2.2.1)) ?_
          refine g_iast (i := 2) rfl (ms.slot hP) (by omega) (by omega) ?_
          obtain ⟨V223, eV223⟩ : ∃ W, W = vset V221 aP 2 (p219 : Int) := ⟨_, rfl⟩
          refine g_hp (h2 := hw h V223) (by rw [eV223]; rfl) ?_
          have g223 : Gs V221 V223 o 0 (fun q => q = aP) := by rw [eV223]; exact Gs.cell hP
          have s223 : SA V223 aP p207 p213 p219 Ps := by rw [eV223]; exact SA.c2 s221 p219
          have G_224 := G_222.trans (g223.wide (fun q hq => by have hq : q = aP := hq; show q = aP; omega))
          refine g_iinc (l1 := [(5, aI 3), (4, aI (lcmp P.1 0)), (3, aI ((p5 : Int))), (0, aO (some o)), (1, aO (some aP)), (2, aI 1)]) rfl rfl (by omega) (by omega) rfl ?_
          refine g_goto rfl ?_
          refine g_iload rfl rfl ?_
          refine g_iconst rfl ?_
          refine g_icmp_ge_f rfl (by omega) ?_
          refine g_aload_n rfl rfl ?_
          refine g_iload rfl rfl ?_
          refine g_aload_n rfl rfl ?_
          refine g_aload_n rfl rfl ?_
          refine g_iload rfl rfl ?_
          refine g_iald (i := 3) rfl (ms.slot hP) (by omega) (by omega) ?_
          refine g_top (v2 := aI ((Ps : Int))) (congrArg aI (by exact s223.2.2.2)) ?_
          refine g_iload_n rfl rfl ?_
          refine g_callVI [aI ((Ps : Int)), aI ((p5 : Int))] [aI 3, aO (some aP)] rfl rfl rfl rfl (Nat.le_of_ble_eq_true rfl) ms.1 (r_div (by omega) ms V223 (by have := G_224.2.2.1; omega) (g223.rb (g221.rb (g219.rb (g217.rb (g215.rb (g213.rb (g211.rb (g209.rb (g207.rb (g5.rb (g3.rb (g1.rb xPs)))))))))))) (g223.rb (g221.rb (g219.rb (g217.rb (g215.rb (g213.rb (g211.rb (g209.rb (g207.rb xp5))))))))) (by intro h0; have q4 := g4_0 h0; omega) (by omega) (by omega)) ?_
          rintro _ _ ⟨p225, rfl, V225, rfl, g225, xp225⟩
          have G_226 := G_224.trans (g225.gs _)
          refine g_iast (i := 3) rfl (ms.slot hP) (by omega) (by omega) ?_
          obtain ⟨V227, eV227⟩ : ∃ W, W = vset V225 aP 3 (p225 : Int) := ⟨_, rfl⟩
          refine g_hp (h2 := hw h V227) (by rw [eV227]; rfl) ?_
          have g227 : Gs V225 V227 o 0 (fun q => q = aP) := by rw [eV227]; exact Gs.cell hP
          have s227 : SA V227 aP p207 p213 p219 p225 := by rw [eV227]; exact SA.c3 (g225.sa hP s223) p225
          have G_228 := G_226.trans (g227.wide (fun q hq => by have hq : q = aP := hq; show q = aP; omega))
          refine g_aload_n rfl rfl ?_
          refine g_iload rfl rfl ?_
          refine g_iload rfl rfl ?_
          refine g_if_ge_t rfl (by omega) ?_
          refine g_aload_n rfl rfl ?_
          refine g_iload rfl rfl ?_
          refine g_iald (i := 3) rfl (ms.slot hP) (by omega) (by omega) ?_
          refine g_top (v2 := aI ((p225 : Int))) (congrArg aI (by exact s227.2.2.2)) ?_
          refine g_iast (i := 3) rfl (ms.slot hP) (by omega) (by omega) ?_
          obtain ⟨V229, eV229⟩ : ∃ W, W = vset V227 aP 3 (p225 : Int) := ⟨_, rfl⟩
          refine g_hp (h2 := hw h V229) (by rw [eV229]; rfl) ?_
          have g229 : Gs V227 V229 o 0 (fun q => q = aP) := by rw [eV229]; exact Gs.cell hP
          have s229 : SA V229 aP p207 p213 p219 p225 := by rw [eV229]; exact SA.c3 s227 p225
          have G_230 := G_228.trans (g229.wide (fun q hq => by have hq : q = aP := hq; show q = aP; omega))
          refine g_iinc (l1 := [(5, aI 4), (4, aI (lcmp P.1 0)), (3, aI ((p5 : Int))), (0, aO (some o)), (1, aO (some aP)), (2, aI 1)]) rfl rfl (by omega) (by omega) rfl ?_
          refine g_goto rfl ?_
          refine g_iload rfl rfl ?_
          refine g_iconst rfl ?_
          refine g_icmp_ge_t rfl (by omega) ?_
          refine g_vret rfl ?_
          refine ⟨V229, rfl, G_230.mono (by omega), ?_⟩
          have l0 := @lcmp_0 P.1 0
          have m0 := @lcmp_lt P.1 0
          have n0 := @lcmp_gt P.1 0
          have l1 := @lcmp_0 P.2.1 0
          have m1 := @lcmp_lt P.2.1 0
          have n1 := @lcmp_gt P.2.1 0
          have l2 := @lcmp_0 P.2.2.1 0
          have m2 := @lcmp_lt P.2.2.1 0
          have n2 := @lcmp_gt P.2.2.1 0
          unfold m_low
          first
            | (rw [if_pos (by omega)]; unfold set_up)
            | (rw [if_neg (by omega)]; unfold set_dn)
          exact ⟨_, _, _, _, s229, ((g229.rb (g227.rb (g225.rb (g223.rb (g221.rb (g219.rb (g217.rb (g215.rb (g213.rb (g211.rb (g209.rb xp207))))))))))).up (by omega)), ((g229.rb (g227.rb (g225.rb (g223.rb (g221.rb (g219.rb (g217.rb (g215.rb xp213)))))))).up (by omega)), ((g229.rb (g227.rb (g225.rb (g223.rb (g221.rb xp219))))).up (by omega)), ((g229.rb (g227.rb xp225)).up (by omega))⟩
        · skip
          refine g_aload_n rfl rfl ?_
          refine g_aload_n rfl rfl ?_
          refine g_iload rfl rfl ?_
          refine g_iald (i := 0) rfl (ms.slot hP) (by omega) (by omega) ?_
          refine g_top (v2 := aI ((p207 : Int))) (congrArg aI (by exact s209.1)) ?_
          refine g_callVI [aI ((p207 : Int))] [aI 0, aO (some aP)] rfl rfl rfl rfl (Nat.le_of_ble_eq_true rfl) ms.1 (r_neg (by omega) ms V209 (by have := G_210.2.2.1; omega) (g209.rb xp207) (by omega)) ?_
          rintro _ _ ⟨p231, rfl, V231, rfl, g231, xp231⟩
          have G_232 := G_210.trans (g231.gs _)
          refine g_goto rfl ?_
          refine g_iast (i := 0) rfl (ms.slot hP) (by omega) (by omega) ?_
          obtain ⟨V233, eV233⟩ : ∃ W, W = vset V231 aP 0 (p231 : Int) := ⟨_, rfl⟩
          refine g_hp (h2 := hw h V233) (by rw [eV233]; rfl) ?_
          have g233 : Gs V231 V233 o 0 (fun q => q = aP) := by rw [eV233]; exact Gs.cell hP
          have s233 : SA V233 aP p231 Pq Pr Ps := by rw [eV233]; exact SA.c0 (g231.sa hP s209) p231
          have G_234 := G_232.trans (g233.wide (fun q hq => by have hq : q = aP := hq; show q = aP; omega))
          refine g_iinc (l1 := [(5, aI 1), (4, aI (lcmp P.1 0)), (3, aI ((p5 : Int))), (0, aO (some o)), (1, aO (some aP)), (2, aI 1)]) rfl rfl (by omega) (by omega) rfl ?_
          refine g_goto rfl ?_
          refine g_iload rfl rfl ?_
          refine g_iconst rfl ?_
          refine g_icmp_ge_f rfl (by omega) ?_
          refine g_aload_n rfl rfl ?_
          refine g_iload rfl rfl ?_
          refine g_aload_n rfl rfl ?_
          refine g_aload_n rfl rfl ?_
          refine g_iload rfl rfl ?_
          refine g_iald (i := 1) rfl (ms.slot hP) (by omega) (by omega) ?_
          refine g_top (v2 := aI ((Pq : Int))) (congrArg aI (by exact s233.2.1)) ?_
          refine g_iload_n rfl rfl ?_
          refine g_callVI [aI ((Pq : Int)), aI ((p5 : Int))] [aI 1, aO (some aP)] rfl rfl rfl rfl (Nat.le_of_ble_eq_true rfl) ms.1 (r_div (by omega) ms V233 (by have := G_234.2.2.1; omega) (g233.rb (g231.rb (g209.rb (g207.rb (g5.rb (g3.rb (g1.rb xPq))))))) (g233.rb (g231.rb (g209.rb (g207.rb xp5)))) (by intro h0; have q4 := g4_0 h0; omega) (by omega) (by omega)) ?_
          rintro _ _ ⟨p235, rfl, V235, rfl, g235, xp235⟩
          have G_236 := G_234.trans (g235.gs _)
          refine g_iast (i := 1) rfl (ms.slot hP) (by omega) (by omega) ?_
          obtain ⟨V237, eV237⟩ : ∃ W, W = vset V235 aP 1 (p235 : Int) := ⟨_, rfl⟩
          refine g_hp (h2 := hw h V237) (by rw [eV237]; rfl) ?_
          have g237 : Gs V235 V237 o 0 (fun q => q = aP) := by rw [eV237]; exact Gs.cell hP
          have s237 : SA V237 aP p231 p235 Pr Ps := by rw [eV237]; exact SA.c1 (g235.sa hP s233) p235
          have G_238 := G_236.trans (g237.wide (fun q hq => by have hq : q = aP := hq; show q = aP; omega))
          refine g_aload_n rfl rfl ?_
          refine g_iload rfl rfl ?_
          refine g_iload rfl rfl ?_
          refine g_if_ge_f rfl (by omega) ?_
          refine g_aload_n rfl rfl ?_
          refine g_aload_n rfl rfl ?_
          refine g_iload rfl rfl ?_
          refine g_iald (i := 1) rfl (ms.slot hP) (by omega) (by omega) ?_
          refine g_top (v2 := aI ((p235 : Int))) (congrArg aI (by exact s237.2.1)) ?_
          refine g_callVI [aI ((p235 : Int))] [aI 1, aO (some aP)] rfl rfl rfl rfl (Nat.le_of_ble_eq_true rfl) ms.1 (r_neg (by omega) ms V237 (by have := G_238.2.2.1; omega) (g237.rb xp235) (by omega)) ?_
          rintro _ _ ⟨p239, rfl, V239, rfl, g239, xp239⟩
          have G_240 := G_238.trans (g239.gs _)
          refine g_goto rfl ?_
          refine g_iast (i := 1) rfl (ms.slot hP) (by omega) (by omega) ?_
          obtain ⟨V241, eV241⟩ : ∃ W, W = vset V239 aP 1 (p239 : Int) := ⟨_, rfl⟩
          refine g_hp (h2 := hw h V241) (by rw [eV241]; rfl) ?_
          have g241 : Gs V239 V241 o 0 (fun q => q = aP) := by rw [eV241]; exact Gs.cell hP
          have s241 : SA V241 aP p231 p239 Pr Ps := by rw [eV241]; exact SA.c1 (g239.sa hP s237) p239
          have G_242 := G_240.trans (g241.wide (fun q hq => by have hq : q = aP := hq; show q = aP; omega))
          refine g_iinc (l1 := [(5, aI 2), (4, aI (lcmp P.1 0)), (3, aI ((p5 : Int))), (0, aO (some o)), (1, aO (some aP)), (2, aI 1)]) rfl rfl (by omega) (by omega) rfl ?_
          refine g_goto rfl ?_
          refine g_iload rfl rfl ?_
          refine g_iconst rfl ?_
          refine g_icmp_ge_f rfl (by omega) ?_
          refine g_aload_n rfl rfl ?_
          refine g_iload rfl rfl ?_
          refine g_aload_n rfl rfl ?_
          refine g_aload_n rfl rfl ?_
          refine g_iload rfl rfl ?_
          refine g_iald (i := 2) rfl (ms.slot hP) (by omega) (by omega) ?_
          refine g_top (v2 := aI ((Pr : Int))) (congrArg aI (by exact s241.2.2.1)) ?_
          refine g_iload_n rfl rfl ?_
          refine g_callVI [aI ((Pr : Int)), aI ((p5 : Int))] [aI 2, aO (some aP)] rfl rfl rfl rfl (Nat.le_of_ble_eq_true rfl) ms.1 (r_div (by omega) ms V241 (by have := G_242.2.2.1; omega) (g241.rb (g239.rb (g237.rb (g235.rb (g233.rb (g231.rb (g209.rb (g207.rb (g5.rb (g3.rb (g1.rb xPr))))))))))) (g241.rb (g239.rb (g237.rb (g235.rb (g233.rb (g231.rb (g209.rb (g207.rb xp5)))))))) (by intro h0; have q4 := g4_0 h0; omega) (by omega) (by omega)) ?_
          rintro _ _ ⟨p243, rfl, V243, rfl, g243, xp243⟩
          have G_244 := G_242.trans (g243.gs _)
          refine g_iast (i := 2) rfl (ms.slot hP) (by omega) (by omega) ?_
          obtain ⟨V245, eV245⟩ : ∃ W, W = vset V243 aP 2 (p243 : Int) := ⟨_, rfl⟩
          refine g_hp (h2 := hw h V245) (by rw [eV245]; rfl) ?_
          have g245 : Gs V243 V245 o 0 (fun q => q = aP) := by rw [eV245]; exact Gs.cell hP
          have s245 : SA V245 aP p231 p239 p243 Ps := by rw [eV245]; exact SA.c2 (g243.sa hP s241) p243
          have G_246 := G_244.trans (g245.wide (fun q hq => by have hq : q = aP := hq; show q = aP; omega))
          refine g_aload_n rfl rfl ?_
          refine g_iload rfl rfl ?_
          refine g_iload rfl rfl ?_
          refine g_if_ge_f rfl (by omega) ?_
          refine g_aload_n rfl rfl ?_
          refine g_aload_n rfl rfl ?_
          refine g_iload rfl rfl ?_
          refine g_iald (i := 2) rfl (ms.slot hP) (by omega) (by omega) ?_
          refine g_top (v2 := aI ((p243 : Int))) (congrArg aI (by exact s245.2.2.1)) ?_
          refine g_callVI [aI ((p243 : Int))] [aI 2, aO (some aP)] rfl rfl rfl rfl (Nat.le_of_ble_eq_true rfl) ms.1 (r_neg (by omega) ms V245 (by have := G_246.2.2.1; omega) (g245.rb xp243) (by omega)) ?_
          rintro _ _ ⟨p247, rfl, V247, rfl, g247, xp247⟩
          have G_248 := G_246.trans (g247.gs _)
          refine g_goto rfl ?_
          refine g_iast (i := 2) rfl (ms.slot hP) (by omega) (by omega) ?_
          obtain ⟨V249, eV249⟩ : ∃ W, W = vset V247 aP 2 (p247 : Int) := ⟨_, rfl⟩
          refine g_hp (h2 := hw h V249) (by rw [eV249]; rfl) ?_
          have g249 : Gs V247 V249 o 0 (fun q => q = aP) := by rw [eV249]; exact Gs.cell hP
          have s249 : SA V249 aP p231 p239 p247 Ps := by rw [eV249]; exact SA.c2 (g247.sa hP s245) p247
          have G_250 := G_248.trans (g249.wide (fun q hq => by have hq : q = aP := hq; show q = aP; omega))
          refine g_iinc (l1 := [(5, aI 3), (4, aI (lcmp P.1 0)), (3, aI ((p5 : Int))), (0, aO (some o)), (1, aO (some aP)), (2, aI 1)]) rfl rfl (by omega) (by omega) rfl ?_
          refine g_goto rfl ?_
          refine g_iload rfl rfl ?_
          refine g_iconst rfl ?_
          refine g_icmp_ge_f rfl (by omega) ?_
          refine g_aload_n rfl rfl ?_
          refine g_iload rfl rfl ?_
          refine g_aload_n rfl rfl ?_
          refine g_aload_n rfl rfl ?_
          refine g_iload rfl rfl ?_
          refine g_iald (i := 3) rfl (ms.slot hP) (by omega) (by omega) ?_
          refine g_top (v2 := aI ((Ps : Int))) (congrArg aI (by exact s249.2.2.2)) ?_
          refine g_iload_n rfl rfl ?_
          refine g_callVI [aI ((Ps : Int)), aI ((p5 : Int))] [aI 3, aO (some aP)] rfl rfl rfl rfl (Nat.le_of_ble_eq_true rfl) ms.1 (r_div (by omega) ms V249 (by have := G_250.2.2.1; omega) (g249.rb (g247.rb (g245.rb (g243.rb (g241.rb (g239.rb (g237.rb (g235.rb (g233.rb (g231.rb (g209.rb (g207.rb (g5.rb (g3.rb (g1.rb xPs))))))))))))))) (g249.rb (g247.rb (g245.rb (g243.rb (g241.rb (g239.rb (g237.rb (g235.rb (g233.rb (g231.rb (g209.rb (g207.rb xp5)))))))))))) (by intro h0; have q4 := g4_0 h0; omega) (by omega) (by omega)) ?_
          rintro _ _ ⟨p251, rfl, V251, rfl, g251, xp251⟩
          have G_252 := G_250.trans (g251.gs _)
          refine g_iast (i := 3) rfl (ms.slot hP) (by omega) (by omega) ?_
          obtain ⟨V253, eV253⟩ : ∃ W, W = vset V251 aP 3 (p251 : Int) := ⟨_, rfl⟩
          refine g_hp (h2 := hw h V253) (by rw [eV253]; rfl) ?_
          have g253 : Gs V251 V253 o 0 (fun q => q = aP) := by rw [eV253]; exact Gs.cell hP
          have s253 : SA V253 aP p231 p239 p247 p251 := by rw [eV253]; exact SA.c3 (g251.sa hP s249) p251
          have G_254 := G_252.trans (g253.wide (fun q hq => by have hq : q = aP := hq; show q = aP; omega))
          refine g_aload_n rfl rfl ?_
          refine g_iload rfl rfl ?_
          refine g_iload rfl rfl ?_
          refine g_if_ge_f rfl (by omega) ?_
          refine g_aload_n rfl rfl ?_
          refine g_aload_n rfl rfl ?_
          refine g_iload rfl rfl ?_
          refine g_iald (i := 3) rfl (ms.slot hP) (by omega) (by omega) ?_
          refine g_top (v2 := aI ((p251 : Int))) (congrArg aI (by exact s253.2.2.2)) ?_
          refine g_callVI [aI ((p251 : Int))] [aI 3, aO (some aP)] rfl rfl rfl rfl (Nat.le_of_ble_eq_true rfl) ms.1 (r_neg (by omega) ms V253 (by have := G_254.2.2.1; omega) (g253.rb xp251) (by omega)) ?_
          rintro _ _ ⟨p255, rfl, V255, rfl, g255, xp255⟩
          have G_256 := G_254.trans (g255.gs _)
          refine g_goto rfl ?_
          refine g_iast (i := 3) rfl (ms.slot hP) (by omega) (by omega) ?_
          obtain ⟨V257, eV257⟩ : ∃ W, W = vset V255 aP 3 (p255 : Int) := ⟨_, rfl⟩
          refine g_hp (h2 := hw h V257) (by rw [eV257]; rfl) ?_
          have g257 : Gs V255 V257 o 0 (fun q => q = aP) := by rw [eV257]; exact Gs.cell hP
          have s257 : SA V257 aP p231 p239 p247 p255 := by rw [eV257]; exact SA.c3 (g255.sa hP s253) p255
          have G_258 := G_256.trans (g257.wide (fun q hq => by have hq : q = aP := hq; show q = aP; omega))
          refine g_iinc (l1 := [(5, aI 4), (4, aI (lcmp P.1 0)), (3, aI ((p5 : Int))), (0, aO (some o)), (1, aO (some aP)), (2, aI 1)]) rfl rfl (by omega) (by omega) rfl ?_
          refine g_goto rfl ?_
          refine g_iload rfl rfl ?_
          refine g_iconst rfl ?_
          refine g_icmp_ge_t rfl (by omega) ?_
          refine g_vret rfl ?_
          refine ⟨V257, rfl, G_258.mono (by omega), ?_⟩
          have l0 := @lcmp_0 P.1 0
          have m0 := @lcmp_lt P.1 0
          have n0 := @lcmp_gt P.1 0
          have l1 := @lcmp_0 P.2.1 0
          have m1 := @lcmp_lt P.2.1 0
          have n1 := @lcmp_gt P.2.1 0
          have l2 := @lcmp_0 P.2.2.1 0
          have m2 := @lcmp_lt P.2.2.1 0
          have n2 := @lcmp_gt P.2.2.1 0
          unfold m_low
          first
            | (rw [if_pos (by omega)]; unfold set_up)
            | (rw [if_neg (by omega)]; unfold set_dn)
          exact ⟨_, _, _, _, s257, ((g257.rb (g255.rb (g253.rb (g251.rb (g249.rb (g247.rb (g245.rb (g243.rb (g241.rb (g239.rb (g237.rb (g235.rb (g233.rb xp231))))))))))))).up (by omega)), ((g257.rb (g255.rb (g253.rb (g251.rb (g249.rb (g247.rb (g245.rb (g243.rb (g241.rb xp239))))))))).up (by omega)), ((g257.rb (g255.rb (g253.rb (g251.rb (g249.rb xp247))))).up (by omega)), ((g257.rb xp255).up (by omega))⟩
      · skip
        refine g_aload_n rfl rfl ?_
        refine g_aload_n rfl rfl ?_
        refine g_iload rfl rfl ?_
        refine g_iald (i := 2) rfl (ms.slot hP) (by omega) (by omega) ?_
        refine g_top (v2 := aI ((Pr : Int))) (congrArg aI (by exact (g5.sa hP (g3.sa hP (g1.sa hP sP))).2.2.1)) ?_
        refine g_callVI [aI ((Pr : Int))] [] rfl rfl rfl rfl (Nat.le_of_ble_eq_true rfl) ms.1 (r_sign (by omega) ms V5 (g5.rb (g3.rb (g1.rb xPr)))) ?_
        rintro r259 _ ⟨rfl, e260⟩
        rw [e260]
        clear e260 r259
        refine g_goto rfl ?_
        refine g_istore (l1 := [(4, aI (lcmp P.2.2.1 0)), (5, aI 2), (3, aI ((p5 : Int))), (0, aO (some o)), (1, aO (some aP)), (2, aI 1)]) rfl rfl ?_
        refine g_iinc (l1 := [(5, aI 3), (4, aI (lcmp P.2.2.1 0)), (3, aI ((p5 : Int))), (0, aO (some o)), (1, aO (some aP)), (2, aI 1)]) rfl rfl (by omega) (by omega) rfl ?_
        refine g_goto rfl ?_
        refine g_iload rfl rfl ?_
        refine g_iconst rfl ?_
        refine g_icmp_ge_t rfl (by omega) ?_
        refine g_iconst rfl ?_
        refine g_istore (l1 := [(5, aI 0), (4, aI (lcmp P.2.2.1 0)), (3, aI ((p5 : Int))), (0, aO (some o)), (1, aO (some aP)), (2, aI 1)]) rfl rfl ?_
        refine g_iload rfl rfl ?_
        refine g_iconst rfl ?_
        refine g_icmp_ge_f rfl (by omega) ?_
        refine g_aload_n rfl rfl ?_
        refine g_iload rfl rfl ?_
        refine g_aload_n rfl rfl ?_
        refine g_aload_n rfl rfl ?_
        refine g_iload rfl rfl ?_
        refine g_iald (i := 0) rfl (ms.slot hP) (by omega) (by omega) ?_
        refine g_top (v2 := aI ((Pp : Int))) (congrArg aI (by exact (g5.sa hP (g3.sa hP (g1.sa hP sP))).1)) ?_
        refine g_iload_n rfl rfl ?_
        refine g_callVI [aI ((Pp : Int)), aI ((p5 : Int))] [aI 0, aO (some aP)] rfl rfl rfl rfl (Nat.le_of_ble_eq_true rfl) ms.1 (r_div (by omega) ms V5 (by have := G_6.2.2.1; omega) (g5.rb (g3.rb (g1.rb xPp))) xp5 (by intro h0; have q4 := g4_0 h0; omega) (by omega) (by omega)) ?_
        rintro _ _ ⟨p261, rfl, V261, rfl, g261, xp261⟩
        have G_262 := G_6.trans (g261.gs _)
        refine g_iast (i := 0) rfl (ms.slot hP) (by omega) (by omega) ?_
        obtain ⟨V263, eV263⟩ : ∃ W, W = vset V261 aP 0 (p261 : Int) := ⟨_, rfl⟩
        refine g_hp (h2 := hw h V263) (by rw [eV263]; rfl) ?_
        have g263 : Gs V261 V263 o 0 (fun q => q = aP) := by rw [eV263]; exact Gs.cell hP
        have s263 : SA V263 aP p261 Pq Pr Ps := by rw [eV263]; exact SA.c0 (g261.sa hP (g5.sa hP (g3.sa hP (g1.sa hP sP)))) p261
        have G_264 := G_262.trans (g263.wide (fun q hq => by have hq : q = aP := hq; show q = aP; omega))
        refine g_aload_n rfl rfl ?_
        refine g_iload rfl rfl ?_
        refine g_iload rfl rfl ?_
        refine g_if_ge rfl (fun c113 => ?_) (fun c113 => ?_)
        · skip
          refine g_aload_n rfl rfl ?_
          refine g_iload rfl rfl ?_
          refine g_iald (i := 0) rfl (ms.slot hP) (by omega) (by omega) ?_
          refine g_top (v2 := aI ((p261 : Int))) (congrArg aI (by exact s263.1)) ?_
          refine g_iast (i := 0) rfl (ms.slot hP) (by omega) (by omega) ?_
          obtain ⟨V265, eV265⟩ : ∃ W, W = vset V263 aP 0 (p261 : Int) := ⟨_, rfl⟩
          refine g_hp (h2 := hw h V265) (by rw [eV265]; rfl) ?_
          have g265 : Gs V263 V265 o 0 (fun q => q = aP) := by rw [eV265]; exact Gs.cell hP
          have s265 : SA V265 aP p261 Pq Pr Ps := by rw [eV265]; exact SA.c0 s263 p261
          have G_266 := G_264.trans (g265.wide (fun q hq => by have hq : q = aP := hq; show q = aP; omega))
          refine g_iinc (l1 := [(5, aI 1), (4, aI (lcmp P.2.2.1 0)), (3, aI ((p5 : Int))), (0, aO (some o)), (1, aO (some aP)), (2, aI 1)]) rfl rfl (by omega) (by omega) rfl ?_
          refine g_goto rfl ?_
          refine g_iload rfl rfl ?_
          refine g_iconst rfl ?_
          refine g_icmp_ge_f rfl (by omega) ?_
          refine g_aload_n rfl rfl ?_
          refine g_iload rfl rfl ?_
          refine g_aload_n rfl rfl ?_
          refine g_aload_n rfl rfl ?_
          refine g_iload rfl rfl ?_
          refine g_iald (i := 1) rfl (ms.slot hP) (by omega) (by omega) ?_
          refine g_top (v2 := aI ((Pq : Int))) (congrArg aI (by exact s265.2.1)) ?_
          refine g_iload_n rfl rfl ?_
          refine g_callVI [aI ((Pq : Int)), aI ((p5 : Int))] [aI 1, aO (some aP)] rfl rfl rfl rfl (Nat.le_of_ble_eq_true rfl) ms.1 (r_div (by omega) ms V265 (by have := G_266.2.2.1; omega) (g265.rb (g263.rb (g261.rb (g5.rb (g3.rb (g1.rb xPq)))))) (g265.rb (g263.rb (g261.rb xp5))) (by intro h0; have q4 := g4_0 h0; omega) (by omega) (by omega)) ?_
          rintro _ _ ⟨p267, rfl, V267, rfl, g267, xp267⟩
          have G_268 := G_266.trans (g267.gs _)
          refine g_iast (i := 1) rfl (ms.slot hP) (by omega) (by omega) ?_
          obtain ⟨V269, eV269⟩ : ∃ W, W = vset V267 aP 1 (p267 : Int) := ⟨_, rfl⟩
          refine g_hp (h2 := hw h V269) (by rw [eV269]; rfl) ?_
          have g269 : Gs V267 V269 o 0 (fun q => q = aP) := by rw [eV269]; exact Gs.cell hP
          have s269 : SA V269 aP p261 p267 Pr Ps := by rw [eV269]; exact SA.c1 (g267.sa hP s265) p267
          have G_270 := G_268.trans (g269.wide (fun q hq => by have hq : q = aP := hq; show q = aP; omega))
          refine g_aload_n rfl rfl ?_
          refine g_iload rfl rfl ?_
          refine g_iload rfl rfl ?_
          refine g_if_ge_t rfl (by omega) ?_
          refine g_aload_n rfl rfl ?_
          refine g_iload rfl rfl ?_
          refine g_iald (i := 1) rfl (ms.slot hP) (by omega) (by omega) ?_
          refine g_top (v2 := aI ((p267 : Int))) (congrArg aI (by exact s269.2.1)) ?_
          refine g_iast (i := 1) rfl (ms.slot hP) (by omega) (by omega) ?_
          obtain ⟨V271, eV271⟩ : ∃ W, W = vset V269 aP 1 (p267 : Int) := ⟨_, rfl⟩
          refine g_hp (h2 := hw h V271) (by rw [eV271]; rfl) ?_
          have g271 : Gs V269 V271 o 0 (fun q => q = aP) := by rw [eV271]; exact Gs.cell hP
          have s271 : SA V271 aP p261 p267 Pr Ps := by rw [eV271]; exact SA.c1 s269 p267
          have G_272 := G_270.trans (g271.wide (fun q hq => by have hq : q = aP := hq; show q = aP; omega))
          refine g_iinc (l1 := [(5, aI 2), (4, aI (lcmp P.2.2.1 0)), (3, aI ((p5 : Int))), (0, aO (some o)), (1, aO (some aP)), (2, aI 1)]) rfl rfl (by omega) (by omega) rfl ?_
          refine g_goto rfl ?_
          refine g_iload rfl rfl ?_
          refine g_iconst rfl ?_
          refine g_icmp_ge_f rfl (by omega) ?_
          refine g_aload_n rfl rfl ?_
          refine g_iload rfl rfl ?_
          refine g_aload_n rfl rfl ?_
          refine g_aload_n rfl rfl ?_
          refine g_iload rfl rfl ?_
          refine g_iald (i := 2) rfl (ms.slot hP) (by omega) (by omega) ?_
          refine g_top (v2 := aI ((Pr : Int))) (congrArg aI (by exact s271.2.2.1)) ?_
          refine g_iload_n rfl rfl ?_
          refine g_callVI [aI ((Pr : Int)), aI ((p5 : Int))] [aI 2, aO (some aP)] rfl rfl rfl rfl (Nat.le_of_ble_eq_true rfl) ms.1 (r_div (by omega) ms V271 (by have := G_272.2.2.1; omega) (g271.rb (g269.rb (g267.rb (g265.rb (g263.rb (g261.rb (g5.rb (g3.rb (g1.rb xPr))))))))) (g271.rb (g269.rb (g267.rb (g265.rb (g263.rb (g261.rb xp5)))))) (by intro h0; have q4 := g4_0 h0; omega) (by omega) (by omega)) ?_
          rintro _ _ ⟨p273, rfl, V273, rfl, g273, xp273⟩
          have G_274 := G_272.trans (g273.gs _)
          refine g_iast (i := 2) rfl (ms.slot hP) (by omega) (by omega) ?_
          obtain ⟨V275, eV275⟩ : ∃ W, W = vset V273 aP 2 (p273 : Int) := ⟨_, rfl⟩
          refine g_hp (h2 := hw h V275) (by rw [eV275]; rfl) ?_
          have g275 : Gs V273 V275 o 0 (fun q => q = aP) := by rw [eV275]; exact Gs.cell hP
          have s275 : SA V275 aP p261 p267 p273 Ps := by rw [eV275]; exact SA.c2 (g273.sa hP s271) p273
          have G_276 := G_274.trans (g275.wide (fun q hq => by have hq : q = aP := hq; show q = aP; omega))
          refine g_aload_n rfl rfl ?_
          refine g_iload rfl rfl ?_
          refine g_iload rfl rfl ?_
          refine g_if_ge_t rfl (by omega) ?_
          refine g_aload_n rfl rfl ?_
          refine g_iload rfl rfl ?_
          refine g_iald (i := 2) rfl (ms.slot hP) (by omega) (by omega) ?_
          refine g_top (v2 := aI ((p273 : Int))) (congrArg aI (by exact s275.2.2.1)) ?_
          refine g_iast (i := 2) rfl (ms.slot hP) (by omega) (by omega) ?_
          obtain ⟨V277, eV277⟩ : ∃ W, W = vset V275 aP 2 (p273 : Int) := ⟨_, rfl⟩
          refine g_hp (h2 := hw h V277) (by rw [eV277]; rfl) ?_
          have g277 : Gs V275 V277 o 0 (fun q => q = aP) := by rw [eV277]; exact Gs.cell hP
          have s277 : SA V277 aP p261 p267 p273 Ps := by rw [eV277]; exact SA.c2 s275 p273
          have G_278 := G_276.trans (g277.wide (fun q hq => by have hq : q = aP := hq; show q = aP; omega))
          refine g_iinc (l1 := [(5, aI 3), (4, aI (lcmp P.2.2.1 0)), (3, aI ((p5 : Int))), (0, aO (some o)), (1, aO (some aP)), (2, aI 1)]) rfl rfl (by omega) (by omega) rfl ?_
          refine g_goto rfl ?_
          refine g_iload rfl rfl ?_
          refine g_iconst rfl ?_
          refine g_icmp_ge_f rfl (by omega) ?_
          refine g_aload_n rfl rfl ?_
          refine g_iload rfl rfl ?_
          refine g_aload_n rfl rfl ?_
          refine g_aload_n rfl rfl ?_
          refine g_iload rfl rfl ?_
          refine g_iald (i := 3) rfl (ms.slot hP) (by omega) (by omega) ?_
          refine g_top (v2 := aI ((Ps : Int))) (congrArg aI (by exact s277.2.2.2)) ?_
          refine g_iload_n rfl rfl ?_
          refine g_callVI [aI ((Ps : Int)), aI ((p5 : Int))] [aI 3, aO (some aP)] rfl rfl rfl rfl (Nat.le_of_ble_eq_true rfl) ms.1 (r_div (by omega) ms V277 (by have := G_278.2.2.1; omega) (g277.rb (g275.rb (g273.rb (g271.rb (g269.rb (g267.rb (g265.rb (g263.rb (g261.rb (g5.rb (g3.rb (g1.rb xPs)))))))))))) (g277.rb (g275.rb (g273.rb (g271.rb (g269.rb (g267.rb (g265.rb (g263.rb (g261.rb xp5))))))))) (by intro h0; have q4 := g4_0 h0; omega) (by omega) (by omega)) ?_
          rintro _ _ ⟨p279, rfl, V279, rfl, g279, xp279⟩
          have G_280 := G_278.trans (g279.gs _)
          refine g_iast (i := 3) rfl (ms.slot hP) (by omega) (by omega) ?_
          obtain ⟨V281, eV281⟩ : ∃ W, W = vset V279 aP 3 (p279 : Int) := ⟨_, rfl⟩
          refine g_hp (h2 := hw h V281) (by rw [eV281]; rfl) ?_
          have g281 : Gs V279 V281 o 0 (fun q => q = aP) := by rw [eV281]; exact Gs.cell hP
          have s281 : SA V281 aP p261 p267 p273 p279 := by rw [eV281]; exact SA.c3 (g279.sa hP s277) p279
          have G_282 := G_280.trans (g281.wide (fun q hq => by have hq : q = aP := hq; show q = aP; omega))
          refine g_aload_n rfl rfl ?_
          refine g_iload rfl rfl ?_
          refine g_iload rfl rfl ?_
          refine g_if_ge_t rfl (by omega) ?_
          refine g_aload_n rfl rfl ?_
          refine g_iload rfl rfl ?_
          refine g_iald (i := 3) rfl (ms.slot hP) (by omega) (by omega) ?_
          refine g_top (v2 := aI ((p279 : Int))) (congrArg aI (by exact s281.2.2.2)) ?_
          refine g_iast (i := 3) rfl (ms.slot hP) (by omega) (by omega) ?_
          obtain ⟨V283, eV283⟩ : ∃ W, W = vset V281 aP 3 (p279 : Int) := ⟨_, rfl⟩
          refine g_hp (h2 := hw h V283) (by rw [eV283]; rfl) ?_
          have g283 : Gs V281 V283 o 0 (fun q => q = aP) := by rw [eV283]; exact Gs.cell hP
          have s283 : SA V283 aP p261 p267 p273 p279 := by rw [eV283]; exact SA.c3 s281 p279
          have G_284 := G_282.trans (g283.wide (fun q hq => by have hq : q = aP := hq; show q = aP; omega))
          refine g_iinc (l1 := [(5, aI 4), (4, aI (lcmp P.2.2.1 0)), (3, aI ((p5 : Int))), (0, aO (some o)), (1, aO (some aP)), (2, aI 1)]) rfl rfl (by omega) (by omega) rfl ?_
          refine g_goto rfl ?_
          refine g_iload rfl rfl ?_
          refine g_iconst rfl ?_
          refine g_icmp_ge_t rfl (by omega) ?_
          refine g_vret rfl ?_
          refine ⟨V283, rfl, G_284.mono (by omega), ?_⟩
          have l0 := @lcmp_0 P.1 0
          have m0 := @lcmp_lt P.1 0
          have n0 := @lcmp_gt P.1 0
          have l1 := @lcmp_0 P.2.1 0
          have m1 := @lcmp_lt P.2.1 0
          have n1 := @lcmp_gt P.2.1 0
          have l2 := @lcmp_0 P.2.2.1 0
          have m2 := @lcmp_lt P.2.2.1 0
          have n2 := @lcmp_gt P.2.2.1 0
          unfold m_low
          first
            | (rw [if_pos (by omega)]; unfold set_up)
            | (rw [if_neg (by omega)]; unfold set_dn)
          exact ⟨_, _, _, _, s283, ((g283.rb (g281.rb (g279.rb (g277.rb (g275.rb (g273.rb (g271.rb (g269.rb (g267.rb (g265.rb (g263.rb xp261))))))))))).up (by omega)), ((g283.rb (g281.rb (g279.rb (g277.rb (g275.rb (g273.rb (g271.rb (g269.rb xp267)))))))).up (by omega)), ((g283.rb (g281.rb (g279.rb (g277.rb (g275.rb xp273))))).up (by omega)), ((g283.rb (g281.rb xp279)).up (by omega))⟩
        · skip
          refine g_aload_n rfl rfl ?_
          refine g_aload_n rfl rfl ?_
          refine g_iload rfl rfl ?_
          refine g_iald (i := 0) rfl (ms.slot hP) (by omega) (by omega) ?_
          refine g_top (v2 := aI ((p261 : Int))) (congrArg aI (by exact s263.1)) ?_
          refine g_callVI [aI ((p261 : Int))] [aI 0, aO (some aP)] rfl rfl rfl rfl (Nat.le_of_ble_eq_true rfl) ms.1 (r_neg (by omega) ms V263 (by have := G_264.2.2.1; omega) (g263.rb xp261) (by omega)) ?_
          rintro _ _ ⟨p285, rfl, V285, rfl, g285, xp285⟩
          have G_286 := G_264.trans (g285.gs _)
          refine g_goto rfl ?_
          refine g_iast (i := 0) rfl (ms.slot hP) (by omega) (by omega) ?_
          obtain ⟨V287, eV287⟩ : ∃ W, W = vset V285 aP 0 (p285 : Int) := ⟨_, rfl⟩
          refine g_hp (h2 := hw h V287) (by rw [eV287]; rfl) ?_
          have g287 : Gs V285 V287 o 0 (fun q => q = aP) := by rw [eV287]; exact Gs.cell hP
          have s287 : SA V287 aP p285 Pq Pr Ps := by rw [eV287]; exact SA.c0 (g285.sa hP s263) p285
          have G_288 := G_286.trans (g287.wide (fun q hq => by have hq : q = aP := hq; show q = aP; omega))
          refine g_iinc (l1 := [(5, aI 1), (4, aI (lcmp P.2.2.1 0)), (3, aI ((p5 : Int))), (0, aO (some o)), (1, aO (some aP)), (2, aI 1)]) rfl rfl (by omega) (by omega) rfl ?_
          refine g_goto rfl ?_
          refine g_iload rfl rfl ?_
          refine g_iconst rfl ?_
          refine g_icmp_ge_f rfl (by omega) ?_
          refine g_aload_n rfl rfl ?_
          refine g_iload rfl rfl ?_
          refine g_aload_n rfl rfl ?_
          refine g_aload_n rfl rfl ?_
          refine g_iload rfl rfl ?_
          refine g_iald (i := 1) rfl (ms.slot hP) (by omega) (by omega) ?_
          refine g_top (v2 := aI ((Pq : Int))) (congrArg aI (by exact s287.2.1)) ?_
          refine g_iload_n rfl rfl ?_
          refine g_callVI [aI ((Pq : Int)), aI ((p5 : Int))] [aI 1, aO (some aP)] rfl rfl rfl rfl (Nat.le_of_ble_eq_true rfl) ms.1 (r_div (by omega) ms V287 (by have := G_288.2.2.1; omega) (g287.rb (g285.rb (g263.rb (g261.rb (g5.rb (g3.rb (g1.rb xPq))))))) (g287.rb (g285.rb (g263.rb (g261.rb xp5)))) (by intro h0; have q4 := g4_0 h0; omega) (by omega) (by omega)) ?_
          rintro _ _ ⟨p289, rfl, V289, rfl, g289, xp289⟩
          have G_290 := G_288.trans (g289.gs _)
          refine g_iast (i := 1) rfl (ms.slot hP) (by omega) (by omega) ?_
          obtain ⟨V291, eV291⟩ : ∃ W, W = vset V289 aP 1 (p289 : Int) := ⟨_, rfl⟩
          refine g_hp (h2 := hw h V291) (by rw [eV291]; rfl) ?_
          have g291 : Gs V289 V291 o 0 (fun q => q = aP) := by rw [eV291]; exact Gs.cell hP
          have s291 : SA V291 aP p285 p289 Pr Ps := by rw [eV291]; exact SA.c1 (g289.sa hP s287) p289
          have G_292 := G_290.trans (g291.wide (fun q hq => by have hq : q = aP := hq; show q = aP; omega))
          refine g_aload_n rfl rfl ?_
          refine g_iload rfl rfl ?_
          refine g_iload rfl rfl ?_
          refine g_if_ge_f rfl (by omega) ?_
          refine g_aload_n rfl rfl ?_
          refine g_aload_n rfl rfl ?_
          refine g_iload rfl rfl ?_
          refine g_iald (i := 1) rfl (ms.slot hP) (by omega) (by omega) ?_
          refine g_top (v2 := aI ((p289 : Int))) (congrArg aI (by exact s291.2.1)) ?_
          refine g_callVI [aI ((p289 : Int))] [aI 1, aO (some aP)] rfl rfl rfl rfl (Nat.le_of_ble_eq_true rfl) ms.1 (r_neg (by omega) ms V291 (by have := G_292.2.2.1; omega) (g291.rb xp289) (by omega)) ?_
          rintro _ _ ⟨p293, rfl, V293, rfl, g293, xp293⟩
          have G_294 := G_292.trans (g293.gs _)
          refine g_goto rfl ?_
          refine g_iast (i := 1) rfl (ms.slot hP) (by omega) (by omega) ?_
          obtain ⟨V295, eV295⟩ : ∃ W, W = vset V293 aP 1 (p293 : Int) := ⟨_, rfl⟩
          refine g_hp (h2 := hw h V295) (by rw [eV295]; rfl) ?_
          have g295 : Gs V293 V295 o 0 (fun q => q = aP) := by rw [eV295]; exact Gs.cell hP
          have s295 : SA V295 aP p285 p293 Pr Ps := by rw [eV295]; exact SA.c1 (g293.sa hP s291) p293
          have G_296 := G_294.trans (g295.wide (fun q hq => by have hq : q = aP := hq; show q = aP; omega))
          refine g_iinc (l1 := [(5, aI 2), (4, aI (lcmp P.2.2.1 0)), (3, aI ((p5 : Int))), (0, aO (some o)), (1, aO (some aP)), (2, aI 1)]) rfl rfl (by omega) (by omega) rfl ?_
          refine g_goto rfl ?_
          refine g_iload rfl rfl ?_
          refine g_iconst rfl ?_
          refine g_icmp_ge_f rfl (by omega) ?_
          refine g_aload_n rfl rfl ?_
          refine g_iload rfl rfl ?_
          refine g_aload_n rfl rfl ?_
          refine g_aload_n rfl rfl ?_
          refine g_iload rfl rfl ?_
          refine g_iald (i := 2) rfl (ms.slot hP) (by omega) (by omega) ?_
          refine g_top (v2 := aI ((Pr : Int))) (congrArg aI (by exact s295.2.2.1)) ?_
          refine g_iload_n rfl rfl ?_
          refine g_callVI [aI ((Pr : Int)), aI ((p5 : Int))] [aI 2, aO (some aP)] rfl rfl rfl rfl (Nat.le_of_ble_eq_true rfl) ms.1 (r_div (by omega) ms V295 (by have := G_296.2.2.1; omega) (g295.rb (g293.rb (g291.rb (g289.rb (g287.rb (g285.rb (g263.rb (g261.rb (g5.rb (g3.rb (g1.rb xPr))))))))))) (g295.rb (g293.rb (g291.rb (g289.rb (g287.rb (g285.rb (g263.rb (g261.rb xp5)))))))) (by intro h0; have q4 := g4_0 h0; omega) (by omega) (by omega)) ?_
          rintro _ _ ⟨p297, rfl, V297, rfl, g297, xp297⟩
          have G_298 := G_296.trans (g297.gs _)
          refine g_iast (i := 2) rfl (ms.slot hP) (by omega) (by omega) ?_
          obtain ⟨V299, eV299⟩ : ∃ W, W = vset V297 aP 2 (p297 : Int) := ⟨_, rfl⟩
          refine g_hp (h2 := hw h V299) (by rw [eV299]; rfl) ?_
          have g299 : Gs V297 V299 o 0 (fun q => q = aP) := by rw [eV299]; exact Gs.cell hP
          have s299 : SA V299 aP p285 p293 p297 Ps := by rw [eV299]; exact SA.c2 (g297.sa hP s295) p297
          have G_300 := G_298.trans (g299.wide (fun q hq => by have hq : q = aP := hq; show q = aP; omega))
          refine g_aload_n rfl rfl ?_
          refine g_iload rfl rfl ?_
          refine g_iload rfl rfl ?_
          refine g_if_ge_f rfl (by omega) ?_
          refine g_aload_n rfl rfl ?_
          refine g_aload_n rfl rfl ?_
          refine g_iload rfl rfl ?_
          refine g_iald (i := 2) rfl (ms.slot hP) (by omega) (by omega) ?_
          refine g_top (v2 := aI ((p297 : Int))) (congrArg aI (by exact s299.2.2.1)) ?_
          refine g_callVI [aI ((p297 : Int))] [aI 2, aO (some aP)] rfl rfl rfl rfl (Nat.le_of_ble_eq_true rfl) ms.1 (r_neg (by omega) ms V299 (by have := G_300.2.2.1; omega) (g299.rb xp297) (by omega)) ?_
          rintro _ _ ⟨p301, rfl, V301, rfl, g301, xp301⟩
          have G_302 := G_300.trans (g301.gs _)
          refine g_goto rfl ?_
          refine g_iast (i := 2) rfl (ms.slot hP) (by omega) (by omega) ?_
          obtain ⟨V303, eV303⟩ : ∃ W, W = vset V301 aP 2 (p301 : Int) := ⟨_, rfl⟩
          refine g_hp (h2 := hw h V303) (by rw [eV303]; rfl) ?_
          have g303 : Gs V301 V303 o 0 (fun q => q = aP) := by rw [eV303]; exact Gs.cell hP
          have s303 : SA V303 aP p285 p293 p301 Ps := by rw [eV303]; exact SA.c2 (g301.sa hP s299) p301
          have G_304 := G_302.trans (g303.wide (fun q hq => by have hq : q = aP := hq; show q = aP; omega))
          refine g_iinc (l1 := [(5, aI 3), (4, aI (lcmp P.2.2.1 0)), (3, aI ((p5 : Int))), (0, aO (some o)), (1, aO (some aP)), (2, aI 1)]) rfl rfl (by omega) (by omega) rfl ?_
          refine g_goto rfl ?_
          refine g_iload rfl rfl ?_
          refine g_iconst rfl ?_
          refine g_icmp_ge_f rfl (by omega) ?_
          refine g_aload_n rfl rfl ?_
          refine g_iload rfl rfl ?_
          refine g_aload_n rfl rfl ?_
          refine g_aload_n rfl rfl ?_
          refine g_iload rfl rfl ?_
          refine g_iald (i := 3) rfl (ms.slot hP) (by omega) (by omega) ?_
          refine g_top (v2 := aI ((Ps : Int))) (congrArg aI (by exact s303.2.2.2)) ?_
          refine g_iload_n rfl rfl ?_
          refine g_callVI [aI ((Ps : Int)), aI ((p5 : Int))] [aI 3, aO (some aP)] rfl rfl rfl rfl (Nat.le_of_ble_eq_true rfl) ms.1 (r_div (by omega) ms V303 (by have := G_304.2.2.1; omega) (g303.rb (g301.rb (g299.rb (g297.rb (g295.rb (g293.rb (g291.rb (g289.rb (g287.rb (g285.rb (g263.rb (g261.rb (g5.rb (g3.rb (g1.rb xPs))))))))))))))) (g303.rb (g301.rb (g299.rb (g297.rb (g295.rb (g293.rb (g291.rb (g289.rb (g287.rb (g285.rb (g263.rb (g261.rb xp5)))))))))))) (by intro h0; have q4 := g4_0 h0; omega) (by omega) (by omega)) ?_
          rintro _ _ ⟨p305, rfl, V305, rfl, g305, xp305⟩
          have G_306 := G_304.trans (g305.gs _)
          refine g_iast (i := 3) rfl (ms.slot hP) (by omega) (by omega) ?_
          obtain ⟨V307, eV307⟩ : ∃ W, W = vset V305 aP 3 (p305 : Int) := ⟨_, rfl⟩
          refine g_hp (h2 := hw h V307) (by rw [eV307]; rfl) ?_
          have g307 : Gs V305 V307 o 0 (fun q => q = aP) := by rw [eV307]; exact Gs.cell hP
          have s307 : SA V307 aP p285 p293 p301 p305 := by rw [eV307]; exact SA.c3 (g305.sa hP s303) p305
          have G_308 := G_306.trans (g307.wide (fun q hq => by have hq : q = aP := hq; show q = aP; omega))
          refine g_aload_n rfl rfl ?_
          refine g_iload rfl rfl ?_
          refine g_iload rfl rfl ?_
          refine g_if_ge_f rfl (by omega) ?_
          refine g_aload_n rfl rfl ?_
          refine g_aload_n rfl rfl ?_
          refine g_iload rfl rfl ?_
          refine g_iald (i := 3) rfl (ms.slot hP) (by omega) (by omega) ?_
          refine g_top (v2 := aI ((p305 : Int))) (congrArg aI (by exact s307.2.2.2)) ?_
          refine g_callVI [aI ((p305 : Int))] [aI 3, aO (some aP)] rfl rfl rfl rfl (Nat.le_of_ble_eq_true rfl) ms.1 (r_neg (by omega) ms V307 (by have := G_308.2.2.1; omega) (g307.rb xp305) (by omega)) ?_
          rintro _ _ ⟨p309, rfl, V309, rfl, g309, xp309⟩
          have G_310 := G_308.trans (g309.gs _)
          refine g_goto rfl ?_
          refine g_iast (i := 3) rfl (ms.slot hP) (by omega) (by omega) ?_
          obtain ⟨V311, eV311⟩ : ∃ W, W = vset V309 aP 3 (p309 : Int) := ⟨_, rfl⟩
          refine g_hp (h2 := hw h V311) (by rw [eV311]; rfl) ?_
          have g311 : Gs V309 V311 o 0 (fun q => q = aP) := by rw [eV311]; exact Gs.cell hP
          have s311 : SA V311 aP p285 p293 p301 p309 := by rw [eV311]; exact SA.c3 (g309.sa hP s307) p309
          have G_312 := G_310.trans (g311.wide (fun q hq => by have hq : q = aP := hq; show q = aP; omega))
          refine g_iinc (l1 := [(5, aI 4), (4, aI (lcmp P.2.2.1 0)), (3, aI ((p5 : Int))), (0, aO (some o)), (1, aO (some aP)), (2, aI 1)]) rfl rfl (by omega) (by omega) rfl ?_
          refine g_goto rfl ?_
          refine g_iload rfl rfl ?_
          refine g_iconst rfl ?_
          refine g_icmp_ge_t rfl (by omega) ?_
          refine g_vret rfl ?_
          refine ⟨V311, rfl, G_312.mono (by omega), ?_⟩
          have l0 := @lcmp_0 P.1 0
          have m0 := @lcmp_lt P.1 0
          have n0 := @lcmp_gt P.1 0
          have l1 := @lcmp_0 P.2.1 0
          have m1 := @lcmp_lt P.2.1 0
          have n1 := @lcmp_gt P.2.1 0
          have l2 := @lcmp_0 P.2.2.1 0
          have m2 := @lcmp_lt P.2.2.1 0
          have n2 := @lcmp_gt P.2.2.1 0
          unfold m_low
          first
            | (rw [if_pos (by omega)]; unfold set_up)
            | (rw [if_neg (by omega)]; unfold set_dn)
          exact ⟨_, _, _, _, s311, ((g311.rb (g309.rb (g307.rb (g305.rb (g303.rb (g301.rb (g299.rb (g297.rb (g295.rb (g293.rb (g291.rb (g289.rb (g287.rb xp285))))))))))))).up (by omega)), ((g311.rb (g309.rb (g307.rb (g305.rb (g303.rb (g301.rb (g299.rb (g297.rb (g295.rb xp293))))))))).up (by omega)), ((g311.rb (g309.rb (g307.rb (g305.rb (g303.rb xp301))))).up (by omega)), ((g311.rb xp309).up (by omega))⟩
    · skip
      refine g_aload_n rfl rfl ?_
      refine g_aload_n rfl rfl ?_
      refine g_iload rfl rfl ?_
      refine g_iald (i := 1) rfl (ms.slot hP) (by omega) (by omega) ?_
      refine g_top (v2 := aI ((Pq : Int))) (congrArg aI (by exact (g5.sa hP (g3.sa hP (g1.sa hP sP))).2.1)) ?_
      refine g_callVI [aI ((Pq : Int))] [] rfl rfl rfl rfl (Nat.le_of_ble_eq_true rfl) ms.1 (r_sign (by omega) ms V5 (g5.rb (g3.rb (g1.rb xPq)))) ?_
      rintro r313 _ ⟨rfl, e314⟩
      rw [e314]
      clear e314 r313
      refine g_goto rfl ?_
      refine g_istore (l1 := [(4, aI (lcmp P.2.1 0)), (5, aI 1), (3, aI ((p5 : Int))), (0, aO (some o)), (1, aO (some aP)), (2, aI 1)]) rfl rfl ?_
      refine g_iinc (l1 := [(5, aI 2), (4, aI (lcmp P.2.1 0)), (3, aI ((p5 : Int))), (0, aO (some o)), (1, aO (some aP)), (2, aI 1)]) rfl rfl (by omega) (by omega) rfl ?_
      refine g_goto rfl ?_
      refine g_iload rfl rfl ?_
      refine g_iconst rfl ?_
      refine g_icmp_ge_f rfl (by omega) ?_
      refine g_aload_n rfl rfl ?_
      refine g_aload_n rfl rfl ?_
      refine g_iload rfl rfl ?_
      refine g_iald (i := 2) rfl (ms.slot hP) (by omega) (by omega) ?_
      refine g_top (v2 := aI ((Pr : Int))) (congrArg aI (by exact (g5.sa hP (g3.sa hP (g1.sa hP sP))).2.2.1)) ?_
      refine g_callVI [aI ((Pr : Int))] [] rfl rfl rfl rfl (Nat.le_of_ble_eq_true rfl) ms.1 (r_sign (by omega) ms V5 (g5.rb (g3.rb (g1.rb xPr)))) ?_
      rintro r315 _ ⟨rfl, e316⟩
      rw [e316]
      clear e316 r315
      refine g_if_eq rfl (fun c62 => ?_) (fun c62 => ?_)
      · skip
        refine g_iload rfl rfl ?_
        refine g_istore (l1 := [(4, aI (lcmp P.2.1 0)), (5, aI 2), (3, aI ((p5 : Int))), (0, aO (some o)), (1, aO (some aP)), (2, aI 1)]) rfl rfl ?_
        refine g_iinc (l1 := [(5, aI 3), (4, aI (lcmp P.2.1 0)), (3, aI ((p5 : Int))), (0, aO (some o)), (1, aO (some aP)), (2, aI 1)]) rfl rfl (by omega) (by omega) rfl ?_
        refine g_goto rfl ?_
        refine g_iload rfl rfl ?_
        refine g_iconst rfl ?_
        refine g_icmp_ge_t rfl (by omega) ?_
        refine g_iconst rfl ?_
        refine g_istore (l1 := [(5, aI 0), (4, aI (lcmp P.2.1 0)), (3, aI ((p5 : Int))), (0, aO (some o)), (1, aO (some aP)), (2, aI 1)]) rfl rfl ?_
        refine g_iload rfl rfl ?_
        refine g_iconst rfl ?_
        refine g_icmp_ge_f rfl (by omega) ?_
        refine g_aload_n rfl rfl ?_
        refine g_iload rfl rfl ?_
        refine g_aload_n rfl rfl ?_
        refine g_aload_n rfl rfl ?_
        refine g_iload rfl rfl ?_
        refine g_iald (i := 0) rfl (ms.slot hP) (by omega) (by omega) ?_
        refine g_top (v2 := aI ((Pp : Int))) (congrArg aI (by exact (g5.sa hP (g3.sa hP (g1.sa hP sP))).1)) ?_
        refine g_iload_n rfl rfl ?_
        refine g_callVI [aI ((Pp : Int)), aI ((p5 : Int))] [aI 0, aO (some aP)] rfl rfl rfl rfl (Nat.le_of_ble_eq_true rfl) ms.1 (r_div (by omega) ms V5 (by have := G_6.2.2.1; omega) (g5.rb (g3.rb (g1.rb xPp))) xp5 (by intro h0; have q4 := g4_0 h0; omega) (by omega) (by omega)) ?_
        rintro _ _ ⟨p317, rfl, V317, rfl, g317, xp317⟩
        have G_318 := G_6.trans (g317.gs _)
        refine g_iast (i := 0) rfl (ms.slot hP) (by omega) (by omega) ?_
        obtain ⟨V319, eV319⟩ : ∃ W, W = vset V317 aP 0 (p317 : Int) := ⟨_, rfl⟩
        refine g_hp (h2 := hw h V319) (by rw [eV319]; rfl) ?_
        have g319 : Gs V317 V319 o 0 (fun q => q = aP) := by rw [eV319]; exact Gs.cell hP
        have s319 : SA V319 aP p317 Pq Pr Ps := by rw [eV319]; exact SA.c0 (g317.sa hP (g5.sa hP (g3.sa hP (g1.sa hP sP)))) p317
        have G_320 := G_318.trans (g319.wide (fun q hq => by have hq : q = aP := hq; show q = aP; omega))
        refine g_aload_n rfl rfl ?_
        refine g_iload rfl rfl ?_
        refine g_iload rfl rfl ?_
        refine g_if_ge rfl (fun c113 => ?_) (fun c113 => ?_)
        · skip
          refine g_aload_n rfl rfl ?_
          refine g_iload rfl rfl ?_
          refine g_iald (i := 0) rfl (ms.slot hP) (by omega) (by omega) ?_
          refine g_top (v2 := aI ((p317 : Int))) (congrArg aI (by exact s319.1)) ?_
          refine g_iast (i := 0) rfl (ms.slot hP) (by omega) (by omega) ?_
          obtain ⟨V321, eV321⟩ : ∃ W, W = vset V319 aP 0 (p317 : Int) := ⟨_, rfl⟩
          refine g_hp (h2 := hw h V321) (by rw [eV321]; rfl) ?_
          have g321 : Gs V319 V321 o 0 (fun q => q = aP) := by rw [eV321]; exact Gs.cell hP
          have s321 : SA V321 aP p317 Pq Pr Ps := by rw [eV321]; exact SA.c0 s319 p317
          have G_322 := G_320.trans (g321.wide (fun q hq => by have hq : q = aP := hq; show q = aP; omega))
          refine g_iinc (l1 := [(5, aI 1), (4, aI (lcmp P.2.1 0)), (3, aI ((p5 : Int))), (0, aO (some o)), (1, aO (some aP)), (2, aI 1)]) rfl rfl (by omega) (by omega) rfl ?_
          refine g_goto rfl ?_
          refine g_iload rfl rfl ?_
          refine g_iconst rfl ?_
          refine g_icmp_ge_f rfl (by omega) ?_
          refine g_aload_n rfl rfl ?_
          refine g_iload rfl rfl ?_
          refine g_aload_n rfl rfl ?_
          refine g_aload_n rfl rfl ?_
          refine g_iload rfl rfl ?_
          refine g_iald (i := 1) rfl (ms.slot hP) (by omega) (by omega) ?_
          refine g_top (v2 := aI ((Pq : Int))) (congrArg aI (by exact s321.2.1)) ?_
          refine g_iload_n rfl rfl ?_
          refine g_callVI [aI ((Pq : Int)), aI ((p5 : Int))] [aI 1, aO (some aP)] rfl rfl rfl rfl (Nat.le_of_ble_eq_true rfl) ms.1 (r_div (by omega) ms V321 (by have := G_322.2.2.1; omega) (g321.rb (g319.rb (g317.rb (g5.rb (g3.rb (g1.rb xPq)))))) (g321.rb (g319.rb (g317.rb xp5))) (by intro h0; have q4 := g4_0 h0; omega) (by omega) (by omega)) ?_
          rintro _ _ ⟨p323, rfl, V323, rfl, g323, xp323⟩
          have G_324 := G_322.trans (g323.gs _)
          refine g_iast (i := 1) rfl (ms.slot hP) (by omega) (by omega) ?_
          obtain ⟨V325, eV325⟩ : ∃ W, W = vset V323 aP 1 (p323 : Int) := ⟨_, rfl⟩
          refine g_hp (h2 := hw h V325) (by rw [eV325]; rfl) ?_
          have g325 : Gs V323 V325 o 0 (fun q => q = aP) := by rw [eV325]; exact Gs.cell hP
          have s325 : SA V325 aP p317 p323 Pr Ps := by rw [eV325]; exact SA.c1 (g323.sa hP s321) p323
          have G_326 := G_324.trans (g325.wide (fun q hq => by have hq : q = aP := hq; show q = aP; omega))
          refine g_aload_n rfl rfl ?_
          refine g_iload rfl rfl ?_
          refine g_iload rfl rfl ?_
          refine g_if_ge_t rfl (by omega) ?_
          refine g_aload_n rfl rfl ?_
          refine g_iload rfl rfl ?_
          refine g_iald (i := 1) rfl (ms.slot hP) (by omega) (by omega) ?_
          refine g_top (v2 := aI ((p323 : Int))) (congrArg aI (by exact s325.2.1)) ?_
          refine g_iast (i := 1) rfl (ms.slot hP) (by omega) (by omega) ?_
          obtain ⟨V327, eV327⟩ : ∃ W, W = vset V325 aP 1 (p323 : Int) := ⟨_, rfl⟩
          refine g_hp (h2 := hw h V327) (by rw [eV327]; rfl) ?_
          have g327 : Gs V325 V327 o 0 (fun q => q = aP) := by rw [eV327]; exact Gs.cell hP
          have s327 : SA V327 aP p317 p323 Pr Ps := by rw [eV327]; exact SA.c1 s325 p323
          have G_328 := G_326.trans (g327.wide (fun q hq => by have hq : q = aP := hq; show q = aP; omega))
          refine g_iinc (l1 := [(5, aI 2), (4, aI (lcmp P.2.1 0)), (3, aI ((p5 : Int))), (0, aO (some o)), (1, aO (some aP)), (2, aI 1)]) rfl rfl (by omega) (by omega) rfl ?_
          refine g_goto rfl ?_
          refine g_iload rfl rfl ?_
          refine g_iconst rfl ?_
          refine g_icmp_ge_f rfl (by omega) ?_
          refine g_aload_n rfl rfl ?_
          refine g_iload rfl rfl ?_
          refine g_aload_n rfl rfl ?_
          refine g_aload_n rfl rfl ?_
          refine g_iload rfl rfl ?_
          refine g_iald (i := 2) rfl (ms.slot hP) (by omega) (by omega) ?_
          refine g_top (v2 := aI ((Pr : Int))) (congrArg aI (by exact s327.2.2.1)) ?_
          refine g_iload_n rfl rfl ?_
          refine g_callVI [aI ((Pr : Int)), aI ((p5 : Int))] [aI 2, aO (some aP)] rfl rfl rfl rfl (Nat.le_of_ble_eq_true rfl) ms.1 (r_div (by omega) ms V327 (by have := G_328.2.2.1; omega) (g327.rb (g325.rb (g323.rb (g321.rb (g319.rb (g317.rb (g5.rb (g3.rb (g1.rb xPr))))))))) (g327.rb (g325.rb (g323.rb (g321.rb (g319.rb (g317.rb xp5)))))) (by intro h0; have q4 := g4_0 h0; omega) (by omega) (by omega)) ?_
          rintro _ _ ⟨p329, rfl, V329, rfl, g329, xp329⟩
          have G_330 := G_328.trans (g329.gs _)
          refine g_iast (i := 2) rfl (ms.slot hP) (by omega) (by omega) ?_
          obtain ⟨V331, eV331⟩ : ∃ W, W = vset V329 aP 2 (p329 : Int) := ⟨_, rfl⟩
          refine g_hp (h2 := hw h V331) (by rw [eV331]; rfl) ?_
          have g331 : Gs V329 V331 o 0 (fun q => q = aP) := by rw [eV331]; exact Gs.cell hP
          have s331 : SA V331 aP p317 p323 p329 Ps := by rw [eV331]; exact SA.c2 (g329.sa hP s327) p329
          have G_332 := G_330.trans (g331.wide (fun q hq => by have hq : q = aP := hq; show q = aP; omega))
          refine g_aload_n rfl rfl ?_
          refine g_iload rfl rfl ?_
          refine g_iload rfl rfl ?_
          refine g_if_ge_t rfl (by omega) ?_
          refine g_aload_n rfl rfl ?_
          refine g_iload rfl rfl ?_
          refine g_iald (i := 2) rfl (ms.slot hP) (by omega) (by omega) ?_
          refine g_top (v2 := aI ((p329 : Int))) (congrArg aI (by exact s331.2.2.1)) ?_
          refine g_iast (i := 2) rfl (ms.slot hP) (by omega) (by omega) ?_
          obtain ⟨V333, eV333⟩ : ∃ W, W = vset V331 aP 2 (p329 : Int) := ⟨_, rfl⟩
          refine g_hp (h2 := hw h V333) (by rw [eV333]; rfl) ?_
          have g333 : Gs V331 V333 o 0 (fun q => q = aP) := by rw [eV333]; exact Gs.cell hP
          have s333 : SA V333 aP p317 p323 p329 Ps := by rw [eV333]; exact SA.c2 s331 p329
          have G_334 := G_332.trans (g333.wide (fun q hq => by have hq : q = aP := hq; show q = aP; omega))
          refine g_iinc (l1 := [(5, aI 3), (4, aI (lcmp P.2.1 0)), (3, aI ((p5 : Int))), (0, aO (some o)), (1, aO (some aP)), (2, aI 1)]) rfl rfl (by omega) (by omega) rfl ?_
          refine g_goto rfl ?_
          refine g_iload rfl rfl ?_
          refine g_iconst rfl ?_
          refine g_icmp_ge_f rfl (by omega) ?_
          refine g_aload_n rfl rfl ?_
          refine g_iload rfl rfl ?_
          refine g_aload_n rfl rfl ?_
          refine g_aload_n rfl rfl ?_
          refine g_iload rfl rfl ?_
          refine g_iald (i := 3) rfl (ms.slot hP) (by omega) (by omega) ?_
          refine g_top (v2 := aI ((Ps : Int))) (congrArg aI (by exact s333.2.2.2)) ?_
          refine g_iload_n rfl rfl ?_
          refine g_callVI [aI ((Ps : Int)), aI ((p5 : Int))] [aI 3, aO (some aP)] rfl rfl rfl rfl (Nat.le_of_ble_eq_true rfl) ms.1 (r_div (by omega) ms V333 (by have := G_334.2.2.1; omega) (g333.rb (g331.rb (g329.rb (g327.rb (g325.rb (g323.rb (g321.rb (g319.rb (g317.rb (g5.rb (g3.rb (g1.rb xPs)))))))))))) (g333.rb (g331.rb (g329.rb (g327.rb (g325.rb (g323.rb (g321.rb (g319.rb (g317.rb xp5))))))))) (by intro h0; have q4 := g4_0 h0; omega) (by omega) (by omega)) ?_
          rintro _ _ ⟨p335, rfl, V335, rfl, g335, xp335⟩
          have G_336 := G_334.trans (g335.gs _)
          refine g_iast (i := 3) rfl (ms.slot hP) (by omega) (by omega) ?_
          obtain ⟨V337, eV337⟩ : ∃ W, W = vset V335 aP 3 (p335 : Int) := ⟨_, rfl⟩
          refine g_hp (h2 := hw h V337) (by rw [eV337]; rfl) ?_
          have g337 : Gs V335 V337 o 0 (fun q => q = aP) := by rw [eV337]; exact Gs.cell hP
          have s337 : SA V337 aP p317 p323 p329 p335 := by rw [eV337]; exact SA.c3 (g335.sa hP s333) p335
          have G_338 := G_336.trans (g337.wide (fun q hq => by have hq : q = aP := hq; show q = aP; omega))
          refine g_aload_n rfl rfl ?_
          refine g_iload rfl rfl ?_
          refine g_iload rfl rfl ?_
          refine g_if_ge_t rfl (by omega) ?_
          refine g_aload_n rfl rfl ?_
          refine g_iload rfl rfl ?_
          refine g_iald (i := 3) rfl (ms.slot hP) (by omega) (by omega) ?_
          refine g_top (v2 := aI ((p335 : Int))) (congrArg aI (by exact s337.2.2.2)) ?_
          refine g_iast (i := 3) rfl (ms.slot hP) (by omega) (by omega) ?_
          obtain ⟨V339, eV339⟩ : ∃ W, W = vset V337 aP 3 (p335 : Int) := ⟨_, rfl⟩
          refine g_hp (h2 := hw h V339) (by rw [eV339]; rfl) ?_
          have g339 : Gs V337 V339 o 0 (fun q => q = aP) := by rw [eV339]; exact Gs.cell hP
          have s339 : SA V339 aP p317 p323 p329 p335 := by rw [eV339]; exact SA.c3 s337 p335
          have G_340 := G_338.trans (g339.wide (fun q hq => by have hq : q = aP := hq; show q = aP; omega))
          refine g_iinc (l1 := [(5, aI 4), (4, aI (lcmp P.2.1 0)), (3, aI ((p5 : Int))), (0, aO (some o)), (1, aO (some aP)), (2, aI 1)]) rfl rfl (by omega) (by omega) rfl ?_
          refine g_goto rfl ?_
          refine g_iload rfl rfl ?_
          refine g_iconst rfl ?_
          refine g_icmp_ge_t rfl (by omega) ?_
          refine g_vret rfl ?_
          refine ⟨V339, rfl, G_340.mono (by omega), ?_⟩
          have l0 := @lcmp_0 P.1 0
          have m0 := @lcmp_lt P.1 0
          have n0 := @lcmp_gt P.1 0
          have l1 := @lcmp_0 P.2.1 0
          have m1 := @lcmp_lt P.2.1 0
          have n1 := @lcmp_gt P.2.1 0
          have l2 := @lcmp_0 P.2.2.1 0
          have m2 := @lcmp_lt P.2.2.1 0
          have n2 := @lcmp_gt P.2.2.1 0
          unfold m_low
          first
            | (rw [if_pos (by omega)]; unfold set_up)
            | (rw [if_neg (by omega)]; unfold set_dn)
          exact ⟨_, _, _, _, s339, ((g339.rb (g337.rb (g335.rb (g333.rb (g331.rb (g329.rb (g327.rb (g325.rb (g323.rb (g321.rb (g319.rb xp317))))))))))).up (by omega)), ((g339.rb (g337.rb (g335.rb (g333.rb (g331.rb (g329.rb (g327.rb (g325.rb xp323)))))))).up (by omega)), ((g339.rb (g337.rb (g335.rb (g333.rb (g331.rb xp329))))).up (by omega)), ((g339.rb (g337.rb xp335)).up (by omega))⟩
        · skip
          refine g_aload_n rfl rfl ?_
          refine g_aload_n rfl rfl ?_
          refine g_iload rfl rfl ?_
          refine g_iald (i := 0) rfl (ms.slot hP) (by omega) (by omega) ?_
          refine g_top (v2 := aI ((p317 : Int))) (congrArg aI (by exact s319.1)) ?_
          refine g_callVI [aI ((p317 : Int))] [aI 0, aO (some aP)] rfl rfl rfl rfl (Nat.le_of_ble_eq_true rfl) ms.1 (r_neg (by omega) ms V319 (by have := G_320.2.2.1; omega) (g319.rb xp317) (by omega)) ?_
          rintro _ _ ⟨p341, rfl, V341, rfl, g341, xp341⟩
          have G_342 := G_320.trans (g341.gs _)
          refine g_goto rfl ?_
          refine g_iast (i := 0) rfl (ms.slot hP) (by omega) (by omega) ?_
          obtain ⟨V343, eV343⟩ : ∃ W, W = vset V341 aP 0 (p341 : Int) := ⟨_, rfl⟩
          refine g_hp (h2 := hw h V343) (by rw [eV343]; rfl) ?_
          have g343 : Gs V341 V343 o 0 (fun q => q = aP) := by rw [eV343]; exact Gs.cell hP
          have s343 : SA V343 aP p341 Pq Pr Ps := by rw [eV343]; exact SA.c0 (g341.sa hP s319) p341
          have G_344 := G_342.trans (g343.wide (fun q hq => by have hq : q = aP := hq; show q = aP; omega))
          refine g_iinc (l1 := [(5, aI 1), (4, aI (lcmp P.2.1 0)), (3, aI ((p5 : Int))), (0, aO (some o)), (1, aO (some aP)), (2, aI 1)]) rfl rfl (by omega) (by omega) rfl ?_
          refine g_goto rfl ?_
          refine g_iload rfl rfl ?_
          refine g_iconst rfl ?_
          refine g_icmp_ge_f rfl (by omega) ?_
          refine g_aload_n rfl rfl ?_
          refine g_iload rfl rfl ?_
          refine g_aload_n rfl rfl ?_
          refine g_aload_n rfl rfl ?_
          refine g_iload rfl rfl ?_
          refine g_iald (i := 1) rfl (ms.slot hP) (by omega) (by omega) ?_
          refine g_top (v2 := aI ((Pq : Int))) (congrArg aI (by exact s343.2.1)) ?_
          refine g_iload_n rfl rfl ?_
          refine g_callVI [aI ((Pq : Int)), aI ((p5 : Int))] [aI 1, aO (some aP)] rfl rfl rfl rfl (Nat.le_of_ble_eq_true rfl) ms.1 (r_div (by omega) ms V343 (by have := G_344.2.2.1; omega) (g343.rb (g341.rb (g319.rb (g317.rb (g5.rb (g3.rb (g1.rb xPq))))))) (g343.rb (g341.rb (g319.rb (g317.rb xp5)))) (by intro h0; have q4 := g4_0 h0; omega) (by omega) (by omega)) ?_
          rintro _ _ ⟨p345, rfl, V345, rfl, g345, xp345⟩
          have G_346 := G_344.trans (g345.gs _)
          refine g_iast (i := 1) rfl (ms.slot hP) (by omega) (by omega) ?_
          obtain ⟨V347, eV347⟩ : ∃ W, W = vset V345 aP 1 (p345 : Int) := ⟨_, rfl⟩
          refine g_hp (h2 := hw h V347) (by rw [eV347]; rfl) ?_
          have g347 : Gs V345 V347 o 0 (fun q => q = aP) := by rw [eV347]; exact Gs.cell hP
          have s347 : SA V347 aP p341 p345 Pr Ps := by rw [eV347]; exact SA.c1 (g345.sa hP s343) p345
          have G_348 := G_346.trans (g347.wide (fun q hq => by have hq : q = aP := hq; show q = aP; omega))
          refine g_aload_n rfl rfl ?_
          refine g_iload rfl rfl ?_
          refine g_iload rfl rfl ?_
          refine g_if_ge_f rfl (by omega) ?_
          refine g_aload_n rfl rfl ?_
          refine g_aload_n rfl rfl ?_
          refine g_iload rfl rfl ?_
          refine g_iald (i := 1) rfl (ms.slot hP) (by omega) (by omega) ?_
          refine g_top (v2 := aI ((p345 : Int))) (congrArg aI (by exact s347.2.1)) ?_
          refine g_callVI [aI ((p345 : Int))] [aI 1, aO (some aP)] rfl rfl rfl rfl (Nat.le_of_ble_eq_true rfl) ms.1 (r_neg (by omega) ms V347 (by have := G_348.2.2.1; omega) (g347.rb xp345) (by omega)) ?_
          rintro _ _ ⟨p349, rfl, V349, rfl, g349, xp349⟩
          have G_350 := G_348.trans (g349.gs _)
          refine g_goto rfl ?_
          refine g_iast (i := 1) rfl (ms.slot hP) (by omega) (by omega) ?_
          obtain ⟨V351, eV351⟩ : ∃ W, W = vset V349 aP 1 (p349 : Int) := ⟨_, rfl⟩
          refine g_hp (h2 := hw h V351) (by rw [eV351]; rfl) ?_
          have g351 : Gs V349 V351 o 0 (fun q => q = aP) := by rw [eV351]; exact Gs.cell hP
          have s351 : SA V351 aP p341 p349 Pr Ps := by rw [eV351]; exact SA.c1 (g349.sa hP s347) p349
          have G_352 := G_350.trans (g351.wide (fun q hq => by have hq : q = aP := hq; show q = aP; omega))
          refine g_iinc (l1 := [(5, aI 2), (4, aI (lcmp P.2.1 0)), (3, aI ((p5 : Int))), (0, aO (some o)), (1, aO (some aP)), (2, aI 1)]) rfl rfl (by omega) (by omega) rfl ?_
          refine g_goto rfl ?_
          refine g_iload rfl rfl ?_
          refine g_iconst rfl ?_
          refine g_icmp_ge_f rfl (by omega) ?_
          refine g_aload_n rfl rfl ?_
          refine g_iload rfl rfl ?_
          refine g_aload_n rfl rfl ?_
          refine g_aload_n rfl rfl ?_
          refine g_iload rfl rfl ?_
          refine g_iald (i := 2) rfl (ms.slot hP) (by omega) (by omega) ?_
          refine g_top (v2 := aI ((Pr : Int))) (congrArg aI (by exact s351.2.2.1)) ?_
          refine g_iload_n rfl rfl ?_
          refine g_callVI [aI ((Pr : Int)), aI ((p5 : Int))] [aI 2, aO (some aP)] rfl rfl rfl rfl (Nat.le_of_ble_eq_true rfl) ms.1 (r_div (by omega) ms V351 (by have := G_352.2.2.1; omega) (g351.rb (g349.rb (g347.rb (g345.rb (g343.rb (g341.rb (g319.rb (g317.rb (g5.rb (g3.rb (g1.rb xPr))))))))))) (g351.rb (g349.rb (g347.rb (g345.rb (g343.rb (g341.rb (g319.rb (g317.rb xp5)))))))) (by intro h0; have q4 := g4_0 h0; omega) (by omega) (by omega)) ?_
          rintro _ _ ⟨p353, rfl, V353, rfl, g353, xp353⟩
          have G_354 := G_352.trans (g353.gs _)
          refine g_iast (i := 2) rfl (ms.slot hP) (by omega) (by omega) ?_
          obtain ⟨V355, eV355⟩ : ∃ W, W = vset V353 aP 2 (p353 : Int) := ⟨_, rfl⟩
          refine g_hp (h2 := hw h V355) (by rw [eV355]; rfl) ?_
          have g355 : Gs V353 V355 o 0 (fun q => q = aP) := by rw [eV355]; exact Gs.cell hP
          have s355 : SA V355 aP p341 p349 p353 Ps := by rw [eV355]; exact SA.c2 (g353.sa hP s351) p353
          have G_356 := G_354.trans (g355.wide (fun q hq => by have hq : q = aP := hq; show q = aP; omega))
          refine g_aload_n rfl rfl ?_
          refine g_iload rfl rfl ?_
          refine g_iload rfl rfl ?_
          refine g_if_ge_f rfl (by omega) ?_
          refine g_aload_n rfl rfl ?_
          refine g_aload_n rfl rfl ?_
          refine g_iload rfl rfl ?_
          refine g_iald (i := 2) rfl (ms.slot hP) (by omega) (by omega) ?_
          refine g_top (v2 := aI ((p353 : Int))) (congrArg aI (by exact s355.2.2.1)) ?_
          refine g_callVI [aI ((p353 : Int))] [aI 2, aO (some aP)] rfl rfl rfl rfl (Nat.le_of_ble_eq_true rfl) ms.1 (r_neg (by omega) ms V355 (by have := G_356.2.2.1; omega) (g355.rb xp353) (by omega)) ?_
          rintro _ _ ⟨p357, rfl, V357, rfl, g357, xp357⟩
          have G_358 := G_356.trans (g357.gs _)
          refine g_goto rfl ?_
          refine g_iast (i := 2) rfl (ms.slot hP) (by omega) (by omega) ?_
          obtain ⟨V359, eV359⟩ : ∃ W, W = vset V357 aP 2 (p357 : Int) := ⟨_, rfl⟩
          refine g_hp (h2 := hw h V359) (by rw [eV359]; rfl) ?_
          have g359 : Gs V357 V359 o 0 (fun q => q = aP) := by rw [eV359]; exact Gs.cell hP
          have s359 : SA V359 aP p341 p349 p357 Ps := by rw [eV359]; exact SA.c2 (g357.sa hP s355) p357
          have G_360 := G_358.trans (g359.wide (fun q hq => by have hq : q = aP := hq; show q = aP; omega))
          refine g_iinc (l1 := [(5, aI 3), (4, aI (lcmp P.2.1 0)), (3, aI ((p5 : Int))), (0, aO (some o)), (1, aO (some aP)), (2, aI 1)]) rfl rfl (by omega) (by omega) rfl ?_
          refine g_goto rfl ?_
          refine g_iload rfl rfl ?_
          refine g_iconst rfl ?_
          refine g_icmp_ge_f rfl (by omega) ?_
          refine g_aload_n rfl rfl ?_
          refine g_iload rfl rfl ?_
          refine g_aload_n rfl rfl ?_
          refine g_aload_n rfl rfl ?_
          refine g_iload rfl rfl ?_
          refine g_iald (i := 3) rfl (ms.slot hP) (by omega) (by omega) ?_
          refine g_top (v2 := aI ((Ps : Int))) (congrArg aI (by exact s359.2.2.2)) ?_
          refine g_iload_n rfl rfl ?_
          refine g_callVI [aI ((Ps : Int)), aI ((p5 : Int))] [aI 3, aO (some aP)] rfl rfl rfl rfl (Nat.le_of_ble_eq_true rfl) ms.1 (r_div (by omega) ms V359 (by have := G_360.2.2.1; omega) (g359.rb (g357.rb (g355.rb (g353.rb (g351.rb (g349.rb (g347.rb (g345.rb (g343.rb (g341.rb (g319.rb (g317.rb (g5.rb (g3.rb (g1.rb xPs))))))))))))))) (g359.rb (g357.rb (g355.rb (g353.rb (g351.rb (g349.rb (g347.rb (g345.rb (g343.rb (g341.rb (g319.rb (g317.rb xp5)))))))))))) (by intro h0; have q4 := g4_0 h0; omega) (by omega) (by omega)) ?_
          rintro _ _ ⟨p361, rfl, V361, rfl, g361, xp361⟩
          have G_362 := G_360.trans (g361.gs _)
          refine g_iast (i := 3) rfl (ms.slot hP) (by omega) (by omega) ?_
          obtain ⟨V363, eV363⟩ : ∃ W, W = vset V361 aP 3 (p361 : Int) := ⟨_, rfl⟩
          refine g_hp (h2 := hw h V363) (by rw [eV363]; rfl) ?_
          have g363 : Gs V361 V363 o 0 (fun q => q = aP) := by rw [eV363]; exact Gs.cell hP
          have s363 : SA V363 aP p341 p349 p357 p361 := by rw [eV363]; exact SA.c3 (g361.sa hP s359) p361
          have G_364 := G_362.trans (g363.wide (fun q hq => by have hq : q = aP := hq; show q = aP; omega))
          refine g_aload_n rfl rfl ?_
          refine g_iload rfl rfl ?_
          refine g_iload rfl rfl ?_
          refine g_if_ge_f rfl (by omega) ?_
          refine g_aload_n rfl rfl ?_
          refine g_aload_n rfl rfl ?_
          refine g_iload rfl rfl ?_
          refine g_iald (i := 3) rfl (ms.slot hP) (by omega) (by omega) ?_
          refine g_top (v2 := aI ((p361 : Int))) (congrArg aI (by exact s363.2.2.2)) ?_
          refine g_callVI [aI ((p361 : Int))] [aI 3, aO (some aP)] rfl rfl rfl rfl (Nat.le_of_ble_eq_true rfl) ms.1 (r_neg (by omega) ms V363 (by have := G_364.2.2.1; omega) (g363.rb xp361) (by omega)) ?_
          rintro _ _ ⟨p365, rfl, V365, rfl, g365, xp365⟩
          have G_366 := G_364.trans (g365.gs _)
          refine g_goto rfl ?_
          refine g_iast (i := 3) rfl (ms.slot hP) (by omega) (by omega) ?_
          obtain ⟨V367, eV367⟩ : ∃ W, W = vset V365 aP 3 (p365 : Int) := ⟨_, rfl⟩
          refine g_hp (h2 := hw h V367) (by rw [eV367]; rfl) ?_
          have g367 : Gs V365 V367 o 0 (fun q => q = aP) := by rw [eV367]; exact Gs.cell hP
          have s367 : SA V367 aP p341 p349 p357 p365 := by rw [eV367]; exact SA.c3 (g365.sa hP s363) p365
          have G_368 := G_366.trans (g367.wide (fun q hq => by have hq : q = aP := hq; show q = aP; omega))
          refine g_iinc (l1 := [(5, aI 4), (4, aI (lcmp P.2.1 0)), (3, aI ((p5 : Int))), (0, aO (some o)), (1, aO (some aP)), (2, aI 1)]) rfl rfl (by omega) (by omega) rfl ?_
          refine g_goto rfl ?_
          refine g_iload rfl rfl ?_
          refine g_iconst rfl ?_
          refine g_icmp_ge_t rfl (by omega) ?_
          refine g_vret rfl ?_
          refine ⟨V367, rfl, G_368.mono (by omega), ?_⟩
          have l0 := @lcmp_0 P.1 0
          have m0 := @lcmp_lt P.1 0
          have n0 := @lcmp_gt P.1 0
          have l1 := @lcmp_0 P.2.1 0
          have m1 := @lcmp_lt P.2.1 0
          have n1 := @lcmp_gt P.2.1 0
          have l2 := @lcmp_0 P.2.2.1 0
          have m2 := @lcmp_lt P.2.2.1 0
          have n2 := @lcmp_gt P.2.2.1 0
          unfold m_low
          first
            | (rw [if_pos (by omega)]; unfold set_up)
            | (rw [if_neg (by omega)]; unfold set_dn)
          exact ⟨_, _, _, _, s367, ((g367.rb (g365.rb (g363.rb (g361.rb (g359.rb (g357.rb (g355.rb (g353.rb (g351.rb (g349.rb (g347.rb (g345.rb (g343.rb xp341))))))))))))).up (by omega)), ((g367.rb (g365.rb (g363.rb (g361.rb (g359.rb (g357.rb (g355.rb (g353.rb (g351.rb xp349))))))))).up (by omega)), ((g367.rb (g365.rb (g363.rb (g361.rb (g359.rb xp357))))).up (by omega)), ((g367.rb xp365).up (by omega))⟩
      · skip
        refine g_aload_n rfl rfl ?_
        refine g_aload_n rfl rfl ?_
        refine g_iload rfl rfl ?_
        refine g_iald (i := 2) rfl (ms.slot hP) (by omega) (by omega) ?_
        refine g_top (v2 := aI ((Pr : Int))) (congrArg aI (by exact (g5.sa hP (g3.sa hP (g1.sa hP sP))).2.2.1)) ?_
        refine g_callVI [aI ((Pr : Int))] [] rfl rfl rfl rfl (Nat.le_of_ble_eq_true rfl) ms.1 (r_sign (by omega) ms V5 (g5.rb (g3.rb (g1.rb xPr)))) ?_
        rintro r369 _ ⟨rfl, e370⟩
        rw [e370]
        clear e370 r369
        refine g_goto rfl ?_
        refine g_istore (l1 := [(4, aI (lcmp P.2.2.1 0)), (5, aI 2), (3, aI ((p5 : Int))), (0, aO (some o)), (1, aO (some aP)), (2, aI 1)]) rfl rfl ?_
        refine g_iinc (l1 := [(5, aI 3), (4, aI (lcmp P.2.2.1 0)), (3, aI ((p5 : Int))), (0, aO (some o)), (1, aO (some aP)), (2, aI 1)]) rfl rfl (by omega) (by omega) rfl ?_
        refine g_goto rfl ?_
        refine g_iload rfl rfl ?_
        refine g_iconst rfl ?_
        refine g_icmp_ge_t rfl (by omega) ?_
        refine g_iconst rfl ?_
        refine g_istore (l1 := [(5, aI 0), (4, aI (lcmp P.2.2.1 0)), (3, aI ((p5 : Int))), (0, aO (some o)), (1, aO (some aP)), (2, aI 1)]) rfl rfl ?_
        refine g_iload rfl rfl ?_
        refine g_iconst rfl ?_
        refine g_icmp_ge_f rfl (by omega) ?_
        refine g_aload_n rfl rfl ?_
        refine g_iload rfl rfl ?_
        refine g_aload_n rfl rfl ?_
        refine g_aload_n rfl rfl ?_
        refine g_iload rfl rfl ?_
        refine g_iald (i := 0) rfl (ms.slot hP) (by omega) (by omega) ?_
        refine g_top (v2 := aI ((Pp : Int))) (congrArg aI (by exact (g5.sa hP (g3.sa hP (g1.sa hP sP))).1)) ?_
        refine g_iload_n rfl rfl ?_
        refine g_callVI [aI ((Pp : Int)), aI ((p5 : Int))] [aI 0, aO (some aP)] rfl rfl rfl rfl (Nat.le_of_ble_eq_true rfl) ms.1 (r_div (by omega) ms V5 (by have := G_6.2.2.1; omega) (g5.rb (g3.rb (g1.rb xPp))) xp5 (by intro h0; have q4 := g4_0 h0; omega) (by omega) (by omega)) ?_
        rintro _ _ ⟨p371, rfl, V371, rfl, g371, xp371⟩
        have G_372 := G_6.trans (g371.gs _)
        refine g_iast (i := 0) rfl (ms.slot hP) (by omega) (by omega) ?_
        obtain ⟨V373, eV373⟩ : ∃ W, W = vset V371 aP 0 (p371 : Int) := ⟨_, rfl⟩
        refine g_hp (h2 := hw h V373) (by rw [eV373]; rfl) ?_
        have g373 : Gs V371 V373 o 0 (fun q => q = aP) := by rw [eV373]; exact Gs.cell hP
        have s373 : SA V373 aP p371 Pq Pr Ps := by rw [eV373]; exact SA.c0 (g371.sa hP (g5.sa hP (g3.sa hP (g1.sa hP sP)))) p371
        have G_374 := G_372.trans (g373.wide (fun q hq => by have hq : q = aP := hq; show q = aP; omega))
        refine g_aload_n rfl rfl ?_
        refine g_iload rfl rfl ?_
        refine g_iload rfl rfl ?_
        refine g_if_ge rfl (fun c113 => ?_) (fun c113 => ?_)
        · skip
          refine g_aload_n rfl rfl ?_
          refine g_iload rfl rfl ?_
          refine g_iald (i := 0) rfl (ms.slot hP) (by omega) (by omega) ?_
          refine g_top (v2 := aI ((p371 : Int))) (congrArg aI (by exact s373.1)) ?_
          refine g_iast (i := 0) rfl (ms.slot hP) (by omega) (by omega) ?_
          obtain ⟨V375, eV375⟩ : ∃ W, W = vset V373 aP 0 (p371 : Int) := ⟨_, rfl⟩
          refine g_hp (h2 := hw h V375) (by rw [eV375]; rfl) ?_
          have g375 : Gs V373 V375 o 0 (fun q => q = aP) := by rw [eV375]; exact Gs.cell hP
          have s375 : SA V375 aP p371 Pq Pr Ps := by rw [eV375]; exact SA.c0 s373 p371
          have G_376 := G_374.trans (g375.wide (fun q hq => by have hq : q = aP := hq; show q = aP; omega))
          refine g_iinc (l1 := [(5, aI 1), (4, aI (lcmp P.2.2.1 0)), (3, aI ((p5 : Int))), (0, aO (some o)), (1, aO (some aP)), (2, aI 1)]) rfl rfl (by omega) (by omega) rfl ?_
          refine g_goto rfl ?_
          refine g_iload rfl rfl ?_
          refine g_iconst rfl ?_
          refine g_icmp_ge_f rfl (by omega) ?_
          refine g_aload_n rfl rfl ?_
          refine g_iload rfl rfl ?_
          refine g_aload_n rfl rfl ?_
          refine g_aload_n rfl rfl ?_
          refine g_iload rfl rfl ?_
          refine g_iald (i := 1) rfl (ms.slot hP) (by omega) (by omega) ?_
          refine g_top (v2 := aI ((Pq : Int))) (congrArg aI (by exact s375.2.1)) ?_
          refine g_iload_n rfl rfl ?_
          refine g_callVI [aI ((Pq : Int)), aI ((p5 : Int))] [aI 1, aO (some aP)] rfl rfl rfl rfl (Nat.le_of_ble_eq_true rfl) ms.1 (r_div (by omega) ms V375 (by have := G_376.2.2.1; omega) (g375.rb (g373.rb (g371.rb (g5.rb (g3.rb (g1.rb xPq)))))) (g375.rb (g373.rb (g371.rb xp5))) (by intro h0; have q4 := g4_0 h0; omega) (by omega) (by omega)) ?_
          rintro _ _ ⟨p377, rfl, V377, rfl, g377, xp377⟩
          have G_378 := G_376.trans (g377.gs _)
          refine g_iast (i := 1) rfl (ms.slot hP) (by omega) (by omega) ?_
          obtain ⟨V379, eV379⟩ : ∃ W, W = vset V377 aP 1 (p377 : Int) := ⟨_, rfl⟩
          refine g_hp (h2 := hw h V379) (by rw [eV379]; rfl) ?_
          have g379 : Gs V377 V379 o 0 (fun q => q = aP) := by rw [eV379]; exact Gs.cell hP
          have s379 : SA V379 aP p371 p377 Pr Ps := by rw [eV379]; exact SA.c1 (g377.sa hP s375) p377
          have G_380 := G_378.trans (g379.wide (fun q hq => by have hq : q = aP := hq; show q = aP; omega))
          refine g_aload_n rfl rfl ?_
          refine g_iload rfl rfl ?_
          refine g_iload rfl rfl ?_
          refine g_if_ge_t rfl (by omega) ?_
          refine g_aload_n rfl rfl ?_
          refine g_iload rfl rfl ?_
          refine g_iald (i := 1) rfl (ms.slot hP) (by omega) (by omega) ?_
          refine g_top (v2 := aI ((p377 : Int))) (congrArg aI (by exact s379.2.1)) ?_
          refine g_iast (i := 1) rfl (ms.slot hP) (by omega) (by omega) ?_
          obtain ⟨V381, eV381⟩ : ∃ W, W = vset V379 aP 1 (p377 : Int) := ⟨_, rfl⟩
          refine g_hp (h2 := hw h V381) (by rw [eV381]; rfl) ?_
          have g381 : Gs V379 V381 o 0 (fun q => q = aP) := by rw [eV381]; exact Gs.cell hP
          have s381 : SA V381 aP p371 p377 Pr Ps := by rw [eV381]; exact SA.c1 s379 p377
          have G_382 := G_380.trans (g381.wide (fun q hq => by have hq : q = aP := hq; show q = aP; omega))
          refine g_iinc (l1 := [(5, aI 2), (4, aI (lcmp P.2.2.1 0)), (3, aI ((p5 : Int))), (0, aO (some o)), (1, aO (some aP)), (2, aI 1)]) rfl rfl (by omega) (by omega) rfl ?_
          refine g_goto rfl ?_
          refine g_iload rfl rfl ?_
          refine g_iconst rfl ?_
          refine g_icmp_ge_f rfl (by omega) ?_
          refine g_aload_n rfl rfl ?_
          refine g_iload rfl rfl ?_
          refine g_aload_n rfl rfl ?_
          refine g_aload_n rfl rfl ?_
          refine g_iload rfl rfl ?_
          refine g_iald (i := 2) rfl (ms.slot hP) (by omega) (by omega) ?_
          refine g_top (v2 := aI ((Pr : Int))) (congrArg aI (by exact s381.2.2.1)) ?_
          refine g_iload_n rfl rfl ?_
          refine g_callVI [aI ((Pr : Int)), aI ((p5 : Int))] [aI 2, aO (some aP)] rfl rfl rfl rfl (Nat.le_of_ble_eq_true rfl) ms.1 (r_div (by omega) ms V381 (by have := G_382.2.2.1; omega) (g381.rb (g379.rb (g377.rb (g375.rb (g373.rb (g371.rb (g5.rb (g3.rb (g1.rb xPr))))))))) (g381.rb (g379.rb (g377.rb (g375.rb (g373.rb (g371.rb xp5)))))) (by intro h0; have q4 := g4_0 h0; omega) (by omega) (by omega)) ?_
          rintro _ _ ⟨p383, rfl, V383, rfl, g383, xp383⟩
          have G_384 := G_382.trans (g383.gs _)
          refine g_iast (i := 2) rfl (ms.slot hP) (by omega) (by omega) ?_
          obtain ⟨V385, eV385⟩ : ∃ W, W = vset V383 aP 2 (p383 : Int) := ⟨_, rfl⟩
          refine g_hp (h2 := hw h V385) (by rw [eV385]; rfl) ?_
          have g385 : Gs V383 V385 o 0 (fun q => q = aP) := by rw [eV385]; exact Gs.cell hP
          have s385 : SA V385 aP p371 p377 p383 Ps := by rw [eV385]; exact SA.c2 (g383.sa hP s381) p383
          have G_386 := G_384.trans (g385.wide (fun q hq => by have hq : q = aP := hq; show q = aP; omega))
          refine g_aload_n rfl rfl ?_
          refine g_iload rfl rfl ?_
          refine g_iload rfl rfl ?_
          refine g_if_ge_t rfl (by omega) ?_
          refine g_aload_n rfl rfl ?_
          refine g_iload rfl rfl ?_
          refine g_iald (i := 2) rfl (ms.slot hP) (by omega) (by omega) ?_
          refine g_top (v2 := aI ((p383 : Int))) (congrArg aI (by exact s385.2.2.1)) ?_
          refine g_iast (i := 2) rfl (ms.slot hP) (by omega) (by omega) ?_
          obtain ⟨V387, eV387⟩ : ∃ W, W = vset V385 aP 2 (p383 : Int) := ⟨_, rfl⟩
          refine g_hp (h2 := hw h V387) (by rw [eV387]; rfl) ?_
          have g387 : Gs V385 V387 o 0 (fun q => q = aP) := by rw [eV387]; exact Gs.cell hP
          have s387 : SA V387 aP p371 p377 p383 Ps := by rw [eV387]; exact SA.c2 s385 p383
          have G_388 := G_386.trans (g387.wide (fun q hq => by have hq : q = aP := hq; show q = aP; omega))
          refine g_iinc (l1 := [(5, aI 3), (4, aI (lcmp P.2.2.1 0)), (3, aI ((p5 : Int))), (0, aO (some o)), (1, aO (some aP)), (2, aI 1)]) rfl rfl (by omega) (by omega) rfl ?_
          refine g_goto rfl ?_
          refine g_iload rfl rfl ?_
          refine g_iconst rfl ?_
          refine g_icmp_ge_f rfl (by omega) ?_
          refine g_aload_n rfl rfl ?_
          refine g_iload rfl rfl ?_
          refine g_aload_n rfl rfl ?_
          refine g_aload_n rfl rfl ?_
          refine g_iload rfl rfl ?_
          refine g_iald (i := 3) rfl (ms.slot hP) (by omega) (by omega) ?_
          refine g_top (v2 := aI ((Ps : Int))) (congrArg aI (by exact s387.2.2.2)) ?_
          refine g_iload_n rfl rfl ?_
          refine g_callVI [aI ((Ps : Int)), aI ((p5 : Int))] [aI 3, aO (some aP)] rfl rfl rfl rfl (Nat.le_of_ble_eq_true rfl) ms.1 (r_div (by omega) ms V387 (by have := G_388.2.2.1; omega) (g387.rb (g385.rb (g383.rb (g381.rb (g379.rb (g377.rb (g375.rb (g373.rb (g371.rb (g5.rb (g3.rb (g1.rb xPs)))))))))))) (g387.rb (g385.rb (g383.rb (g381.rb (g379.rb (g377.rb (g375.rb (g373.rb (g371.rb xp5))))))))) (by intro h0; have q4 := g4_0 h0; omega) (by omega) (by omega)) ?_
          rintro _ _ ⟨p389, rfl, V389, rfl, g389, xp389⟩
          have G_390 := G_388.trans (g389.gs _)
          refine g_iast (i := 3) rfl (ms.slot hP) (by omega) (by omega) ?_
          obtain ⟨V391, eV391⟩ : ∃ W, W = vset V389 aP 3 (p389 : Int) := ⟨_, rfl⟩
          refine g_hp (h2 := hw h V391) (by rw [eV391]; rfl) ?_
          have g391 : Gs V389 V391 o 0 (fun q => q = aP) := by rw [eV391]; exact Gs.cell hP
          have s391 : SA V391 aP p371 p377 p383 p389 := by rw [eV391]; exact SA.c3 (g389.sa hP s387) p389
          have G_392 := G_390.trans (g391.wide (fun q hq => by have hq : q = aP := hq; show q = aP; omega))
          refine g_aload_n rfl rfl ?_
          refine g_iload rfl rfl ?_
          refine g_iload rfl rfl ?_
          refine g_if_ge_t rfl (by omega) ?_
          refine g_aload_n rfl rfl ?_
          refine g_iload rfl rfl ?_
          refine g_iald (i := 3) rfl (ms.slot hP) (by omega) (by omega) ?_
          refine g_top (v2 := aI ((p389 : Int))) (congrArg aI (by exact s391.2.2.2)) ?_
          refine g_iast (i := 3) rfl (ms.slot hP) (by omega) (by omega) ?_
          obtain ⟨V393, eV393⟩ : ∃ W, W = vset V391 aP 3 (p389 : Int) := ⟨_, rfl⟩
          refine g_hp (h2 := hw h V393) (by rw [eV393]; rfl) ?_
          have g393 : Gs V391 V393 o 0 (fun q => q = aP) := by rw [eV393]; exact Gs.cell hP
          have s393 : SA V393 aP p371 p377 p383 p389 := by rw [eV393]; exact SA.c3 s391 p389
          have G_394 := G_392.trans (g393.wide (fun q hq => by have hq : q = aP := hq; show q = aP; omega))
          refine g_iinc (l1 := [(5, aI 4), (4, aI (lcmp P.2.2.1 0)), (3, aI ((p5 : Int))), (0, aO (some o)), (1, aO (some aP)), (2, aI 1)]) rfl rfl (by omega) (by omega) rfl ?_
          refine g_goto rfl ?_
          refine g_iload rfl rfl ?_
          refine g_iconst rfl ?_
          refine g_icmp_ge_t rfl (by omega) ?_
          refine g_vret rfl ?_
          refine ⟨V393, rfl, G_394.mono (by omega), ?_⟩
          have l0 := @lcmp_0 P.1 0
          have m0 := @lcmp_lt P.1 0
          have n0 := @lcmp_gt P.1 0
          have l1 := @lcmp_0 P.2.1 0
          have m1 := @lcmp_lt P.2.1 0
          have n1 := @lcmp_gt P.2.1 0
          have l2 := @lcmp_0 P.2.2.1 0
          have m2 := @lcmp_lt P.2.2.1 0
          have n2 := @lcmp_gt P.2.2.1 0
          unfold m_low
          first
            | (rw [if_pos (by omega)]; unfold set_up)
            | (rw [if_neg (by omega)]; unfold set_dn)
          exact ⟨_, _, _, _, s393, ((g393.rb (g391.rb (g389.rb (g387.rb (g385.rb (g383.rb (g381.rb (g379.rb (g377.rb (g375.rb (g373.rb xp371))))))))))).up (by omega)), ((g393.rb (g391.rb (g389.rb (g387.rb (g385.rb (g383.rb (g381.rb (g379.rb xp377)))))))).up (by omega)), ((g393.rb (g391.rb (g389.rb (g387.rb (g385.rb xp383))))).up (by omega)), ((g393.rb (g391.rb xp389)).up (by omega))⟩
        · skip
          refine g_aload_n rfl rfl ?_
          refine g_aload_n rfl rfl ?_
          refine g_iload rfl rfl ?_
          refine g_iald (i := 0) rfl (ms.slot hP) (by omega) (by omega) ?_
          refine g_top (v2 := aI ((p371 : Int))) (congrArg aI (by exact s373.1)) ?_
          refine g_callVI [aI ((p371 : Int))] [aI 0, aO (some aP)] rfl rfl rfl rfl (Nat.le_of_ble_eq_true rfl) ms.1 (r_neg (by omega) ms V373 (by have := G_374.2.2.1; omega) (g373.rb xp371) (by omega)) ?_
          rintro _ _ ⟨p395, rfl, V395, rfl, g395, xp395⟩
          have G_396 := G_374.trans (g395.gs _)
          refine g_goto rfl ?_
          refine g_iast (i := 0) rfl (ms.slot hP) (by omega) (by omega) ?_
          obtain ⟨V397, eV397⟩ : ∃ W, W = vset V395 aP 0 (p395 : Int) := ⟨_, rfl⟩
          refine g_hp (h2 := hw h V397) (by rw [eV397]; rfl) ?_
          have g397 : Gs V395 V397 o 0 (fun q => q = aP) := by rw [eV397]; exact Gs.cell hP
          have s397 : SA V397 aP p395 Pq Pr Ps := by rw [eV397]; exact SA.c0 (g395.sa hP s373) p395
          have G_398 := G_396.trans (g397.wide (fun q hq => by have hq : q = aP := hq; show q = aP; omega))
          refine g_iinc (l1 := [(5, aI 1), (4, aI (lcmp P.2.2.1 0)), (3, aI ((p5 : Int))), (0, aO (some o)), (1, aO (some aP)), (2, aI 1)]) rfl rfl (by omega) (by omega) rfl ?_
          refine g_goto rfl ?_
          refine g_iload rfl rfl ?_
          refine g_iconst rfl ?_
          refine g_icmp_ge_f rfl (by omega) ?_
          refine g_aload_n rfl rfl ?_
          refine g_iload rfl rfl ?_
          refine g_aload_n rfl rfl ?_
          refine g_aload_n rfl rfl ?_
          refine g_iload rfl rfl ?_
          refine g_iald (i := 1) rfl (ms.slot hP) (by omega) (by omega) ?_
          refine g_top (v2 := aI ((Pq : Int))) (congrArg aI (by exact s397.2.1)) ?_
          refine g_iload_n rfl rfl ?_
          refine g_callVI [aI ((Pq : Int)), aI ((p5 : Int))] [aI 1, aO (some aP)] rfl rfl rfl rfl (Nat.le_of_ble_eq_true rfl) ms.1 (r_div (by omega) ms V397 (by have := G_398.2.2.1; omega) (g397.rb (g395.rb (g373.rb (g371.rb (g5.rb (g3.rb (g1.rb xPq))))))) (g397.rb (g395.rb (g373.rb (g371.rb xp5)))) (by intro h0; have q4 := g4_0 h0; omega) (by omega) (by omega)) ?_
          rintro _ _ ⟨p399, rfl, V399, rfl, g399, xp399⟩
          have G_400 := G_398.trans (g399.gs _)
          refine g_iast (i := 1) rfl (ms.slot hP) (by omega) (by omega) ?_
          obtain ⟨V401, eV401⟩ : ∃ W, W = vset V399 aP 1 (p399 : Int) := ⟨_, rfl⟩
          refine g_hp (h2 := hw h V401) (by rw [eV401]; rfl) ?_
          have g401 : Gs V399 V401 o 0 (fun q => q = aP) := by rw [eV401]; exact Gs.cell hP
          have s401 : SA V401 aP p395 p399 Pr Ps := by rw [eV401]; exact SA.c1 (g399.sa hP s397) p399
          have G_402 := G_400.trans (g401.wide (fun q hq => by have hq : q = aP := hq; show q = aP; omega))
          refine g_aload_n rfl rfl ?_
          refine g_iload rfl rfl ?_
          refine g_iload rfl rfl ?_
          refine g_if_ge_f rfl (by omega) ?_
          refine g_aload_n rfl rfl ?_
          refine g_aload_n rfl rfl ?_
          refine g_iload rfl rfl ?_
          refine g_iald (i := 1) rfl (ms.slot hP) (by omega) (by omega) ?_
          refine g_top (v2 := aI ((p399 : Int))) (congrArg aI (by exact s401.2.1)) ?_
          refine g_callVI [aI ((p399 : Int))] [aI 1, aO (some aP)] rfl rfl rfl rfl (Nat.le_of_ble_eq_true rfl) ms.1 (r_neg (by omega) ms V401 (by have := G_402.2.2.1; omega) (g401.rb xp399) (by omega)) ?_
          rintro _ _ ⟨p403, rfl, V403, rfl, g403, xp403⟩
          have G_404 := G_402.trans (g403.gs _)
          refine g_goto rfl ?_
          refine g_iast (i := 1) rfl (ms.slot hP) (by omega) (by omega) ?_
          obtain ⟨V405, eV405⟩ : ∃ W, W = vset V403 aP 1 (p403 : Int) := ⟨_, rfl⟩
          refine g_hp (h2 := hw h V405) (by rw [eV405]; rfl) ?_
          have g405 : Gs V403 V405 o 0 (fun q => q = aP) := by rw [eV405]; exact Gs.cell hP
          have s405 : SA V405 aP p395 p403 Pr Ps := by rw [eV405]; exact SA.c1 (g403.sa hP s401) p403
          have G_406 := G_404.trans (g405.wide (fun q hq => by have hq : q = aP := hq; show q = aP; omega))
          refine g_iinc (l1 := [(5, aI 2), (4, aI (lcmp P.2.2.1 0)), (3, aI ((p5 : Int))), (0, aO (some o)), (1, aO (some aP)), (2, aI 1)]) rfl rfl (by omega) (by omega) rfl ?_
          refine g_goto rfl ?_
          refine g_iload rfl rfl ?_
          refine g_iconst rfl ?_
          refine g_icmp_ge_f rfl (by omega) ?_
          refine g_aload_n rfl rfl ?_
          refine g_iload rfl rfl ?_
          refine g_aload_n rfl rfl ?_
          refine g_aload_n rfl rfl ?_
          refine g_iload rfl rfl ?_
          refine g_iald (i := 2) rfl (ms.slot hP) (by omega) (by omega) ?_
          refine g_top (v2 := aI ((Pr : Int))) (congrArg aI (by exact s405.2.2.1)) ?_
          refine g_iload_n rfl rfl ?_
          refine g_callVI [aI ((Pr : Int)), aI ((p5 : Int))] [aI 2, aO (some aP)] rfl rfl rfl rfl (Nat.le_of_ble_eq_true rfl) ms.1 (r_div (by omega) ms V405 (by have := G_406.2.2.1; omega) (g405.rb (g403.rb (g401.rb (g399.rb (g397.rb (g395.rb (g373.rb (g371.rb (g5.rb (g3.rb (g1.rb xPr))))))))))) (g405.rb (g403.rb (g401.rb (g399.rb (g397.rb (g395.rb (g373.rb (g371.rb xp5)))))))) (by intro h0; have q4 := g4_0 h0; omega) (by omega) (by omega)) ?_
          rintro _ _ ⟨p407, rfl, V407, rfl, g407, xp407⟩
          have G_408 := G_406.trans (g407.gs _)
          refine g_iast (i := 2) rfl (ms.slot hP) (by omega) (by omega) ?_
          obtain ⟨V409, eV409⟩ : ∃ W, W = vset V407 aP 2 (p407 : Int) := ⟨_, rfl⟩
          refine g_hp (h2 := hw h V409) (by rw [eV409]; rfl) ?_
          have g409 : Gs V407 V409 o 0 (fun q => q = aP) := by rw [eV409]; exact Gs.cell hP
          have s409 : SA V409 aP p395 p403 p407 Ps := by rw [eV409]; exact SA.c2 (g407.sa hP s405) p407
          have G_410 := G_408.trans (g409.wide (fun q hq => by have hq : q = aP := hq; show q = aP; omega))
          refine g_aload_n rfl rfl ?_
          refine g_iload rfl rfl ?_
          refine g_iload rfl rfl ?_
          refine g_if_ge_f rfl (by omega) ?_
          refine g_aload_n rfl rfl ?_
          refine g_aload_n rfl rfl ?_
          refine g_iload rfl rfl ?_
          refine g_iald (i := 2) rfl (ms.slot hP) (by omega) (by omega) ?_
          refine g_top (v2 := aI ((p407 : Int))) (congrArg aI (by exact s409.2.2.1)) ?_
          refine g_callVI [aI ((p407 : Int))] [aI 2, aO (some aP)] rfl rfl rfl rfl (Nat.le_of_ble_eq_true rfl) ms.1 (r_neg (by omega) ms V409 (by have := G_410.2.2.1; omega) (g409.rb xp407) (by omega)) ?_
          rintro _ _ ⟨p411, rfl, V411, rfl, g411, xp411⟩
          have G_412 := G_410.trans (g411.gs _)
          refine g_goto rfl ?_
          refine g_iast (i := 2) rfl (ms.slot hP) (by omega) (by omega) ?_
          obtain ⟨V413, eV413⟩ : ∃ W, W = vset V411 aP 2 (p411 : Int) := ⟨_, rfl⟩
          refine g_hp (h2 := hw h V413) (by rw [eV413]; rfl) ?_
          have g413 : Gs V411 V413 o 0 (fun q => q = aP) := by rw [eV413]; exact Gs.cell hP
          have s413 : SA V413 aP p395 p403 p411 Ps := by rw [eV413]; exact SA.c2 (g411.sa hP s409) p411
          have G_414 := G_412.trans (g413.wide (fun q hq => by have hq : q = aP := hq; show q = aP; omega))
          refine g_iinc (l1 := [(5, aI 3), (4, aI (lcmp P.2.2.1 0)), (3, aI ((p5 : Int))), (0, aO (some o)), (1, aO (some aP)), (2, aI 1)]) rfl rfl (by omega) (by omega) rfl ?_
          refine g_goto rfl ?_
          refine g_iload rfl rfl ?_
          refine g_iconst rfl ?_
          refine g_icmp_ge_f rfl (by omega) ?_
          refine g_aload_n rfl rfl ?_
          refine g_iload rfl rfl ?_
          refine g_aload_n rfl rfl ?_
          refine g_aload_n rfl rfl ?_
          refine g_iload rfl rfl ?_
          refine g_iald (i := 3) rfl (ms.slot hP) (by omega) (by omega) ?_
          refine g_top (v2 := aI ((Ps : Int))) (congrArg aI (by exact s413.2.2.2)) ?_
          refine g_iload_n rfl rfl ?_
          refine g_callVI [aI ((Ps : Int)), aI ((p5 : Int))] [aI 3, aO (some aP)] rfl rfl rfl rfl (Nat.le_of_ble_eq_true rfl) ms.1 (r_div (by omega) ms V413 (by have := G_414.2.2.1; omega) (g413.rb (g411.rb (g409.rb (g407.rb (g405.rb (g403.rb (g401.rb (g399.rb (g397.rb (g395.rb (g373.rb (g371.rb (g5.rb (g3.rb (g1.rb xPs))))))))))))))) (g413.rb (g411.rb (g409.rb (g407.rb (g405.rb (g403.rb (g401.rb (g399.rb (g397.rb (g395.rb (g373.rb (g371.rb xp5)))))))))))) (by intro h0; have q4 := g4_0 h0; omega) (by omega) (by omega)) ?_
          rintro _ _ ⟨p415, rfl, V415, rfl, g415, xp415⟩
          have G_416 := G_414.trans (g415.gs _)
          refine g_iast (i := 3) rfl (ms.slot hP) (by omega) (by omega) ?_
          obtain ⟨V417, eV417⟩ : ∃ W, W = vset V415 aP 3 (p415 : Int) := ⟨_, rfl⟩
          refine g_hp (h2 := hw h V417) (by rw [eV417]; rfl) ?_
          have g417 : Gs V415 V417 o 0 (fun q => q = aP) := by rw [eV417]; exact Gs.cell hP
          have s417 : SA V417 aP p395 p403 p411 p415 := by rw [eV417]; exact SA.c3 (g415.sa hP s413) p415
          have G_418 := G_416.trans (g417.wide (fun q hq => by have hq : q = aP := hq; show q = aP; omega))
          refine g_aload_n rfl rfl ?_
          refine g_iload rfl rfl ?_
          refine g_iload rfl rfl ?_
          refine g_if_ge_f rfl (by omega) ?_
          refine g_aload_n rfl rfl ?_
          refine g_aload_n rfl rfl ?_
          refine g_iload rfl rfl ?_
          refine g_iald (i := 3) rfl (ms.slot hP) (by omega) (by omega) ?_
          refine g_top (v2 := aI ((p415 : Int))) (congrArg aI (by exact s417.2.2.2)) ?_
          refine g_callVI [aI ((p415 : Int))] [aI 3, aO (some aP)] rfl rfl rfl rfl (Nat.le_of_ble_eq_true rfl) ms.1 (r_neg (by omega) ms V417 (by have := G_418.2.2.1; omega) (g417.rb xp415) (by omega)) ?_
          rintro _ _ ⟨p419, rfl, V419, rfl, g419, xp419⟩
          have G_420 := G_418.trans (g419.gs _)
          refine g_goto rfl ?_
          refine g_iast (i := 3) rfl (ms.slot hP) (by omega) (by omega) ?_
          obtain ⟨V421, eV421⟩ : ∃ W, W = vset V419 aP 3 (p419 : Int) := ⟨_, rfl⟩
          refine g_hp (h2 := hw h V421) (by rw [eV421]; rfl) ?_
          have g421 : Gs V419 V421 o 0 (fun q => q = aP) := by rw [eV421]; exact Gs.cell hP
          have s421 : SA V421 aP p395 p403 p411 p419 := by rw [eV421]; exact SA.c3 (g419.sa hP s417) p419
          have G_422 := G_420.trans (g421.wide (fun q hq => by have hq : q = aP := hq; show q = aP; omega))
          refine g_iinc (l1 := [(5, aI 4), (4, aI (lcmp P.2.2.1 0)), (3, aI ((p5 : Int))), (0, aO (some o)), (1, aO (some aP)), (2, aI 1)]) rfl rfl (by omega) (by omega) rfl ?_
          refine g_goto rfl ?_
          refine g_iload rfl rfl ?_
          refine g_iconst rfl ?_
          refine g_icmp_ge_t rfl (by omega) ?_
          refine g_vret rfl ?_
          refine ⟨V421, rfl, G_422.mono (by omega), ?_⟩
          have l0 := @lcmp_0 P.1 0
          have m0 := @lcmp_lt P.1 0
          have n0 := @lcmp_gt P.1 0
          have l1 := @lcmp_0 P.2.1 0
          have m1 := @lcmp_lt P.2.1 0
          have n1 := @lcmp_gt P.2.1 0
          have l2 := @lcmp_0 P.2.2.1 0
          have m2 := @lcmp_lt P.2.2.1 0
          have n2 := @lcmp_gt P.2.2.1 0
          unfold m_low
          first
            | (rw [if_pos (by omega)]; unfold set_up)
            | (rw [if_neg (by omega)]; unfold set_dn)
          exact ⟨_, _, _, _, s421, ((g421.rb (g419.rb (g417.rb (g415.rb (g413.rb (g411.rb (g409.rb (g407.rb (g405.rb (g403.rb (g401.rb (g399.rb (g397.rb xp395))))))))))))).up (by omega)), ((g421.rb (g419.rb (g417.rb (g415.rb (g413.rb (g411.rb (g409.rb (g407.rb (g405.rb xp403))))))))).up (by omega)), ((g421.rb (g419.rb (g417.rb (g415.rb (g413.rb xp411))))).up (by omega)), ((g421.rb xp419).up (by omega))⟩
set_option maxHeartbeats 4000000 in
theorem m_settle2 {w : aW} {d : Nat} (hd : 7 ≤ d) {k : Nat} {h : aH} {o : Nat} (ms : MS h o) (V : Nat → Nat → Int) (hF : 0 ≤ V o 1 ∧ V o 1 + 22 ≤ 700) {P : T4} (aP : Nat) (hP : SLa o aP) (tP : SB V o aP P (k))  (hk : k ≤ 381) : WP w d 288 [aO (some o), aO (some aP), aI 2] (hw h V) (RN (fun h1 => ∃ V1, h1 = hw h V1 ∧ Gs V V1 o 22 (fun q => q = aP) ∧ SB V1 o aP (m_lowR P) (k))) := by
  obtain ⟨d, rfl⟩ : ∃ d1, d = d1 + 1 := ⟨d - 1, by omega⟩
  refine WP.enter (cd := cd_X12_settle) rfl ?_
  have G0 := Gs.refl V o (fun q => q = aP)
  obtain ⟨Pp, Pq, Pr, Ps, sP, xPp, xPq, xPr, xPs⟩ := tP
  have hs_P := hP
  unfold SLa at hs_P
  have hls : largs 0 [aO (some o), aO (some aP), aI 2] = [(0, aO (some o)), (1, aO (some aP)), (2, aI 2)] := rfl
  rw [hls]
  clear hls
  refine g_aload_n rfl rfl ?_
  refine g_aload_n rfl rfl ?_
  refine g_aload_n rfl rfl ?_
  refine g_iconst rfl ?_
  refine g_iald (i := 0) rfl (ms.slot hP) (by omega) (by omega) ?_
  refine g_top (v2 := aI ((Pp : Int))) (congrArg aI (by exact sP.1)) ?_
  refine g_aload_n rfl rfl ?_
  refine g_iconst rfl ?_
  refine g_iald (i := 1) rfl (ms.slot hP) (by omega) (by omega) ?_
  refine g_top (v2 := aI ((Pq : Int))) (congrArg aI (by exact sP.2.1)) ?_
  refine g_callVI [aI ((Pp : Int)), aI ((Pq : Int))] [aO (some o)] rfl rfl rfl rfl (Nat.le_of_ble_eq_true rfl) ms.1 (r_gcd (by omega) ms V (by have := G0.2.2.1; omega) (show RB V o Pp P.1 (k) from (xPp.up (by omega))) (show RB V o Pq P.2.1 (k) from (xPq.up (by omega)))) ?_
  rintro _ _ ⟨p1, rfl, V1, rfl, g1, xp1⟩
  have G_2 := G0.trans (g1.gs _)
  refine g_aload_n rfl rfl ?_
  refine g_aload_n rfl rfl ?_
  refine g_iconst rfl ?_
  refine g_iald (i := 2) rfl (ms.slot hP) (by omega) (by omega) ?_
  refine g_top (v2 := aI ((Pr : Int))) (congrArg aI (by exact (g1.sa hP sP).2.2.1)) ?_
  refine g_aload_n rfl rfl ?_
  refine g_iconst rfl ?_
  refine g_iald (i := 3) rfl (ms.slot hP) (by omega) (by omega) ?_
  refine g_top (v2 := aI ((Ps : Int))) (congrArg aI (by exact (g1.sa hP sP).2.2.2)) ?_
  refine g_callVI [aI ((Pr : Int)), aI ((Ps : Int))] [aI ((p1 : Int)), aO (some o)] rfl rfl rfl rfl (Nat.le_of_ble_eq_true rfl) ms.1 (r_gcd (by omega) ms V1 (by have := G_2.2.2.1; omega) (show RB V1 o Pr P.2.2.1 (k) from ((g1.rb xPr).up (by omega))) (show RB V1 o Ps P.2.2.2 (k) from ((g1.rb xPs).up (by omega)))) ?_
  rintro _ _ ⟨p3, rfl, V3, rfl, g3, xp3⟩
  have G_4 := G_2.trans (g3.gs _)
  refine g_callVI [aI ((p1 : Int)), aI ((p3 : Int))] [] rfl rfl rfl rfl (Nat.le_of_ble_eq_true rfl) ms.1 (r_gcd (by omega) ms V3 (by have := G_4.2.2.1; omega) (show RB V3 o p1 (((Int.gcd P.1 P.2.1 : Nat) : Int)) (k) from ((g3.rb xp1).up (by omega))) (show RB V3 o p3 (((Int.gcd P.2.2.1 P.2.2.2 : Nat) : Int)) (k) from (xp3.up (by omega)))) ?_
  rintro _ _ ⟨p5, rfl, V5, rfl, g5, xp5⟩
  have xp5 : RB V5 o p5 (g4 P) (k) := xp5
  have G_6 := G_4.trans (g5.gs _)
  refine g_istore_n (l1 := [(3, aI ((p5 : Int))), (0, aO (some o)), (1, aO (some aP)), (2, aI 2)]) rfl rfl ?_
  refine g_iconst rfl ?_
  refine g_istore (l1 := [(4, aI 0), (3, aI ((p5 : Int))), (0, aO (some o)), (1, aO (some aP)), (2, aI 2)]) rfl rfl ?_
  refine g_iload_n rfl rfl ?_
  refine g_iconst rfl ?_
  refine g_icmp_ne_f rfl (by omega) ?_
  refine g_aload_n rfl rfl ?_
  refine g_aload_n rfl rfl ?_
  refine g_iconst rfl ?_
  refine g_iald (i := 0) rfl (ms.slot hP) (by omega) (by omega) ?_
  refine g_top (v2 := aI ((Pp : Int))) (congrArg aI (by exact (g5.sa hP (g3.sa hP (g1.sa hP sP))).1)) ?_
  refine g_callVI [aI ((Pp : Int))] [] rfl rfl rfl rfl (Nat.le_of_ble_eq_true rfl) ms.1 (r_sign (by omega) ms V5 (g5.rb (g3.rb (g1.rb xPp)))) ?_
  rintro r7 _ ⟨rfl, e8⟩
  rw [e8]
  clear e8 r7
  refine g_istore (l1 := [(4, aI (lcmp P.1 0)), (3, aI ((p5 : Int))), (0, aO (some o)), (1, aO (some aP)), (2, aI 2)]) rfl rfl ?_
  refine g_goto rfl ?_
  refine g_iconst rfl ?_
  refine g_istore (l1 := [(5, aI 0), (4, aI (lcmp P.1 0)), (3, aI ((p5 : Int))), (0, aO (some o)), (1, aO (some aP)), (2, aI 2)]) rfl rfl ?_
  refine g_iload rfl rfl ?_
  refine g_iconst rfl ?_
  refine g_icmp_ge_f rfl (by omega) ?_
  refine g_aload_n rfl rfl ?_
  refine g_iload rfl rfl ?_
  refine g_aload_n rfl rfl ?_
  refine g_aload_n rfl rfl ?_
  refine g_iload rfl rfl ?_
  refine g_iald (i := 0) rfl (ms.slot hP) (by omega) (by omega) ?_
  refine g_top (v2 := aI ((Pp : Int))) (congrArg aI (by exact (g5.sa hP (g3.sa hP (g1.sa hP sP))).1)) ?_
  refine g_iload_n rfl rfl ?_
  refine g_callVI [aI ((Pp : Int)), aI ((p5 : Int))] [aI 0, aO (some aP)] rfl rfl rfl rfl (Nat.le_of_ble_eq_true rfl) ms.1 (r_div (by omega) ms V5 (by have := G_6.2.2.1; omega) (g5.rb (g3.rb (g1.rb xPp))) xp5 (by intro h0; have q4 := g4_0 h0; omega) (by omega) (by omega)) ?_
  rintro _ _ ⟨p9, rfl, V9, rfl, g9, xp9⟩
  have G_10 := G_6.trans (g9.gs _)
  refine g_iast (i := 0) rfl (ms.slot hP) (by omega) (by omega) ?_
  obtain ⟨V11, eV11⟩ : ∃ W, W = vset V9 aP 0 (p9 : Int) := ⟨_, rfl⟩
  refine g_hp (h2 := hw h V11) (by rw [eV11]; rfl) ?_
  have g11 : Gs V9 V11 o 0 (fun q => q = aP) := by rw [eV11]; exact Gs.cell hP
  have s11 : SA V11 aP p9 Pq Pr Ps := by rw [eV11]; exact SA.c0 (g9.sa hP (g5.sa hP (g3.sa hP (g1.sa hP sP)))) p9
  have G_12 := G_10.trans (g11.wide (fun q hq => by have hq : q = aP := hq; show q = aP; omega))
  refine g_aload_n rfl rfl ?_
  refine g_iload rfl rfl ?_
  refine g_iload rfl rfl ?_
  refine g_if_ge rfl (fun c113 => ?_) (fun c113 => ?_)
  · skip
    refine g_aload_n rfl rfl ?_
    refine g_iload rfl rfl ?_
    refine g_iald (i := 0) rfl (ms.slot hP) (by omega) (by omega) ?_
    refine g_top (v2 := aI ((p9 : Int))) (congrArg aI (by exact s11.1)) ?_
    refine g_iast (i := 0) rfl (ms.slot hP) (by omega) (by omega) ?_
    obtain ⟨V13, eV13⟩ : ∃ W, W = vset V11 aP 0 (p9 : Int) := ⟨_, rfl⟩
    refine g_hp (h2 := hw h V13) (by rw [eV13]; rfl) ?_
    have g13 : Gs V11 V13 o 0 (fun q => q = aP) := by rw [eV13]; exact Gs.cell hP
    have s13 : SA V13 aP p9 Pq Pr Ps := by rw [eV13]; exact SA.c0 s11 p9
    have G_14 := G_12.trans (g13.wide (fun q hq => by have hq : q = aP := hq; show q = aP; omega))
    refine g_iinc (l1 := [(5, aI 1), (4, aI (lcmp P.1 0)), (3, aI ((p5 : Int))), (0, aO (some o)), (1, aO (some aP)), (2, aI 2)]) rfl rfl (by omega) (by omega) rfl ?_
    refine g_goto rfl ?_
    refine g_iload rfl rfl ?_
    refine g_iconst rfl ?_
    refine g_icmp_ge_f rfl (by omega) ?_
    refine g_aload_n rfl rfl ?_
    refine g_iload rfl rfl ?_
    refine g_aload_n rfl rfl ?_
    refine g_aload_n rfl rfl ?_
    refine g_iload rfl rfl ?_
    refine g_iald (i := 1) rfl (ms.slot hP) (by omega) (by omega) ?_
    refine g_top (v2 := aI ((Pq : Int))) (congrArg aI (by exact s13.2.1)) ?_
    refine g_iload_n rfl rfl ?_
    refine g_callVI [aI ((Pq : Int)), aI ((p5 : Int))] [aI 1, aO (some aP)] rfl rfl rfl rfl (Nat.le_of_ble_eq_true rfl) ms.1 (r_div (by omega) ms V13 (by have := G_14.2.2.1; omega) (g13.rb (g11.rb (g9.rb (g5.rb (g3.rb (g1.rb xPq)))))) (g13.rb (g11.rb (g9.rb xp5))) (by intro h0; have q4 := g4_0 h0; omega) (by omega) (by omega)) ?_
    rintro _ _ ⟨p15, rfl, V15, rfl, g15, xp15⟩
    have G_16 := G_14.trans (g15.gs _)
    refine g_iast (i := 1) rfl (ms.slot hP) (by omega) (by omega) ?_
    obtain ⟨V17, eV17⟩ : ∃ W, W = vset V15 aP 1 (p15 : Int) := ⟨_, rfl⟩
    refine g_hp (h2 := hw h V17) (by rw [eV17]; rfl) ?_
    have g17 : Gs V15 V17 o 0 (fun q => q = aP) := by rw [eV17]; exact Gs.cell hP
    have s17 : SA V17 aP p9 p15 Pr Ps := by rw [eV17]; exact SA.c1 (g15.sa hP s13) p15
    have G_18 := G_16.trans (g17.wide (fun q hq => by have hq : q = aP := hq; show q = aP; omega))
    refine g_aload_n rfl rfl ?_
    refine g_iload rfl rfl ?_
    refine g_iload rfl rfl ?_
    refine g_if_ge_t rfl (by omega) ?_
    refine g_aload_n rfl rfl ?_
    refine g_iload rfl rfl ?_
    refine g_iald (i := 1) rfl (ms.slot hP) (by omega) (by omega) ?_
    refine g_top (v2 := aI ((p15 : Int))) (congrArg aI (by exact s17.2.1)) ?_
    refine g_iast (i := 1) rfl (ms.slot hP) (by omega) (by omega) ?_
    obtain ⟨V19, eV19⟩ : ∃ W, W = vset V17 aP 1 (p15 : Int) := ⟨_, rfl⟩
    refine g_hp (h2 := hw h V19) (by rw [eV19]; rfl) ?_
    have g19 : Gs V17 V19 o 0 (fun q => q = aP) := by rw [eV19]; exact Gs.cell hP
    have s19 : SA V19 aP p9 p15 Pr Ps := by rw [eV19]; exact SA.c1 s17 p15
    have G_20 := G_18.trans (g19.wide (fun q hq => by have hq : q = aP := hq; show q = aP; omega))
    refine g_iinc (l1 := [(5, aI 2), (4, aI (lcmp P.1 0)), (3, aI ((p5 : Int))), (0, aO (some o)), (1, aO (some aP)), (2, aI 2)]) rfl rfl (by omega) (by omega) rfl ?_
    refine g_goto rfl ?_
    refine g_iload rfl rfl ?_
    refine g_iconst rfl ?_
    refine g_icmp_ge_f rfl (by omega) ?_
    refine g_aload_n rfl rfl ?_
    refine g_iload rfl rfl ?_
    refine g_aload_n rfl rfl ?_
    refine g_aload_n rfl rfl ?_
    refine g_iload rfl rfl ?_
    refine g_iald (i := 2) rfl (ms.slot hP) (by omega) (by omega) ?_
    refine g_top (v2 := aI ((Pr : Int))) (congrArg aI (by exact s19.2.2.1)) ?_
    refine g_iload_n rfl rfl ?_
    refine g_callVI [aI ((Pr : Int)), aI ((p5 : Int))] [aI 2, aO (some aP)] rfl rfl rfl rfl (Nat.le_of_ble_eq_true rfl) ms.1 (r_div (by omega) ms V19 (by have := G_20.2.2.1; omega) (g19.rb (g17.rb (g15.rb (g13.rb (g11.rb (g9.rb (g5.rb (g3.rb (g1.rb xPr))))))))) (g19.rb (g17.rb (g15.rb (g13.rb (g11.rb (g9.rb xp5)))))) (by intro h0; have q4 := g4_0 h0; omega) (by omega) (by omega)) ?_
    rintro _ _ ⟨p21, rfl, V21, rfl, g21, xp21⟩
    have G_22 := G_20.trans (g21.gs _)
    refine g_iast (i := 2) rfl (ms.slot hP) (by omega) (by omega) ?_
    obtain ⟨V23, eV23⟩ : ∃ W, W = vset V21 aP 2 (p21 : Int) := ⟨_, rfl⟩
    refine g_hp (h2 := hw h V23) (by rw [eV23]; rfl) ?_
    have g23 : Gs V21 V23 o 0 (fun q => q = aP) := by rw [eV23]; exact Gs.cell hP
    have s23 : SA V23 aP p9 p15 p21 Ps := by rw [eV23]; exact SA.c2 (g21.sa hP s19) p21
    have G_24 := G_22.trans (g23.wide (fun q hq => by have hq : q = aP := hq; show q = aP; omega))
    refine g_aload_n rfl rfl ?_
    refine g_iload rfl rfl ?_
    refine g_iload rfl rfl ?_
    refine g_if_ge_t rfl (by omega) ?_
    refine g_aload_n rfl rfl ?_
    refine g_iload rfl rfl ?_
    refine g_iald (i := 2) rfl (ms.slot hP) (by omega) (by omega) ?_
    refine g_top (v2 := aI ((p21 : Int))) (congrArg aI (by exact s23.2.2.1)) ?_
    refine g_iast (i := 2) rfl (ms.slot hP) (by omega) (by omega) ?_
    obtain ⟨V25, eV25⟩ : ∃ W, W = vset V23 aP 2 (p21 : Int) := ⟨_, rfl⟩
    refine g_hp (h2 := hw h V25) (by rw [eV25]; rfl) ?_
    have g25 : Gs V23 V25 o 0 (fun q => q = aP) := by rw [eV25]; exact Gs.cell hP
    have s25 : SA V25 aP p9 p15 p21 Ps := by rw [eV25]; exact SA.c2 s23 p21
    have G_26 := G_24.trans (g25.wide (fun q hq => by have hq : q = aP := hq; show q = aP; omega))
    refine g_iinc (l1 := [(5, aI 3), (4, aI (lcmp P.1 0)), (3, aI ((p5 : Int))), (0, aO (some o)), (1, aO (some aP)), (2, aI 2)]) rfl rfl (by omega) (by omega) rfl ?_
    refine g_goto rfl ?_
    refine g_iload rfl rfl ?_
    refine g_iconst rfl ?_
    refine g_icmp_ge_f rfl (by omega) ?_
    refine g_aload_n rfl rfl ?_
    refine g_iload rfl rfl ?_
    refine g_aload_n rfl rfl ?_
    refine g_aload_n rfl rfl ?_
    refine g_iload rfl rfl ?_
    refine g_iald (i := 3) rfl (ms.slot hP) (by omega) (by omega) ?_
    refine g_top (v2 := aI ((Ps : Int))) (congrArg aI (by exact s25.2.2.2)) ?_
    refine g_iload_n rfl rfl ?_
    refine g_callVI [aI ((Ps : Int)), aI ((p5 : Int))] [aI 3, aO (some aP)] rfl rfl rfl rfl (Nat.le_of_ble_eq_true rfl) ms.1 (r_div (by omega) ms V25 (by have := G_26.2.2.1; omega) (g25.rb (g23.rb (g21.rb (g19.rb (g17.rb (g15.rb (g13.rb (g11.rb (g9.rb (g5.rb (g3.rb (g1.rb xPs)))))))))))) (g25.rb (g23.rb (g21.rb (g19.rb (g17.rb (g15.rb (g13.rb (g11.rb (g9.rb xp5))))))))) (by intro h0; have q4 := g4_0 h0; omega) (by omega) (by omega)) ?_
    rintro _ _ ⟨p27, rfl, V27, rfl, g27, xp27⟩
    have G_28 := G_26.trans (g27.gs _)
    refine g_iast (i := 3) rfl (ms.slot hP) (by omega) (by omega) ?_
    obtain ⟨V29, eV29⟩ : ∃ W, W = vset V27 aP 3 (p27 : Int) := ⟨_, rfl⟩
    refine g_hp (h2 := hw h V29) (by rw [eV29]; rfl) ?_
    have g29 : Gs V27 V29 o 0 (fun q => q = aP) := by rw [eV29]; exact Gs.cell hP
    have s29 : SA V29 aP p9 p15 p21 p27 := by rw [eV29]; exact SA.c3 (g27.sa hP s25) p27
    have G_30 := G_28.trans (g29.wide (fun q hq => by have hq : q = aP := hq; show q = aP; omega))
    refine g_aload_n rfl rfl ?_
    refine g_iload rfl rfl ?_
    refine g_iload rfl rfl ?_
    refine g_if_ge_t rfl (by omega) ?_
    refine g_aload_n rfl rfl ?_
    refine g_iload rfl rfl ?_
    refine g_iald (i := 3) rfl (ms.slot hP) (by omega) (by omega) ?_
    refine g_top (v2 := aI ((p27 : Int))) (congrArg aI (by exact s29.2.2.2)) ?_
    refine g_iast (i := 3) rfl (ms.slot hP) (by omega) (by omega) ?_
    obtain ⟨V31, eV31⟩ : ∃ W, W = vset V29 aP 3 (p27 : Int) := ⟨_, rfl⟩
    refine g_hp (h2 := hw h V31) (by rw [eV31]; rfl) ?_
    have g31 : Gs V29 V31 o 0 (fun q => q = aP) := by rw [eV31]; exact Gs.cell hP
    have s31 : SA V31 aP p9 p15 p21 p27 := by rw [eV31]; exact SA.c3 s29 p27
    have G_32 := G_30.trans (g31.wide (fun q hq => by have hq : q = aP := hq; show q = aP; omega))
    refine g_iinc (l1 := [(5, aI 4), (4, aI (lcmp P.1 0)), (3, aI ((p5 : Int))), (0, aO (some o)), (1, aO (some aP)), (2, aI 2)]) rfl rfl (by omega) (by omega) rfl ?_
    refine g_goto rfl ?_
    refine g_iload rfl rfl ?_
    refine g_iconst rfl ?_
    refine g_icmp_ge_t rfl (by omega) ?_
    refine g_vret rfl ?_
    refine ⟨V31, rfl, G_32.mono (by omega), ?_⟩
    have l0 := @lcmp_0 P.1 0
    have m0 := @lcmp_lt P.1 0
    have n0 := @lcmp_gt P.1 0
    unfold m_lowR
    first
      | (rw [if_pos (by omega)]; unfold set_up)
      | (rw [if_neg (by omega)]; unfold set_dn)
    exact ⟨_, _, _, _, s31, ((g31.rb (g29.rb (g27.rb (g25.rb (g23.rb (g21.rb (g19.rb (g17.rb (g15.rb (g13.rb (g11.rb xp9))))))))))).up (by omega)), ((g31.rb (g29.rb (g27.rb (g25.rb (g23.rb (g21.rb (g19.rb (g17.rb xp15)))))))).up (by omega)), ((g31.rb (g29.rb (g27.rb (g25.rb (g23.rb xp21))))).up (by omega)), ((g31.rb (g29.rb xp27)).up (by omega))⟩
  · skip
    refine g_aload_n rfl rfl ?_
    refine g_aload_n rfl rfl ?_
    refine g_iload rfl rfl ?_
    refine g_iald (i := 0) rfl (ms.slot hP) (by omega) (by omega) ?_
    refine g_top (v2 := aI ((p9 : Int))) (congrArg aI (by exact s11.1)) ?_
    refine g_callVI [aI ((p9 : Int))] [aI 0, aO (some aP)] rfl rfl rfl rfl (Nat.le_of_ble_eq_true rfl) ms.1 (r_neg (by omega) ms V11 (by have := G_12.2.2.1; omega) (g11.rb xp9) (by omega)) ?_
    rintro _ _ ⟨p33, rfl, V33, rfl, g33, xp33⟩
    have G_34 := G_12.trans (g33.gs _)
    refine g_goto rfl ?_
    refine g_iast (i := 0) rfl (ms.slot hP) (by omega) (by omega) ?_
    obtain ⟨V35, eV35⟩ : ∃ W, W = vset V33 aP 0 (p33 : Int) := ⟨_, rfl⟩
    refine g_hp (h2 := hw h V35) (by rw [eV35]; rfl) ?_
    have g35 : Gs V33 V35 o 0 (fun q => q = aP) := by rw [eV35]; exact Gs.cell hP
    have s35 : SA V35 aP p33 Pq Pr Ps := by rw [eV35]; exact SA.c0 (g33.sa hP s11) p33
    have G_36 := G_34.trans (g35.wide (fun q hq => by have hq : q = aP := hq; show q = aP; omega))
    refine g_iinc (l1 := [(5, aI 1), (4, aI (lcmp P.1 0)), (3, aI ((p5 : Int))), (0, aO (some o)), (1, aO (some aP)), (2, aI 2)]) rfl rfl (by omega) (by omega) rfl ?_
    refine g_goto rfl ?_
    refine g_iload rfl rfl ?_
    refine g_iconst rfl ?_
    refine g_icmp_ge_f rfl (by omega) ?_
    refine g_aload_n rfl rfl ?_
    refine g_iload rfl rfl ?_
    refine g_aload_n rfl rfl ?_
    refine g_aload_n rfl rfl ?_
    refine g_iload rfl rfl ?_
    refine g_iald (i := 1) rfl (ms.slot hP) (by omega) (by omega) ?_
    refine g_top (v2 := aI ((Pq : Int))) (congrArg aI (by exact s35.2.1)) ?_
    refine g_iload_n rfl rfl ?_
    refine g_callVI [aI ((Pq : Int)), aI ((p5 : Int))] [aI 1, aO (some aP)] rfl rfl rfl rfl (Nat.le_of_ble_eq_true rfl) ms.1 (r_div (by omega) ms V35 (by have := G_36.2.2.1; omega) (g35.rb (g33.rb (g11.rb (g9.rb (g5.rb (g3.rb (g1.rb xPq))))))) (g35.rb (g33.rb (g11.rb (g9.rb xp5)))) (by intro h0; have q4 := g4_0 h0; omega) (by omega) (by omega)) ?_
    rintro _ _ ⟨p37, rfl, V37, rfl, g37, xp37⟩
    have G_38 := G_36.trans (g37.gs _)
    refine g_iast (i := 1) rfl (ms.slot hP) (by omega) (by omega) ?_
    obtain ⟨V39, eV39⟩ : ∃ W, W = vset V37 aP 1 (p37 : Int) := ⟨_, rfl⟩
    refine g_hp (h2 := hw h V39) (by rw [eV39]; rfl) ?_
    have g39 : Gs V37 V39 o 0 (fun q => q = aP) := by rw [eV39]; exact Gs.cell hP
    have s39 : SA V39 aP p33 p37 Pr Ps := by rw [eV39]; exact SA.c1 (g37.sa hP s35) p37
    have G_40 := G_38.trans (g39.wide (fun q hq => by have hq : q = aP := hq; show q = aP; omega))
    refine g_aload_n rfl rfl ?_
    refine g_iload rfl rfl ?_
    refine g_iload rfl rfl ?_
    refine g_if_ge_f rfl (by omega) ?_
    refine g_aload_n rfl rfl ?_
    refine g_aload_n rfl rfl ?_
    refine g_iload rfl rfl ?_
    refine g_iald (i := 1) rfl (ms.slot hP) (by omega) (by omega) ?_
    refine g_top (v2 := aI ((p37 : Int))) (congrArg aI (by exact s39.2.1)) ?_
    refine g_callVI [aI ((p37 : Int))] [aI 1, aO (some aP)] rfl rfl rfl rfl (Nat.le_of_ble_eq_true rfl) ms.1 (r_neg (by omega) ms V39 (by have := G_40.2.2.1; omega) (g39.rb xp37) (by omega)) ?_
    rintro _ _ ⟨p41, rfl, V41, rfl, g41, xp41⟩
    have G_42 := G_40.trans (g41.gs _)
    refine g_goto rfl ?_
    refine g_iast (i := 1) rfl (ms.slot hP) (by omega) (by omega) ?_
    obtain ⟨V43, eV43⟩ : ∃ W, W = vset V41 aP 1 (p41 : Int) := ⟨_, rfl⟩
    refine g_hp (h2 := hw h V43) (by rw [eV43]; rfl) ?_
    have g43 : Gs V41 V43 o 0 (fun q => q = aP) := by rw [eV43]; exact Gs.cell hP
    have s43 : SA V43 aP p33 p41 Pr Ps := by rw [eV43]; exact SA.c1 (g41.sa hP s39) p41
    have G_44 := G_42.trans (g43.wide (fun q hq => by have hq : q = aP := hq; show q = aP; omega))
    refine g_iinc (l1 := [(5, aI 2), (4, aI (lcmp P.1 0)), (3, aI ((p5 : Int))), (0, aO (some o)), (1, aO (some aP)), (2, aI 2)]) rfl rfl (by omega) (by omega) rfl ?_
    refine g_goto rfl ?_
    refine g_iload rfl rfl ?_
    refine g_iconst rfl ?_
    refine g_icmp_ge_f rfl (by omega) ?_
    refine g_aload_n rfl rfl ?_
    refine g_iload rfl rfl ?_
    refine g_aload_n rfl rfl ?_
    refine g_aload_n rfl rfl ?_
    refine g_iload rfl rfl ?_
    refine g_iald (i := 2) rfl (ms.slot hP) (by omega) (by omega) ?_
    refine g_top (v2 := aI ((Pr : Int))) (congrArg aI (by exact s43.2.2.1)) ?_
    refine g_iload_n rfl rfl ?_
    refine g_callVI [aI ((Pr : Int)), aI ((p5 : Int))] [aI 2, aO (some aP)] rfl rfl rfl rfl (Nat.le_of_ble_eq_true rfl) ms.1 (r_div (by omega) ms V43 (by have := G_44.2.2.1; omega) (g43.rb (g41.rb (g39.rb (g37.rb (g35.rb (g33.rb (g11.rb (g9.rb (g5.rb (g3.rb (g1.rb xPr))))))))))) (g43.rb (g41.rb (g39.rb (g37.rb (g35.rb (g33.rb (g11.rb (g9.rb xp5)))))))) (by intro h0; have q4 := g4_0 h0; omega) (by omega) (by omega)) ?_
    rintro _ _ ⟨p45, rfl, V45, rfl, g45, xp45⟩
    have G_46 := G_44.trans (g45.gs _)
    refine g_iast (i := 2) rfl (ms.slot hP) (by omega) (by omega) ?_
    obtain ⟨V47, eV47⟩ : ∃ W, W = vset V45 aP 2 (p45 : Int) := ⟨_, rfl⟩
    refine g_hp (h2 := hw h V47) (by rw [eV47]; rfl) ?_
    have g47 : Gs V45 V47 o 0 (fun q => q = aP) := by rw [eV47]; exact Gs.cell hP
    have s47 : SA V47 aP p33 p41 p45 Ps := by rw [eV47]; exact SA.c2 (g45.sa hP s43) p45
    have G_48 := G_46.trans (g47.wide (fun q hq => by have hq : q = aP := hq; show q = aP; omega))
    refine g_aload_n rfl rfl ?_
    refine g_iload rfl rfl ?_
    refine g_iload rfl rfl ?_
    refine g_if_ge_f rfl (by omega) ?_
    refine g_aload_n rfl rfl ?_
    refine g_aload_n rfl rfl ?_
    refine g_iload rfl rfl ?_
    refine g_iald (i := 2) rfl (ms.slot hP) (by omega) (by omega) ?_
    refine g_top (v2 := aI ((p45 : Int))) (congrArg aI (by exact s47.2.2.1)) ?_
    refine g_callVI [aI ((p45 : Int))] [aI 2, aO (some aP)] rfl rfl rfl rfl (Nat.le_of_ble_eq_true rfl) ms.1 (r_neg (by omega) ms V47 (by have := G_48.2.2.1; omega) (g47.rb xp45) (by omega)) ?_
    rintro _ _ ⟨p49, rfl, V49, rfl, g49, xp49⟩
    have G_50 := G_48.trans (g49.gs _)
    refine g_goto rfl ?_
    refine g_iast (i := 2) rfl (ms.slot hP) (by omega) (by omega) ?_
    obtain ⟨V51, eV51⟩ : ∃ W, W = vset V49 aP 2 (p49 : Int) := ⟨_, rfl⟩
    refine g_hp (h2 := hw h V51) (by rw [eV51]; rfl) ?_
    have g51 : Gs V49 V51 o 0 (fun q => q = aP) := by rw [eV51]; exact Gs.cell hP
    have s51 : SA V51 aP p33 p41 p49 Ps := by rw [eV51]; exact SA.c2 (g49.sa hP s47) p49
    have G_52 := G_50.trans (g51.wide (fun q hq => by have hq : q = aP := hq; show q = aP; omega))
    refine g_iinc (l1 := [(5, aI 3), (4, aI (lcmp P.1 0)), (3, aI ((p5 : Int))), (0, aO (some o)), (1, aO (some aP)), (2, aI 2)]) rfl rfl (by omega) (by omega) rfl ?_
    refine g_goto rfl ?_
    refine g_iload rfl rfl ?_
    refine g_iconst rfl ?_
    refine g_icmp_ge_f rfl (by omega) ?_
    refine g_aload_n rfl rfl ?_
    refine g_iload rfl rfl ?_
    refine g_aload_n rfl rfl ?_
    refine g_aload_n rfl rfl ?_
    refine g_iload rfl rfl ?_
    refine g_iald (i := 3) rfl (ms.slot hP) (by omega) (by omega) ?_
    refine g_top (v2 := aI ((Ps : Int))) (congrArg aI (by exact s51.2.2.2)) ?_
    refine g_iload_n rfl rfl ?_
    refine g_callVI [aI ((Ps : Int)), aI ((p5 : Int))] [aI 3, aO (some aP)] rfl rfl rfl rfl (Nat.le_of_ble_eq_true rfl) ms.1 (r_div (by omega) ms V51 (by have := G_52.2.2.1; omega) (g51.rb (g49.rb (g47.rb (g45.rb (g43.rb (g41.rb (g39.rb (g37.rb (g35.rb (g33.rb (g11.rb (g9.rb (g5.rb (g3.rb (g1.rb xPs))))))))))))))) (g51.rb (g49.rb (g47.rb (g45.rb (g43.rb (g41.rb (g39.rb (g37.rb (g35.rb (g33.rb (g11.rb (g9.rb xp5)))))))))))) (by intro h0; have q4 := g4_0 h0; omega) (by omega) (by omega)) ?_
    rintro _ _ ⟨p53, rfl, V53, rfl, g53, xp53⟩
    have G_54 := G_52.trans (g53.gs _)
    refine g_iast (i := 3) rfl (ms.slot hP) (by omega) (by omega) ?_
    obtain ⟨V55, eV55⟩ : ∃ W, W = vset V53 aP 3 (p53 : Int) := ⟨_, rfl⟩
    refine g_hp (h2 := hw h V55) (by rw [eV55]; rfl) ?_
    have g55 : Gs V53 V55 o 0 (fun q => q = aP) := by rw [eV55]; exact Gs.cell hP
    have s55 : SA V55 aP p33 p41 p49 p53 := by rw [eV55]; exact SA.c3 (g53.sa hP s51) p53
    have G_56 := G_54.trans (g55.wide (fun q hq => by have hq : q = aP := hq; show q = aP; omega))
    refine g_aload_n rfl rfl ?_
    refine g_iload rfl rfl ?_
    refine g_iload rfl rfl ?_
    refine g_if_ge_f rfl (by omega) ?_
    refine g_aload_n rfl rfl ?_
    refine g_aload_n rfl rfl ?_
    refine g_iload rfl rfl ?_
    refine g_iald (i := 3) rfl (ms.slot hP) (by omega) (by omega) ?_
    refine g_top (v2 := aI ((p53 : Int))) (congrArg aI (by exact s55.2.2.2)) ?_
    refine g_callVI [aI ((p53 : Int))] [aI 3, aO (some aP)] rfl rfl rfl rfl (Nat.le_of_ble_eq_true rfl) ms.1 (r_neg (by omega) ms V55 (by have := G_56.2.2.1; omega) (g55.rb xp53) (by omega)) ?_
    rintro _ _ ⟨p57, rfl, V57, rfl, g57, xp57⟩
    have G_58 := G_56.trans (g57.gs _)
    refine g_goto rfl ?_
    refine g_iast (i := 3) rfl (ms.slot hP) (by omega) (by omega) ?_
    obtain ⟨V59, eV59⟩ : ∃ W, W = vset V57 aP 3 (p57 : Int) := ⟨_, rfl⟩
    refine g_hp (h2 := hw h V59) (by rw [eV59]; rfl) ?_
    have g59 : Gs V57 V59 o 0 (fun q => q = aP) := by rw [eV59]; exact Gs.cell hP
    have s59 : SA V59 aP p33 p41 p49 p57 := by rw [eV59]; exact SA.c3 (g57.sa hP s55) p57
    have G_60 := G_58.trans (g59.wide (fun q hq => by have hq : q = aP := hq; show q = aP; omega))
    refine g_iinc (l1 := [(5, aI 4), (4, aI (lcmp P.1 0)), (3, aI ((p5 : Int))), (0, aO (some o)), (1, aO (some aP)), (2, aI 2)]) rfl rfl (by omega) (by omega) rfl ?_
    refine g_goto rfl ?_
    refine g_iload rfl rfl ?_
    refine g_iconst rfl ?_
    refine g_icmp_ge_t rfl (by omega) ?_
    refine g_vret rfl ?_
    refine ⟨V59, rfl, G_60.mono (by omega), ?_⟩
    have l0 := @lcmp_0 P.1 0
    have m0 := @lcmp_lt P.1 0
    have n0 := @lcmp_gt P.1 0
    unfold m_lowR
    first
      | (rw [if_pos (by omega)]; unfold set_up)
      | (rw [if_neg (by omega)]; unfold set_dn)
    exact ⟨_, _, _, _, s59, ((g59.rb (g57.rb (g55.rb (g53.rb (g51.rb (g49.rb (g47.rb (g45.rb (g43.rb (g41.rb (g39.rb (g37.rb (g35.rb xp33))))))))))))).up (by omega)), ((g59.rb (g57.rb (g55.rb (g53.rb (g51.rb (g49.rb (g47.rb (g45.rb (g43.rb xp41))))))))).up (by omega)), ((g59.rb (g57.rb (g55.rb (g53.rb (g51.rb xp49))))).up (by omega)), ((g59.rb xp57).up (by omega))⟩
def m_foot1_S (P : T4) (L : T4) : T4 := ((P.1 * ((L.1 * L.1) + (L.2.1 * L.2.1))) - (L.1 * (1 * (m_dot_S P L))), (P.2.1 * ((L.1 * L.1) + (L.2.1 * L.2.1))) - (L.2.1 * (1 * (m_dot_S P L))), P.2.2.1 * ((L.1 * L.1) + (L.2.1 * L.2.1)), 0)
set_option maxHeartbeats 4000000 in
theorem m_foot1 {w : aW} {d : Nat} (hd : 7 ≤ d) {h : aH} {o : Nat} (ms : MS h o) (V : Nat → Nat → Int) (hF : 0 ≤ V o 1 ∧ V o 1 + 18 ≤ 700) {P : T4} (aP : Nat) (hP : SLa o aP) (tP : SB V o aP P (20)) {L : T4} (aL : Nat) (hL : SLa o aL) (tL : SB V o aL L (20)) (aU : Nat) (hU : SLa o aU)  : WP w d 300 [aO (some o), aO (some aP), aO (some aL), aI 1, aO (some aU)] (hw h V) (RN (fun h1 => ∃ V1, h1 = hw h V1 ∧ Gs V V1 o 18 (fun q => q = aU) ∧ SB V1 o aU (m_foot1_S P L) (63))) := by
  obtain ⟨d, rfl⟩ : ∃ d1, d = d1 + 1 := ⟨d - 1, by omega⟩
  refine WP.enter (cd := cd_X12_foot) rfl ?_
  have G0 := Gs.refl V o (fun q => q = aU)
  obtain ⟨Pp, Pq, Pr, Ps, sP, xPp, xPq, xPr, xPs⟩ := tP
  obtain ⟨Lp, Lq, Lr, Ls, sL, xLp, xLq, xLr, xLs⟩ := tL
  have hs_P := hP
  unfold SLa at hs_P
  have hs_L := hL
  unfold SLa at hs_L
  have hs_U := hU
  unfold SLa at hs_U
  have hls : largs 0 [aO (some o), aO (some aP), aO (some aL), aI 1, aO (some aU)] = [(0, aO (some o)), (1, aO (some aP)), (2, aO (some aL)), (3, aI 1), (4, aO (some aU))] := rfl
  rw [hls]
  clear hls
  refine g_aload_n rfl rfl ?_
  refine g_aload_n rfl rfl ?_
  refine g_aload_n rfl rfl ?_
  refine g_iconst rfl ?_
  refine g_iald (i := 0) rfl (ms.slot hL) (by omega) (by omega) ?_
  refine g_top (v2 := aI ((Lp : Int))) (congrArg aI (by exact sL.1)) ?_
  refine g_callVI [aI ((Lp : Int))] [aO (some o)] rfl rfl rfl rfl (Nat.le_of_ble_eq_true rfl) ms.1 (r_square (by omega) ms V (by have := G0.2.2.1; omega) xLp (by omega)) ?_
  rintro _ _ ⟨p1, rfl, V1, rfl, g1, xp1⟩
  have G_2 := G0.trans (g1.gs _)
  refine g_aload_n rfl rfl ?_
  refine g_aload_n rfl rfl ?_
  refine g_iconst rfl ?_
  refine g_iald (i := 1) rfl (ms.slot hL) (by omega) (by omega) ?_
  refine g_top (v2 := aI ((Lq : Int))) (congrArg aI (by exact (g1.sa hL sL).2.1)) ?_
  refine g_callVI [aI ((Lq : Int))] [aI ((p1 : Int)), aO (some o)] rfl rfl rfl rfl (Nat.le_of_ble_eq_true rfl) ms.1 (r_square (by omega) ms V1 (by have := G_2.2.2.1; omega) (g1.rb xLq) (by omega)) ?_
  rintro _ _ ⟨p3, rfl, V3, rfl, g3, xp3⟩
  have G_4 := G_2.trans (g3.gs _)
  refine g_callVI [aI ((p1 : Int)), aI ((p3 : Int))] [] rfl rfl rfl rfl (Nat.le_of_ble_eq_true rfl) ms.1 (r_add (by omega) ms V3 (by have := G_4.2.2.1; omega) (g3.rb xp1) xp3 (41) (by omega) (by omega) (by omega)) ?_
  rintro _ _ ⟨p5, rfl, V5, rfl, g5, xp5⟩
  have G_6 := G_4.trans (g5.gs _)
  refine g_istore (l1 := [(5, aI ((p5 : Int))), (0, aO (some o)), (1, aO (some aP)), (2, aO (some aL)), (3, aI 1), (4, aO (some aU))]) rfl rfl ?_
  refine g_aload_n rfl rfl ?_
  refine g_aload_n rfl rfl ?_
  refine g_iload_n rfl rfl ?_
  refine g_i2l rfl ?_
  refine g_callVI [aJ 1] [aO (some o)] rfl rfl rfl rfl (Nat.le_of_ble_eq_true rfl) ms.1 (r_num (by omega) ms V5 (by have := G_6.2.2.1; omega) 1 (by omega) 0 (by decide)) ?_
  rintro _ _ ⟨p7, rfl, V7, rfl, g7, xp7⟩
  have G_8 := G_6.trans (g7.gs _)
  refine g_aload_n rfl rfl ?_
  refine g_aload_n rfl rfl ?_
  refine g_aload_n rfl rfl ?_
  refine g_callVI [aO (some aP), aO (some aL)] [aI ((p7 : Int)), aO (some o)] rfl rfl rfl rfl (Nat.le_of_ble_eq_true rfl) ms.1 (m_dot (by omega) ms V7 (by have := G_8.2.2.1; omega) aP hP (show SB V7 o aP P (20) from ⟨_, _, _, _, (g7.sa hP (g5.sa hP (g3.sa hP (g1.sa hP sP)))), ((g7.rb (g5.rb (g3.rb (g1.rb xPp)))).up (by omega)), ((g7.rb (g5.rb (g3.rb (g1.rb xPq)))).up (by omega)), ((g7.rb (g5.rb (g3.rb (g1.rb xPr)))).up (by omega)), ((g7.rb (g5.rb (g3.rb (g1.rb xPs)))).up (by omega))⟩) aL hL (show SB V7 o aL L (20) from ⟨_, _, _, _, (g7.sa hL (g5.sa hL (g3.sa hL (g1.sa hL sL)))), ((g7.rb (g5.rb (g3.rb (g1.rb xLp)))).up (by omega)), ((g7.rb (g5.rb (g3.rb (g1.rb xLq)))).up (by omega)), ((g7.rb (g5.rb (g3.rb (g1.rb xLr)))).up (by omega)), ((g7.rb (g5.rb (g3.rb (g1.rb xLs)))).up (by omega))⟩) (by omega)) ?_
  rintro _ _ ⟨p9, rfl, V9, rfl, g9, xp9⟩
  have G_10 := G_8.trans (g9.gs _)
  refine g_callVI [aI ((p7 : Int)), aI ((p9 : Int))] [] rfl rfl rfl rfl (Nat.le_of_ble_eq_true rfl) ms.1 (r_mul (by omega) ms V9 (by have := G_10.2.2.1; omega) (g9.rb xp7) xp9 (by omega)) ?_
  rintro _ _ ⟨p11, rfl, V11, rfl, g11, xp11⟩
  have G_12 := G_10.trans (g11.gs _)
  refine g_istore (l1 := [(6, aI ((p11 : Int))), (5, aI ((p5 : Int))), (0, aO (some o)), (1, aO (some aP)), (2, aO (some aL)), (3, aI 1), (4, aO (some aU))]) rfl rfl ?_
  refine g_aload_n rfl rfl ?_
  refine g_aload rfl rfl ?_
  refine g_aload_n rfl rfl ?_
  refine g_aload_n rfl rfl ?_
  refine g_aload_n rfl rfl ?_
  refine g_iconst rfl ?_
  refine g_iald (i := 0) rfl (ms.slot hP) (by omega) (by omega) ?_
  refine g_top (v2 := aI ((Pp : Int))) (congrArg aI (by exact (g11.sa hP (g9.sa hP (g7.sa hP (g5.sa hP (g3.sa hP (g1.sa hP sP)))))).1)) ?_
  refine g_iload rfl rfl ?_
  refine g_callVI [aI ((Pp : Int)), aI ((p5 : Int))] [aO (some o), aO (some aU), aO (some o)] rfl rfl rfl rfl (Nat.le_of_ble_eq_true rfl) ms.1 (r_mul (by omega) ms V11 (by have := G_12.2.2.1; omega) (g11.rb (g9.rb (g7.rb (g5.rb (g3.rb (g1.rb xPp)))))) (g11.rb (g9.rb (g7.rb xp5))) (by omega)) ?_
  rintro _ _ ⟨p13, rfl, V13, rfl, g13, xp13⟩
  have G_14 := G_12.trans (g13.gs _)
  refine g_aload_n rfl rfl ?_
  refine g_aload_n rfl rfl ?_
  refine g_iconst rfl ?_
  refine g_iald (i := 0) rfl (ms.slot hL) (by omega) (by omega) ?_
  refine g_top (v2 := aI ((Lp : Int))) (congrArg aI (by exact (g13.sa hL (g11.sa hL (g9.sa hL (g7.sa hL (g5.sa hL (g3.sa hL (g1.sa hL sL))))))).1)) ?_
  refine g_iload rfl rfl ?_
  refine g_callVI [aI ((Lp : Int)), aI ((p11 : Int))] [aI ((p13 : Int)), aO (some o), aO (some aU), aO (some o)] rfl rfl rfl rfl (Nat.le_of_ble_eq_true rfl) ms.1 (r_mul (by omega) ms V13 (by have := G_14.2.2.1; omega) (g13.rb (g11.rb (g9.rb (g7.rb (g5.rb (g3.rb (g1.rb xLp))))))) (g13.rb xp11) (by omega)) ?_
  rintro _ _ ⟨p15, rfl, V15, rfl, g15, xp15⟩
  have G_16 := G_14.trans (g15.gs _)
  refine g_callVI [aI ((p13 : Int)), aI ((p15 : Int))] [aO (some aU), aO (some o)] rfl rfl rfl rfl (Nat.le_of_ble_eq_true rfl) ms.1 (r_sub (by omega) ms V15 (by have := G_16.2.2.1; omega) (g15.rb xp13) xp15 (63) (by omega) (by omega) (by omega)) ?_
  rintro _ _ ⟨p17, rfl, V17, rfl, g17, xp17⟩
  have G_18 := G_16.trans (g17.gs _)
  refine g_aload_n rfl rfl ?_
  refine g_aload_n rfl rfl ?_
  refine g_aload_n rfl rfl ?_
  refine g_iconst rfl ?_
  refine g_iald (i := 1) rfl (ms.slot hP) (by omega) (by omega) ?_
  refine g_top (v2 := aI ((Pq : Int))) (congrArg aI (by exact (g17.sa hP (g15.sa hP (g13.sa hP (g11.sa hP (g9.sa hP (g7.sa hP (g5.sa hP (g3.sa hP (g1.sa hP sP))))))))).2.1)) ?_
  refine g_iload rfl rfl ?_
  refine g_callVI [aI ((Pq : Int)), aI ((p5 : Int))] [aO (some o), aI ((p17 : Int)), aO (some aU), aO (some o)] rfl rfl rfl rfl (Nat.le_of_ble_eq_true rfl) ms.1 (r_mul (by omega) ms V17 (by have := G_18.2.2.1; omega) (g17.rb (g15.rb (g13.rb (g11.rb (g9.rb (g7.rb (g5.rb (g3.rb (g1.rb xPq))))))))) (g17.rb (g15.rb (g13.rb (g11.rb (g9.rb (g7.rb xp5)))))) (by omega)) ?_
  rintro _ _ ⟨p19, rfl, V19, rfl, g19, xp19⟩
  have G_20 := G_18.trans (g19.gs _)
  refine g_aload_n rfl rfl ?_
  refine g_aload_n rfl rfl ?_
  refine g_iconst rfl ?_
  refine g_iald (i := 1) rfl (ms.slot hL) (by omega) (by omega) ?_
  refine g_top (v2 := aI ((Lq : Int))) (congrArg aI (by exact (g19.sa hL (g17.sa hL (g15.sa hL (g13.sa hL (g11.sa hL (g9.sa hL (g7.sa hL (g5.sa hL (g3.sa hL (g1.sa hL sL)))))))))).2.1)) ?_
  refine g_iload rfl rfl ?_
  refine g_callVI [aI ((Lq : Int)), aI ((p11 : Int))] [aI ((p19 : Int)), aO (some o), aI ((p17 : Int)), aO (some aU), aO (some o)] rfl rfl rfl rfl (Nat.le_of_ble_eq_true rfl) ms.1 (r_mul (by omega) ms V19 (by have := G_20.2.2.1; omega) (g19.rb (g17.rb (g15.rb (g13.rb (g11.rb (g9.rb (g7.rb (g5.rb (g3.rb (g1.rb xLq)))))))))) (g19.rb (g17.rb (g15.rb (g13.rb xp11)))) (by omega)) ?_
  rintro _ _ ⟨p21, rfl, V21, rfl, g21, xp21⟩
  have G_22 := G_20.trans (g21.gs _)
  refine g_callVI [aI ((p19 : Int)), aI ((p21 : Int))] [aI ((p17 : Int)), aO (some aU), aO (some o)] rfl rfl rfl rfl (Nat.le_of_ble_eq_true rfl) ms.1 (r_sub (by omega) ms V21 (by have := G_22.2.2.1; omega) (g21.rb xp19) xp21 (63) (by omega) (by omega) (by omega)) ?_
  rintro _ _ ⟨p23, rfl, V23, rfl, g23, xp23⟩
  have G_24 := G_22.trans (g23.gs _)
  refine g_aload_n rfl rfl ?_
  refine g_aload_n rfl rfl ?_
  refine g_iconst rfl ?_
  refine g_iald (i := 2) rfl (ms.slot hP) (by omega) (by omega) ?_
  refine g_top (v2 := aI ((Pr : Int))) (congrArg aI (by exact (g23.sa hP (g21.sa hP (g19.sa hP (g17.sa hP (g15.sa hP (g13.sa hP (g11.sa hP (g9.sa hP (g7.sa hP (g5.sa hP (g3.sa hP (g1.sa hP sP)))))))))))).2.2.1)) ?_
  refine g_iload rfl rfl ?_
  refine g_callVI [aI ((Pr : Int)), aI ((p5 : Int))] [aI ((p23 : Int)), aI ((p17 : Int)), aO (some aU), aO (some o)] rfl rfl rfl rfl (Nat.le_of_ble_eq_true rfl) ms.1 (r_mul (by omega) ms V23 (by have := G_24.2.2.1; omega) (g23.rb (g21.rb (g19.rb (g17.rb (g15.rb (g13.rb (g11.rb (g9.rb (g7.rb (g5.rb (g3.rb (g1.rb xPr)))))))))))) (g23.rb (g21.rb (g19.rb (g17.rb (g15.rb (g13.rb (g11.rb (g9.rb (g7.rb xp5))))))))) (by omega)) ?_
  rintro _ _ ⟨p25, rfl, V25, rfl, g25, xp25⟩
  have G_26 := G_24.trans (g25.gs _)
  refine g_callVN [aO (some aU), aI ((p17 : Int)), aI ((p23 : Int)), aI ((p25 : Int))] [] rfl rfl rfl rfl (Nat.le_of_ble_eq_true rfl) ms.1 (m_put (by omega) ms V25 (by have := G_26.2.2.1; omega) aU hU p17 p23 p25) ?_
  rintro _ ⟨V27, rfl, p27, g27, s27, xp27⟩
  have G_28 := G_26.trans (g27.wide (fun q hq => by have hq : q = aU := hq; show q = aU; omega))
  refine g_vret rfl ?_
  exact ⟨V27, rfl, G_28.mono (by omega), _, _, _, _, s27, ((g27.rb (g25.rb (g23.rb (g21.rb (g19.rb xp17))))).up (by omega)), ((g27.rb (g25.rb xp23)).up (by omega)), ((g27.rb xp25).up (by omega)), (xp27.up (by omega))⟩
def m_foot2_S (P : T4) (L : T4) : T4 := ((P.1 * ((L.1 * L.1) + (L.2.1 * L.2.1))) - (L.1 * (2 * (m_dot_S P L))), (P.2.1 * ((L.1 * L.1) + (L.2.1 * L.2.1))) - (L.2.1 * (2 * (m_dot_S P L))), P.2.2.1 * ((L.1 * L.1) + (L.2.1 * L.2.1)), 0)
set_option maxHeartbeats 4000000 in
theorem m_foot2 {w : aW} {d : Nat} (hd : 7 ≤ d) {h : aH} {o : Nat} (ms : MS h o) (V : Nat → Nat → Int) (hF : 0 ≤ V o 1 ∧ V o 1 + 18 ≤ 700) {P : T4} (aP : Nat) (hP : SLa o aP) (tP : SB V o aP P (20)) {L : T4} (aL : Nat) (hL : SLa o aL) (tL : SB V o aL L (20)) (aU : Nat) (hU : SLa o aU)  : WP w d 300 [aO (some o), aO (some aP), aO (some aL), aI 2, aO (some aU)] (hw h V) (RN (fun h1 => ∃ V1, h1 = hw h V1 ∧ Gs V V1 o 18 (fun q => q = aU) ∧ SB V1 o aU (m_foot2_S P L) (64))) := by
  obtain ⟨d, rfl⟩ : ∃ d1, d = d1 + 1 := ⟨d - 1, by omega⟩
  refine WP.enter (cd := cd_X12_foot) rfl ?_
  have G0 := Gs.refl V o (fun q => q = aU)
  obtain ⟨Pp, Pq, Pr, Ps, sP, xPp, xPq, xPr, xPs⟩ := tP
  obtain ⟨Lp, Lq, Lr, Ls, sL, xLp, xLq, xLr, xLs⟩ := tL
  have hs_P := hP
  unfold SLa at hs_P
  have hs_L := hL
  unfold SLa at hs_L
  have hs_U := hU
  unfold SLa at hs_U
  have hls : largs 0 [aO (some o), aO (some aP), aO (some aL), aI 2, aO (some aU)] = [(0, aO (some o)), (1, aO (some aP)), (2, aO (some aL)), (3, aI 2), (4, aO (some aU))] := rfl
  rw [hls]
  clear hls
  refine g_aload_n rfl rfl ?_
  refine g_aload_n rfl rfl ?_
  refine g_aload_n rfl rfl ?_
  refine g_iconst rfl ?_
  refine g_iald (i := 0) rfl (ms.slot hL) (by omega) (by omega) ?_
  refine g_top (v2 := aI ((Lp : Int))) (congrArg aI (by exact sL.1)) ?_
  refine g_callVI [aI ((Lp : Int))] [aO (some o)] rfl rfl rfl rfl (Nat.le_of_ble_eq_true rfl) ms.1 (r_square (by omega) ms V (by have := G0.2.2.1; omega) xLp (by omega)) ?_
  rintro _ _ ⟨p1, rfl, V1, rfl, g1, xp1⟩
  have G_2 := G0.trans (g1.gs _)
  refine g_aload_n rfl rfl ?_
  refine g_aload_n rfl rfl ?_
  refine g_iconst rfl ?_
  refine g_iald (i := 1) rfl (ms.slot hL) (by omega) (by omega) ?_
  refine g_top (v2 := aI ((Lq : Int))) (congrArg aI (by exact (g1.sa hL sL).2.1)) ?_
  refine g_callVI [aI ((Lq : Int))] [aI ((p1 : Int)), aO (some o)] rfl rfl rfl rfl (Nat.le_of_ble_eq_true rfl) ms.1 (r_square (by omega) ms V1 (by have := G_2.2.2.1; omega) (g1.rb xLq) (by omega)) ?_
  rintro _ _ ⟨p3, rfl, V3, rfl, g3, xp3⟩
  have G_4 := G_2.trans (g3.gs _)
  refine g_callVI [aI ((p1 : Int)), aI ((p3 : Int))] [] rfl rfl rfl rfl (Nat.le_of_ble_eq_true rfl) ms.1 (r_add (by omega) ms V3 (by have := G_4.2.2.1; omega) (g3.rb xp1) xp3 (41) (by omega) (by omega) (by omega)) ?_
  rintro _ _ ⟨p5, rfl, V5, rfl, g5, xp5⟩
  have G_6 := G_4.trans (g5.gs _)
  refine g_istore (l1 := [(5, aI ((p5 : Int))), (0, aO (some o)), (1, aO (some aP)), (2, aO (some aL)), (3, aI 2), (4, aO (some aU))]) rfl rfl ?_
  refine g_aload_n rfl rfl ?_
  refine g_aload_n rfl rfl ?_
  refine g_iload_n rfl rfl ?_
  refine g_i2l rfl ?_
  refine g_callVI [aJ 2] [aO (some o)] rfl rfl rfl rfl (Nat.le_of_ble_eq_true rfl) ms.1 (r_num (by omega) ms V5 (by have := G_6.2.2.1; omega) 2 (by omega) 1 (by decide)) ?_
  rintro _ _ ⟨p7, rfl, V7, rfl, g7, xp7⟩
  have G_8 := G_6.trans (g7.gs _)
  refine g_aload_n rfl rfl ?_
  refine g_aload_n rfl rfl ?_
  refine g_aload_n rfl rfl ?_
  refine g_callVI [aO (some aP), aO (some aL)] [aI ((p7 : Int)), aO (some o)] rfl rfl rfl rfl (Nat.le_of_ble_eq_true rfl) ms.1 (m_dot (by omega) ms V7 (by have := G_8.2.2.1; omega) aP hP (show SB V7 o aP P (20) from ⟨_, _, _, _, (g7.sa hP (g5.sa hP (g3.sa hP (g1.sa hP sP)))), ((g7.rb (g5.rb (g3.rb (g1.rb xPp)))).up (by omega)), ((g7.rb (g5.rb (g3.rb (g1.rb xPq)))).up (by omega)), ((g7.rb (g5.rb (g3.rb (g1.rb xPr)))).up (by omega)), ((g7.rb (g5.rb (g3.rb (g1.rb xPs)))).up (by omega))⟩) aL hL (show SB V7 o aL L (20) from ⟨_, _, _, _, (g7.sa hL (g5.sa hL (g3.sa hL (g1.sa hL sL)))), ((g7.rb (g5.rb (g3.rb (g1.rb xLp)))).up (by omega)), ((g7.rb (g5.rb (g3.rb (g1.rb xLq)))).up (by omega)), ((g7.rb (g5.rb (g3.rb (g1.rb xLr)))).up (by omega)), ((g7.rb (g5.rb (g3.rb (g1.rb xLs)))).up (by omega))⟩) (by omega)) ?_
  rintro _ _ ⟨p9, rfl, V9, rfl, g9, xp9⟩
  have G_10 := G_8.trans (g9.gs _)
  refine g_callVI [aI ((p7 : Int)), aI ((p9 : Int))] [] rfl rfl rfl rfl (Nat.le_of_ble_eq_true rfl) ms.1 (r_mul (by omega) ms V9 (by have := G_10.2.2.1; omega) (g9.rb xp7) xp9 (by omega)) ?_
  rintro _ _ ⟨p11, rfl, V11, rfl, g11, xp11⟩
  have G_12 := G_10.trans (g11.gs _)
  refine g_istore (l1 := [(6, aI ((p11 : Int))), (5, aI ((p5 : Int))), (0, aO (some o)), (1, aO (some aP)), (2, aO (some aL)), (3, aI 2), (4, aO (some aU))]) rfl rfl ?_
  refine g_aload_n rfl rfl ?_
  refine g_aload rfl rfl ?_
  refine g_aload_n rfl rfl ?_
  refine g_aload_n rfl rfl ?_
  refine g_aload_n rfl rfl ?_
  refine g_iconst rfl ?_
  refine g_iald (i := 0) rfl (ms.slot hP) (by omega) (by omega) ?_
  refine g_top (v2 := aI ((Pp : Int))) (congrArg aI (by exact (g11.sa hP (g9.sa hP (g7.sa hP (g5.sa hP (g3.sa hP (g1.sa hP sP)))))).1)) ?_
  refine g_iload rfl rfl ?_
  refine g_callVI [aI ((Pp : Int)), aI ((p5 : Int))] [aO (some o), aO (some aU), aO (some o)] rfl rfl rfl rfl (Nat.le_of_ble_eq_true rfl) ms.1 (r_mul (by omega) ms V11 (by have := G_12.2.2.1; omega) (g11.rb (g9.rb (g7.rb (g5.rb (g3.rb (g1.rb xPp)))))) (g11.rb (g9.rb (g7.rb xp5))) (by omega)) ?_
  rintro _ _ ⟨p13, rfl, V13, rfl, g13, xp13⟩
  have G_14 := G_12.trans (g13.gs _)
  refine g_aload_n rfl rfl ?_
  refine g_aload_n rfl rfl ?_
  refine g_iconst rfl ?_
  refine g_iald (i := 0) rfl (ms.slot hL) (by omega) (by omega) ?_
  refine g_top (v2 := aI ((Lp : Int))) (congrArg aI (by exact (g13.sa hL (g11.sa hL (g9.sa hL (g7.sa hL (g5.sa hL (g3.sa hL (g1.sa hL sL))))))).1)) ?_
  refine g_iload rfl rfl ?_
  refine g_callVI [aI ((Lp : Int)), aI ((p11 : Int))] [aI ((p13 : Int)), aO (some o), aO (some aU), aO (some o)] rfl rfl rfl rfl (Nat.le_of_ble_eq_true rfl) ms.1 (r_mul (by omega) ms V13 (by have := G_14.2.2.1; omega) (g13.rb (g11.rb (g9.rb (g7.rb (g5.rb (g3.rb (g1.rb xLp))))))) (g13.rb xp11) (by omega)) ?_
  rintro _ _ ⟨p15, rfl, V15, rfl, g15, xp15⟩
  have G_16 := G_14.trans (g15.gs _)
  refine g_callVI [aI ((p13 : Int)), aI ((p15 : Int))] [aO (some aU), aO (some o)] rfl rfl rfl rfl (Nat.le_of_ble_eq_true rfl) ms.1 (r_sub (by omega) ms V15 (by have := G_16.2.2.1; omega) (g15.rb xp13) xp15 (64) (by omega) (by omega) (by omega)) ?_
  rintro _ _ ⟨p17, rfl, V17, rfl, g17, xp17⟩
  have G_18 := G_16.trans (g17.gs _)
  refine g_aload_n rfl rfl ?_
  refine g_aload_n rfl rfl ?_
  refine g_aload_n rfl rfl ?_
  refine g_iconst rfl ?_
  refine g_iald (i := 1) rfl (ms.slot hP) (by omega) (by omega) ?_
  refine g_top (v2 := aI ((Pq : Int))) (congrArg aI (by exact (g17.sa hP (g15.sa hP (g13.sa hP (g11.sa hP (g9.sa hP (g7.sa hP (g5.sa hP (g3.sa hP (g1.sa hP sP))))))))).2.1)) ?_
  refine g_iload rfl rfl ?_
  refine g_callVI [aI ((Pq : Int)), aI ((p5 : Int))] [aO (some o), aI ((p17 : Int)), aO (some aU), aO (some o)] rfl rfl rfl rfl (Nat.le_of_ble_eq_true rfl) ms.1 (r_mul (by omega) ms V17 (by have := G_18.2.2.1; omega) (g17.rb (g15.rb (g13.rb (g11.rb (g9.rb (g7.rb (g5.rb (g3.rb (g1.rb xPq))))))))) (g17.rb (g15.rb (g13.rb (g11.rb (g9.rb (g7.rb xp5)))))) (by omega)) ?_
  rintro _ _ ⟨p19, rfl, V19, rfl, g19, xp19⟩
  have G_20 := G_18.trans (g19.gs _)
  refine g_aload_n rfl rfl ?_
  refine g_aload_n rfl rfl ?_
  refine g_iconst rfl ?_
  refine g_iald (i := 1) rfl (ms.slot hL) (by omega) (by omega) ?_
  refine g_top (v2 := aI ((Lq : Int))) (congrArg aI (by exact (g19.sa hL (g17.sa hL (g15.sa hL (g13.sa hL (g11.sa hL (g9.sa hL (g7.sa hL (g5.sa hL (g3.sa hL (g1.sa hL sL)))))))))).2.1)) ?_
  refine g_iload rfl rfl ?_
  refine g_callVI [aI ((Lq : Int)), aI ((p11 : Int))] [aI ((p19 : Int)), aO (some o), aI ((p17 : Int)), aO (some aU), aO (some o)] rfl rfl rfl rfl (Nat.le_of_ble_eq_true rfl) ms.1 (r_mul (by omega) ms V19 (by have := G_20.2.2.1; omega) (g19.rb (g17.rb (g15.rb (g13.rb (g11.rb (g9.rb (g7.rb (g5.rb (g3.rb (g1.rb xLq)))))))))) (g19.rb (g17.rb (g15.rb (g13.rb xp11)))) (by omega)) ?_
  rintro _ _ ⟨p21, rfl, V21, rfl, g21, xp21⟩
  have G_22 := G_20.trans (g21.gs _)
  refine g_callVI [aI ((p19 : Int)), aI ((p21 : Int))] [aI ((p17 : Int)), aO (some aU), aO (some o)] rfl rfl rfl rfl (Nat.le_of_ble_eq_true rfl) ms.1 (r_sub (by omega) ms V21 (by have := G_22.2.2.1; omega) (g21.rb xp19) xp21 (64) (by omega) (by omega) (by omega)) ?_
  rintro _ _ ⟨p23, rfl, V23, rfl, g23, xp23⟩
  have G_24 := G_22.trans (g23.gs _)
  refine g_aload_n rfl rfl ?_
  refine g_aload_n rfl rfl ?_
  refine g_iconst rfl ?_
  refine g_iald (i := 2) rfl (ms.slot hP) (by omega) (by omega) ?_
  refine g_top (v2 := aI ((Pr : Int))) (congrArg aI (by exact (g23.sa hP (g21.sa hP (g19.sa hP (g17.sa hP (g15.sa hP (g13.sa hP (g11.sa hP (g9.sa hP (g7.sa hP (g5.sa hP (g3.sa hP (g1.sa hP sP)))))))))))).2.2.1)) ?_
  refine g_iload rfl rfl ?_
  refine g_callVI [aI ((Pr : Int)), aI ((p5 : Int))] [aI ((p23 : Int)), aI ((p17 : Int)), aO (some aU), aO (some o)] rfl rfl rfl rfl (Nat.le_of_ble_eq_true rfl) ms.1 (r_mul (by omega) ms V23 (by have := G_24.2.2.1; omega) (g23.rb (g21.rb (g19.rb (g17.rb (g15.rb (g13.rb (g11.rb (g9.rb (g7.rb (g5.rb (g3.rb (g1.rb xPr)))))))))))) (g23.rb (g21.rb (g19.rb (g17.rb (g15.rb (g13.rb (g11.rb (g9.rb (g7.rb xp5))))))))) (by omega)) ?_
  rintro _ _ ⟨p25, rfl, V25, rfl, g25, xp25⟩
  have G_26 := G_24.trans (g25.gs _)
  refine g_callVN [aO (some aU), aI ((p17 : Int)), aI ((p23 : Int)), aI ((p25 : Int))] [] rfl rfl rfl rfl (Nat.le_of_ble_eq_true rfl) ms.1 (m_put (by omega) ms V25 (by have := G_26.2.2.1; omega) aU hU p17 p23 p25) ?_
  rintro _ ⟨V27, rfl, p27, g27, s27, xp27⟩
  have G_28 := G_26.trans (g27.wide (fun q hq => by have hq : q = aU := hq; show q = aU; omega))
  refine g_vret rfl ?_
  exact ⟨V27, rfl, G_28.mono (by omega), _, _, _, _, s27, ((g27.rb (g25.rb (g23.rb (g21.rb (g19.rb xp17))))).up (by omega)), ((g27.rb (g25.rb xp23)).up (by omega)), ((g27.rb xp25).up (by omega)), (xp27.up (by omega))⟩
