/-! the class's whole numbers, on: quotients: printed by wip/whole/b7.py -/
theorem Gr.wrs {h h1 : aH} {c n : Nat} (g : Gr h h1 c n) (L : List Nat) (hL : ∀ p ∈ L, WO h1 p ∧ c + 67 ≤ p ∧ Dd h c p) {V : Nat → Nat → Int} (hv : ∀ a, (∀ p ∈ L, a ≠ p + 1) → V a = hV h1 a) : Gr h (hw h1 V) c n := by
  obtain ⟨a1, a2, a3, a4, a5, a6, a7, a8⟩ := g
  have e1 : V (c + 1) 1 = hV h1 (c + 1) 1 := by rw [hv _ (fun p hp => by have := (hL p hp).2.1; omega)]
  refine ⟨a1.put e1, a2, a3, a4, a5, fun a ha hc hk => ?_, ?_, fun q z x => ?_⟩
  · show V a = hV h a
    rw [hv a fun p hp e => ?_, a6 a ha hc hk]
    rcases hk with hk | hk
    · rw [← a4 a ha, e, (hL p hp).1.2.2] at hk
      exact absurd rfl hk
    · have := (hL p hp).2.1
      omega
  · show hV h (c + 1) 1 ≤ V (c + 1) 1 ∧ V (c + 1) 1 ≤ hV h (c + 1) 1 + n
    rw [e1]
    exact a7
  · obtain ⟨b1, b2, b3, b4, b5⟩ := a8 q z x
    refine ⟨b1, b2, b3, ?_, fun i hi h2 => ?_⟩
    · show LV (V (q + 1)) z
      rw [hv _ fun p hp e => (hL p hp).2.2 q z x (by omega)]
      exact b4
    · show (i : Int) < V (c + 1) 1
      rw [e1]
      exact b5 i hi h2
theorem WV.any {h1 : aH} {c p : Nat} {z0 z : Int} (x : WV h1 c p z0) {V : Nat → Nat → Int} (hv : V (c + 1) 1 = hV h1 (c + 1) 1) (l : LV (V (p + 1)) z) : WV (hw h1 V) c p z := by
  obtain ⟨b1, b2, b3, b4, b5⟩ := x
  refine ⟨b1, b2, b3, l, fun i hi h2 => ?_⟩
  show (i : Int) < V (c + 1) 1
  rw [hv]
  exact b5 i hi h2
/-- the quotient towards 0; of 0 the number itself -/
def quo (x y : Int) : Int := if y = 0 then x else x.tdiv y
theorem quo_sign {x y : Int} (hy : y ≠ 0) : x.tdiv y = if lcmp x 0 = lcmp y 0 then ((x.natAbs / y.natAbs : Nat) : Int) else -((x.natAbs / y.natAbs : Nat) : Int) := by
  have key : ∀ a b : Nat, ((a : Int)).tdiv (b : Int) = ((a / b : Nat) : Int) := fun a b => Int.ofNat_tdiv a b
  have l1 : ∀ z : Int, z < 0 → lcmp z 0 = -1 := fun z q => by unfold lcmp; rw [if_pos q]
  have l2 : ∀ z : Int, 0 < z → lcmp z 0 = 1 := fun z q => by unfold lcmp; rw [if_neg (by omega), if_neg (by omega)]
  rcases Int.lt_trichotomy x 0 with q | q | q
  · have ex : x = -(x.natAbs : Int) := by omega
    rcases Int.lt_trichotomy y 0 with u | u | u
    · have ey : y = -(y.natAbs : Int) := by omega
      rw [l1 x q, l1 y u, if_pos rfl]
      conv => lhs; rw [ex, ey]
      rw [Int.neg_tdiv, Int.tdiv_neg, Int.neg_neg, key]
    · exact absurd u hy
    · have ey : y = (y.natAbs : Int) := by omega
      rw [l1 x q, l2 y u, if_neg (by decide)]
      conv => lhs; rw [ex, ey]
      rw [Int.neg_tdiv, key]
  · rw [q]
    rw [Int.zero_tdiv]
    simp
  · have ex : x = (x.natAbs : Int) := by omega
    rcases Int.lt_trichotomy y 0 with u | u | u
    · have ey : y = -(y.natAbs : Int) := by omega
      rw [l2 x q, l1 y u, if_neg (by decide)]
      conv => lhs; rw [ex, ey]
      rw [Int.tdiv_neg, key]
    · exact absurd u hy
    · have ey : y = (y.natAbs : Int) := by omega
      rw [l2 x q, l2 y u, if_pos rfl]
      conv => lhs; rw [ex, ey]
      rw [key]
/-- what the long division keeps -/
def QI (X Y R P Q n : Nat) : Prop := Q * 2 ^ n * Y + R = X ∧ R < Y * 2 ^ n ∧ (0 < n → P = Y * 2 ^ (n - 1))
theorem QI_yes {X Y R P Q n : Nat} (h : QI X Y R P Q (n + 1)) (hP : P ≤ R) : QI X Y (R - P) (P / 2) (2 * Q + 1) n := by
  obtain ⟨h1, h2, h3⟩ := h
  have h4 := h3 (by omega)
  rw [Nat.add_sub_cancel] at h4
  rw [Nat.pow_succ] at h1 h2
  have e1 : (2 * Q + 1) * 2 ^ n * Y = Q * (2 ^ n * 2) * Y + Y * 2 ^ n := by grind
  have e2 : Y * (2 ^ n * 2) = 2 * (Y * 2 ^ n) := by grind
  refine ⟨by omega, by omega, fun hn => ?_⟩
  obtain ⟨k, rfl⟩ : ∃ k, n = k + 1 := ⟨n - 1, by omega⟩
  rw [Nat.add_sub_cancel, h4, Nat.pow_succ, ← Nat.mul_assoc, Nat.mul_div_cancel _ (by decide)]
theorem QI_no {X Y R P Q n : Nat} (h : QI X Y R P Q (n + 1)) (hP : R < P) : QI X Y R (P / 2) (2 * Q) n := by
  obtain ⟨h1, h2, h3⟩ := h
  have h4 := h3 (by omega)
  rw [Nat.add_sub_cancel] at h4
  rw [Nat.pow_succ] at h1 h2
  have e1 : 2 * Q * 2 ^ n * Y = Q * (2 ^ n * 2) * Y := by grind
  refine ⟨by omega, by omega, fun hn => ?_⟩
  obtain ⟨k, rfl⟩ : ∃ k, n = k + 1 := ⟨n - 1, by omega⟩
  rw [Nat.add_sub_cancel, h4, Nat.pow_succ, ← Nat.mul_assoc, Nat.mul_div_cancel _ (by decide)]
theorem QI_end {X Y R P Q : Nat} (h : QI X Y R P Q 0) : Q = X / Y := by
  obtain ⟨h1, h2, -⟩ := h
  rw [Nat.pow_zero, Nat.mul_one] at h1 h2
  rw [← h1, Nat.mul_comm Q Y, Nat.mul_add_div (by omega), Nat.div_eq_of_lt h2, Nat.add_zero]
theorem QI_start {X Y bx b : Nat} (hY : 0 < Y) (h1 : BL X bx) (h2 : BL Y b) : QI X Y X (Y * 2 ^ ((bx : Int) - b).toNat) 0 ((bx : Int) - b + 1).toNat ∧ Y * 2 ^ ((bx : Int) - b).toNat ≤ 2 ^ (if b ≤ bx then bx else b) := by
  have hb0 : b ≠ 0 := fun e => by
    have := h2.1
    rw [e] at this
    omega
  have h3 : 2 ^ (b - 1) ≤ Y := by
    rcases h2.2 with q | q
    · exact absurd q hb0
    · have q1 : ((2 ^ (b - 1) : Nat) : Int) ≤ (Y : Int) := by rw [Int.natCast_pow]; exact q
      omega
  have h4 : X < 2 ^ bx := by
    have q1 : (X : Int) < ((2 ^ bx : Nat) : Int) := by rw [Int.natCast_pow]; exact h1.1
    omega
  have h5 : Y < 2 ^ b := by
    have q1 : (Y : Int) < ((2 ^ b : Nat) : Int) := by rw [Int.natCast_pow]; exact h2.1
    omega
  by_cases q : b ≤ bx
  · rw [show ((bx : Int) - b).toNat = bx - b by omega, show ((bx : Int) - b + 1).toNat = bx - b + 1 by omega, if_pos q]
    refine ⟨⟨by omega, ?_, fun _ => by rw [Nat.add_sub_cancel]⟩, ?_⟩
    · have h6 := Nat.mul_le_mul_right (2 ^ (bx - b + 1)) h3
      rw [← Nat.pow_add, show b - 1 + (bx - b + 1) = bx by omega] at h6
      omega
    · have h6 := Nat.mul_le_mul_right (2 ^ (bx - b)) (Nat.le_of_lt h5)
      rw [← Nat.pow_add, show b + (bx - b) = bx by omega] at h6
      exact h6
  · rw [show ((bx : Int) - b).toNat = 0 by omega, show ((bx : Int) - b + 1).toNat = 0 by omega, if_neg q]
    have h7 := Nat.pow_le_pow_right (show 0 < 2 by decide) (show bx ≤ b - 1 by omega)
    refine ⟨⟨by omega, by omega, fun u => by omega⟩, by omega⟩
theorem BL_b {u : Int} {n k : Nat} (h : BL u n) (hu : u ≤ 2 ^ k) : n ≤ k + 1 := by
  rcases h.2 with q | q
  · omega
  · refine Classical.byContradiction fun q2 => ?_
    have h1 := pw_le (show k + 1 ≤ n - 1 by omega)
    rw [Int.pow_succ] at h1
    have := pw_pos k
    omega
theorem halfLV {V V1 : Nat → Nat → Int} {a P : Nat} (l : LV (V (a + 1)) (P : Int)) (u : UP V (a + 1) V1 (uv (V (a + 1)) 12 / 2)) : LV (V1 (a + 1)) ((P / 2 : Nat) : Int) := by
  have hr := sv_b (l.1 11 (by omega))
  rw [l.2] at hr
  have h2 : (0 : Int) < 4294967296 ^ 11 := bp_pos 11
  refine LV_of u.2.1 ?_ (by omega) (by omega)
  rw [u.2.2, l.pos (Int.natCast_nonneg _)]
  rfl
theorem setLV {V V1 : Nat → Nat → Int} {a Q n : Nat} (l : LV (V (a + 1)) ((Q * 2 ^ (n + 1) : Nat) : Int)) (hn : n < 383) (u : UP V (a + 1) V1 (uv (V (a + 1)) 12 + 2 ^ n)) : LV (V1 (a + 1)) (((2 * Q + 1) * 2 ^ n : Nat) : Int) := by
  have hr := sv_b (l.1 11 (by omega))
  rw [l.2] at hr
  have e : (2 * Q + 1) * 2 ^ n = Q * 2 ^ (n + 1) + 2 ^ n := by rw [Nat.pow_succ]; grind
  have h3 : (2147483648 : Int) * 4294967296 ^ 11 = ((2 ^ 383 : Nat) : Int) := by decide
  have h4 : Q * 2 ^ (n + 1) + 2 ^ n < 2 ^ 383 := by
    have h5 : Q * 2 ^ (n + 1) < 2 ^ 383 := by omega
    have h6 : (2 : Nat) ^ 383 = 2 ^ (382 - n) * 2 ^ (n + 1) := by rw [← Nat.pow_add]; congr 1; omega
    rw [h6] at h5 ⊢
    have h7 := Nat.lt_of_mul_lt_mul_right h5
    have h8 := Nat.mul_le_mul_right (2 ^ (n + 1)) (show Q + 1 ≤ 2 ^ (382 - n) by omega)
    rw [Nat.add_mul, Nat.one_mul] at h8
    have h9 : 2 ^ n < 2 ^ (n + 1) := Nat.pow_lt_pow_right (by decide) (by omega)
    omega
  rw [e]
  refine LV_of u.2.1 ?_ (by have : (0 : Int) ≤ ((Q * 2 ^ (n + 1) + 2 ^ n : Nat) : Int) := Int.natCast_nonneg _; omega) (by omega)
  rw [u.2.2, l.pos (Int.natCast_nonneg _), Int.natCast_add (Q * 2 ^ (n + 1)), Int.natCast_pow]
  rfl
set_option maxHeartbeats 4000000 in
theorem s_quo {w : aW} {d : Nat} (hd : 4 ≤ d) {h : aH} {c : Nat} (ci : CI h c) {a : Nat} {x : Int} {j : Nat} (wa : WB h c a x j) {b : Nat} {y : Int} {k : Nat} (wb : WB h c b y k) (hj : j ≤ 382) (hk : k ≤ 382) : WP w d 184 [aO (some (c + 1)), aO (some a), aO (some b)] h (RO (fun r h1 => ∃ p, r = some p ∧ Gr h h1 c 4 ∧ WB h1 c p (quo x y) j)) := by
  obtain ⟨d, rfl⟩ : ∃ d1, d = d1 + 1 := ⟨d - 1, by omega⟩
  refine WP.enter (cd := cd_X7_quotient) rfl ?_
  have hls : largs 0 [aO (some (c + 1)), aO (some a), aO (some b)] = [(0, aO (some (c + 1))), (1, aO (some a)), (2, aO (some b))] := rfl
  rw [hls]
  clear hls
  have l55 : ∀ (h3 : aH) (p q t X Y : Nat) (sh : Int), (Gr h h3 c 3) → (WB h3 c p (x.natAbs : Int) j) → (WB h3 c q (y.natAbs : Int) k) → (WV h3 c t 0) → (Dd h c p) → (Dd h c q) → (Dd h c t) → (p ≠ q) → (p ≠ t) → (q ≠ t) → (X = x.natAbs) → (Y = y.natAbs) → (y ≠ 0) → ∀ (fuel : Nat) (i : Int) (R P Q : Nat) (V2 : Nat → Nat → Int), (-400 ≤ i ∧ i < 383) → (∀ u, u ≠ p + 1 → u ≠ q + 1 → u ≠ t + 1 → V2 u = hV h3 u) → (LV (V2 (p + 1)) (R : Int)) → (LV (V2 (q + 1)) (P : Int)) → (LV (V2 (t + 1)) ((Q * 2 ^ (i + 1).toNat : Nat) : Int)) → (QI X Y R P Q (i + 1).toNat) → (i + 1).toNat < fuel → Wk w d cd_X7_quotient 55 [(7, aI i), (6, aI sh), (5, aO (some t)), (4, aO (some q)), (3, aO (some p)), (0, aO (some (c + 1))), (1, aO (some a)), (2, aO (some b))] [] (hw h3 V2) (RO (fun r h1 => ∃ p, r = some p ∧ Gr h h1 c 4 ∧ WB h1 c p (quo x y) j)) := by
    intro h3 p q t X Y sh g3 w1c w2c w3 d1 d2 d3 n12 n13 n23 hX hY hy0 fuel
    induction fuel with
    | zero => intros; omega
    | succ fuel ih55 =>
      intro i R P Q V2 hi hf lr lp lt qi hfuel
      refine g_iload rfl rfl ?_
      refine g_if_lt rfl (fun c57 => ?_) (fun c57 => ?_)
      · skip
        rw [show (i + 1).toNat = 0 by omega] at lt qi
        have hq := QI_end qi
        rw [Nat.pow_zero, Nat.mul_one, hq, hX, hY] at lt
        have f1 : Gr h (hw h3 V2) c 3 := g3.wrs [p, q, t] (fun u hu => by
          rcases List.mem_cons.mp hu with rfl | hu
          · exact ⟨w1c.1.o, w1c.1.2.1, d1⟩
          rcases List.mem_cons.mp hu with rfl | hu
          · exact ⟨w2c.1.o, w2c.1.2.1, d2⟩
          rcases List.mem_cons.mp hu with rfl | hu
          · exact ⟨w3.o, w3.2.1, d3⟩
          cases hu) (fun u hu => hf u (hu p (by simp)) (hu q (by simp)) (hu t (by simp)))
        have h671 := w1c.1.2.1
        have h672 := w2c.1.2.1
        have h673 := w3.2.1
        have hle : x.natAbs / y.natAbs ≤ x.natAbs := Nat.div_le_self _ _
        have f2 : WB (hw h3 V2) c t ((x.natAbs / y.natAbs : Nat) : Int) j := ⟨w3.any (by rw [hf _ (by omega) (by omega) (by omega)]) lt, by
          have := wa.2
          have := pw_pos j
          generalize x.natAbs / y.natAbs = Z at *
          omega⟩
        have hs := quo_sign (x := x) hy0
        refine g_aload_n rfl rfl ?_
        refine g_aload_n rfl rfl ?_
        refine g_callVI [aO (some a)] [] rfl rfl rfl rfl (Nat.le_of_ble_eq_true rfl) (g3.cs.kd 1 (by omega) rfl) (x_sign (by omega) g3.cs V2 a (g3.wb wa).1.o (by rw [hf _ (by have := d1 _ _ wa.1; omega) (by have := d2 _ _ wa.1; omega) (by have := d3 _ _ wa.1; omega)]; exact (g3.wb wa).1.l)) ?_
        rintro _ _ ⟨rfl, rfl⟩
        refine g_aload_n rfl rfl ?_
        refine g_aload_n rfl rfl ?_
        refine g_callVI [aO (some b)] [aI (lcmp x 0)] rfl rfl rfl rfl (Nat.le_of_ble_eq_true rfl) (g3.cs.kd 1 (by omega) rfl) (x_sign (by omega) g3.cs V2 b (g3.wb wb).1.o (by rw [hf _ (by have := d1 _ _ wb.1; omega) (by have := d2 _ _ wb.1; omega) (by have := d3 _ _ wb.1; omega)]; exact (g3.wb wb).1.l)) ?_
        rintro _ _ ⟨rfl, rfl⟩
        refine g_icmp_ne rfl (fun c107 => ?_) (fun c107 => ?_)
        · skip
          refine g_aload_n rfl rfl ?_
          refine g_aload rfl rfl ?_
          refine g_callVO [aO (some t)] [] rfl rfl rfl rfl (Nat.le_of_ble_eq_true rfl) (g3.cs.kd 1 (by omega) rfl) (s_neg (by omega) f1.ci (a := t) (x := ((x.natAbs / y.natAbs : Nat) : Int)) (j := j) f2 hj) ?_
          rintro _ h4 ⟨r4, rfl, g4, w4⟩
          refine g_aret rfl ?_
          first
            | (rw [if_pos c107] at hs
               exact ⟨t, rfl, f1.mono (by omega), by unfold quo; rw [if_neg hy0, hs]; exact f2⟩)
            | (rw [if_neg c107] at hs
               exact ⟨r4, rfl, f1.trans g4, by unfold quo; rw [if_neg hy0, hs]; exact w4⟩)
        · skip
          refine g_aload rfl rfl ?_
          refine g_goto rfl ?_
          refine g_aret rfl ?_
          first
            | (rw [if_pos c107] at hs
               exact ⟨t, rfl, f1.mono (by omega), by unfold quo; rw [if_neg hy0, hs]; exact f2⟩)
            | (rw [if_neg c107] at hs
               exact ⟨r4, rfl, f1.trans g4, by unfold quo; rw [if_neg hy0, hs]; exact w4⟩)
      · skip
        obtain ⟨n, hn⟩ : ∃ n : Nat, i = n := ⟨i.toNat, by omega⟩
        subst hn
        rw [show ((n : Int) + 1).toNat = n + 1 by omega] at lt qi
        refine g_aload_n rfl rfl ?_
        refine g_aload rfl rfl ?_
        refine g_aload_n rfl rfl ?_
        refine g_callVI [aO (some q), aO (some p)] [] rfl rfl rfl rfl (Nat.le_of_ble_eq_true rfl) (g3.cs.kd 1 (by omega) rfl) (x_order (by omega) g3.cs V2 q p w2c.1.o w1c.1.o lp lr) ?_
        rintro _ _ ⟨rfl, rfl⟩
        refine g_if_gt rfl (fun c67 => ?_) (fun c67 => ?_)
        · skip
          refine g_aload_n rfl rfl ?_
          refine g_aload rfl rfl ?_
          refine g_callVN [aO (some q)] [] rfl rfl rfl rfl (Nat.le_of_ble_eq_true rfl) (g3.cs.kd 1 (by omega) rfl) (x_halve (by omega) g3.cs V2 q w2c.1.o) ?_
          rintro _ ⟨V5, rfl, u5⟩
          obtain ⟨R9, P9, Q9, hf9, lr9, lp9, lt9, qi9⟩ : ∃ R9 P9 Q9 : Nat, (∀ u, u ≠ p + 1 → u ≠ q + 1 → u ≠ t + 1 → V5 u = hV h3 u) ∧ LV (V5 (p + 1)) (R9 : Int) ∧ LV (V5 (q + 1)) (P9 : Int) ∧ LV (V5 (t + 1)) ((Q9 * 2 ^ ((n : Int) + -1 + 1).toNat : Nat) : Int) ∧ QI X Y R9 P9 Q9 ((n : Int) + -1 + 1).toNat := by
            rw [show ((n : Int) + -1 + 1).toNat = n by omega]
            refine ⟨R, P / 2, 2 * Q, fun u q1 q2 q3 => by rw [u5.1 _ q2, hf u q1 q2 q3], by rw [u5.1 _ (by omega)]; exact lr, halfLV lp u5, ?_, QI_no qi (by have := (@lcmp_gt (P : Int) (R : Int)); omega)⟩
            rw [u5.1 _ (by omega), show 2 * Q * 2 ^ n = Q * 2 ^ (n + 1) by rw [Nat.pow_succ]; grind]
            exact lt
          refine g_iinc (l1 := [(7, aI ((n : Int) + (-1))), (6, aI sh), (5, aO (some t)), (4, aO (some q)), (3, aO (some p)), (0, aO (some (c + 1))), (1, aO (some a)), (2, aO (some b))]) rfl rfl (by omega) (by omega) rfl ?_
          refine g_goto rfl ?_
          exact ih55 ((n : Int) + -1) R9 P9 Q9 V5 (by omega) (by exact hf9) (by exact lr9) (by exact lp9) (by exact lt9) (by exact qi9) (by omega)
        · skip
          refine g_aload_n rfl rfl ?_
          refine g_aload_n rfl rfl ?_
          refine g_aload rfl rfl ?_
          refine g_callVN [aO (some p), aO (some q)] [] rfl rfl rfl rfl (Nat.le_of_ble_eq_true rfl) (g3.cs.kd 1 (by omega) rfl) (x_lessen (by omega) g3.cs V2 p q w1c.1.o w2c.1.o n12) ?_
          rintro _ ⟨V3, rfl, u3⟩
          have hPR : P ≤ R := by have := (@lcmp_gt (P : Int) (R : Int)); omega
          have lr3 := LV_less lr lp hPR u3
          have hdv : (2 ^ (n + 1) : Int) ∣ uv (V3 (t + 1)) 12 := by
            rw [u3.1 _ (by omega), lt.pos (Int.natCast_nonneg _), Int.natCast_mul, Int.natCast_pow]
            exact ⟨(Q : Int), Int.mul_comm _ _⟩
          refine g_aload_n rfl rfl ?_
          refine g_aload rfl rfl ?_
          refine g_iload rfl rfl ?_
          refine g_callVN [aO (some t), aI ((n : Int))] [] rfl rfl rfl rfl (Nat.le_of_ble_eq_true rfl) (g3.cs.kd 1 (by omega) rfl) (x_setBit (by omega) g3.cs V3 t w3.o n (by omega) (by rw [u3.1 _ (by omega)]; exact lt.1) hdv) ?_
          rintro _ ⟨V4, rfl, u4⟩
          refine g_aload_n rfl rfl ?_
          refine g_aload rfl rfl ?_
          refine g_callVN [aO (some q)] [] rfl rfl rfl rfl (Nat.le_of_ble_eq_true rfl) (g3.cs.kd 1 (by omega) rfl) (x_halve (by omega) g3.cs V4 q w2c.1.o) ?_
          rintro _ ⟨V5, rfl, u5⟩
          obtain ⟨R9, P9, Q9, hf9, lr9, lp9, lt9, qi9⟩ : ∃ R9 P9 Q9 : Nat, (∀ u, u ≠ p + 1 → u ≠ q + 1 → u ≠ t + 1 → V5 u = hV h3 u) ∧ LV (V5 (p + 1)) (R9 : Int) ∧ LV (V5 (q + 1)) (P9 : Int) ∧ LV (V5 (t + 1)) ((Q9 * 2 ^ ((n : Int) + -1 + 1).toNat : Nat) : Int) ∧ QI X Y R9 P9 Q9 ((n : Int) + -1 + 1).toNat := by
            rw [show ((n : Int) + -1 + 1).toNat = n by omega]
            refine ⟨R - P, P / 2, 2 * Q + 1, fun u q1 q2 q3 => by rw [u5.1 _ q2, u4.1 _ q3, u3.1 _ q1, hf u q1 q2 q3], by rw [u5.1 _ (by omega), u4.1 _ (by omega)]; exact lr3, ?_, ?_, QI_yes qi hPR⟩
            · exact halfLV (by rw [u4.1 _ (by omega), u3.1 _ (by omega)]; exact lp) u5
            · rw [u5.1 _ (by omega)]
              exact setLV (by rw [u3.1 _ (by omega)]; exact lt) (by omega) u4
          refine g_iinc (l1 := [(7, aI ((n : Int) + (-1))), (6, aI sh), (5, aO (some t)), (4, aO (some q)), (3, aO (some p)), (0, aO (some (c + 1))), (1, aO (some a)), (2, aO (some b))]) rfl rfl (by omega) (by omega) rfl ?_
          refine g_goto rfl ?_
          exact ih55 ((n : Int) + -1) R9 P9 Q9 V5 (by omega) (by exact hf9) (by exact lr9) (by exact lp9) (by exact lt9) (by exact qi9) (by omega)
  refine g_aload_n rfl rfl ?_
  refine g_aload_n rfl rfl ?_
  refine g_callVI [aO (some b)] [] rfl rfl rfl rfl (Nat.le_of_ble_eq_true rfl) (ci.cs.kd 1 (by omega) rfl) (s_isZero (by omega) ci wb) ?_
  rintro _ hx ⟨ehx, rfl⟩
  rw [ehx]
  clear ehx hx
  refine g_b_eq rfl (fun c5 => ?_) (fun c5 => ?_)
  · skip
    refine g_aload_n rfl rfl ?_
    refine g_aload_n rfl rfl ?_
    refine g_callVO [aO (some a)] [] rfl rfl rfl rfl (Nat.le_of_ble_eq_true rfl) (ci.cs.kd 1 (by omega) rfl) (s_sizeP (by omega) ci wa hj) ?_
    rintro _ h1 ⟨p, rfl, g1, w1, d1⟩
    refine g_astore_n (l1 := [(3, aO (some p)), (0, aO (some (c + 1))), (1, aO (some a)), (2, aO (some b))]) rfl rfl ?_
    refine g_aload_n rfl rfl ?_
    refine g_aload_n rfl rfl ?_
    refine g_callVO [aO (some b)] [] rfl rfl rfl rfl (Nat.le_of_ble_eq_true rfl) (g1.cs.kd 1 (by omega) rfl) (s_sizeP (by omega) g1.ci (g1.wb wb) hk) ?_
    rintro _ h2 ⟨q, rfl, gx, w2, dx⟩
    have g2 := g1.trans gx
    have w1b := gx.wb w1
    have d2 : Dd h c q := fun t z x => dx t z (g1.wv x)
    have n12 : p ≠ q := dx _ _ w1.1
    refine g_astore (l1 := [(4, aO (some q)), (3, aO (some p)), (0, aO (some (c + 1))), (1, aO (some a)), (2, aO (some b))]) rfl rfl ?_
    refine g_aload_n rfl rfl ?_
    refine g_callVO [] [] rfl rfl rfl rfl (Nat.le_of_ble_eq_true rfl) (g2.cs.kd 1 (by omega) rfl) (x_fresh (by omega) g2.ci) ?_
    rintro _ h3 ⟨t, rfl, gy, w3, dy, -⟩
    have g3 := g2.trans gy
    have w1c := gy.wb w1b
    have w2c := gy.wb w2
    have d3 : Dd h c t := fun u z x => dy u z (g2.wv x)
    have n13 : p ≠ t := dy _ _ w1b.1
    have n23 : q ≠ t := dy _ _ w2.1
    refine g_astore (l1 := [(5, aO (some t)), (4, aO (some q)), (3, aO (some p)), (0, aO (some (c + 1))), (1, aO (some a)), (2, aO (some b))]) rfl rfl ?_
    refine g_aload_n rfl rfl ?_
    refine g_aload_n rfl rfl ?_
    refine g_callVI [aO (some p)] [] rfl rfl rfl rfl (Nat.le_of_ble_eq_true rfl) (g3.cs.kd 1 (by omega) rfl) (x_bits (by omega) g3.cs (hV h3) p w1c.1.o w1c.1.r) ?_
    rintro _ hx ⟨ehx, bx, rfl, hlbx, blbx⟩
    rw [ehx]
    clear ehx hx
    rw [w1c.1.l.pos (Int.natCast_nonneg _)] at blbx
    refine g_aload_n rfl rfl ?_
    refine g_aload rfl rfl ?_
    refine g_callVI [aO (some q)] [aI ((bx : Int))] rfl rfl rfl rfl (Nat.le_of_ble_eq_true rfl) (g3.cs.kd 1 (by omega) rfl) (x_bits (by omega) g3.cs (hV h3) q w2c.1.o w2c.1.r) ?_
    rintro _ hx ⟨ehx, by_, rfl, hlby_, blby_⟩
    rw [ehx]
    clear ehx hx
    rw [w2c.1.l.pos (Int.natCast_nonneg _)] at blby_
    refine g_isub rfl (by omega) (by omega) ?_
    refine g_istore (l1 := [(6, aI (((bx : Int)) - ((by_ : Int)))), (5, aO (some t)), (4, aO (some q)), (3, aO (some p)), (0, aO (some (c + 1))), (1, aO (some a)), (2, aO (some b))]) rfl rfl ?_
    refine g_aload_n rfl rfl ?_
    refine g_aload rfl rfl ?_
    refine g_iload rfl rfl ?_
    refine g_callVN [aO (some q), aI (((bx : Int)) - ((by_ : Int)))] [] rfl rfl rfl rfl (Nat.le_of_ble_eq_true rfl) (g3.cs.kd 1 (by omega) rfl) (x_doubleOften (by omega) g3.cs (hV h3) q w2c.1.o (((bx : Int)) - ((by_ : Int))) (by omega) w2c.1.r) ?_
    rintro _ ⟨V1, rfl, u1⟩
    have hbx := BL_b blbx (show ((x.natAbs : Nat) : Int) ≤ 2 ^ 382 from (bd_up hj w1.2).2)
    have hby := BL_b blby_ (show ((y.natAbs : Nat) : Int) ≤ 2 ^ 382 from (bd_up hk w2.2).2)
    have hby1 : by_ ≠ 0 := fun e => by
      have := blby_.1
      rw [e] at this
      omega
    have qs := QI_start (show 0 < y.natAbs by omega) blbx blby_
    have lp0 : LV (V1 (q + 1)) ((y.natAbs * 2 ^ ((bx : Int) - by_).toNat : Nat) : Int) := by
      have q1 : (y.natAbs * 2 ^ ((bx : Int) - by_).toNat) < 2 ^ 383 := by
        by_cases hle : by_ ≤ bx
        · have h5 : y.natAbs < 2 ^ by_ := by
            have q1 : (y.natAbs : Int) < ((2 ^ by_ : Nat) : Int) := by rw [Int.natCast_pow]; exact blby_.1
            omega
          have h6 := Nat.mul_lt_mul_of_pos_right h5 (Nat.two_pow_pos (bx - by_))
          rw [← Nat.pow_add, show by_ + (bx - by_) = bx by omega] at h6
          have h7 := Nat.pow_le_pow_right (show 0 < 2 by decide) (show bx ≤ 383 by omega)
          rw [show ((bx : Int) - by_).toNat = bx - by_ by omega]
          omega
        · rw [show ((bx : Int) - by_).toNat = 0 by omega, Nat.pow_zero, Nat.mul_one]
          have q2 := (bd_up hk w2.2).2
          have q3 : ((y.natAbs : Nat) : Int) ≤ ((2 ^ 382 : Nat) : Int) := by rw [Int.natCast_pow]; exact q2
          have h7 : (2 : Nat) ^ 382 < 2 ^ 383 := Nat.pow_lt_pow_right (by decide) (by decide)
          omega
      have h3 : (2147483648 : Int) * 4294967296 ^ 11 = ((2 ^ 383 : Nat) : Int) := by decide
      refine LV_of u1.2.1 ?_ (by have : (0 : Int) ≤ ((y.natAbs * 2 ^ ((bx : Int) - by_).toNat : Nat) : Int) := Int.natCast_nonneg _; omega) (by omega)
      rw [u1.2.2, w2c.1.l.pos (Int.natCast_nonneg _), Int.natCast_mul, Int.natCast_pow]
      rfl
    refine g_iload rfl rfl ?_
    refine g_istore (l1 := [(7, aI (((bx : Int)) - ((by_ : Int)))), (6, aI (((bx : Int)) - ((by_ : Int)))), (5, aO (some t)), (4, aO (some q)), (3, aO (some p)), (0, aO (some (c + 1))), (1, aO (some a)), (2, aO (some b))]) rfl rfl ?_
    exact l55 h3 p q t x.natAbs y.natAbs _ (by exact g3) (by exact w1c) (by exact w2c) (by exact w3) (by exact d1) (by exact d2) (by exact d3) (by exact n12) (by exact n13) (by exact n23) (by rfl) (by rfl) (by exact c5) _ _ x.natAbs (y.natAbs * 2 ^ ((bx : Int) - by_).toNat) 0 V1 (by omega) (by intro u q1 q2 q3; rw [u1.1 _ q2]) (by rw [u1.1 _ (by omega)]; exact w1c.1.l) (by exact lp0) (by rw [u1.1 _ (by omega), Nat.zero_mul]; exact w3.l) (by exact qs.1) (Nat.lt_succ_self _)
  · skip
    refine g_aload_n rfl rfl ?_
    refine g_aret rfl ?_
    exact ⟨a, rfl, (Gr.refl ci).mono (by omega), by unfold quo; rw [if_pos c5]; exact wa⟩
