/-! the class's whole numbers, on: roots: printed by wip/whole/b8.py -/
/-- the search for a root -/
def RT (X Q n : Nat) : Prop := Q * 2 ^ n * (Q * 2 ^ n) ≤ X ∧ X < (Q * 2 ^ n + 2 ^ n) * (Q * 2 ^ n + 2 ^ n)
theorem RT_yes {X Q n : Nat} (h : RT X Q (n + 1)) (h2 : (Q * 2 ^ (n + 1) + 2 ^ n) * (Q * 2 ^ (n + 1) + 2 ^ n) ≤ X) : RT X (2 * Q + 1) n := by
  have e1 : (2 * Q + 1) * 2 ^ n = Q * 2 ^ (n + 1) + 2 ^ n := by rw [Nat.pow_succ]; grind
  have e2 : Q * 2 ^ (n + 1) + 2 ^ n + 2 ^ n = Q * 2 ^ (n + 1) + 2 ^ (n + 1) := by rw [Nat.pow_succ]; omega
  unfold RT
  rw [e1, e2]
  exact ⟨h2, h.2⟩
theorem RT_no {X Q n : Nat} (h : RT X Q (n + 1)) (h2 : X < (Q * 2 ^ (n + 1) + 2 ^ n) * (Q * 2 ^ (n + 1) + 2 ^ n)) : RT X (2 * Q) n := by
  have e1 : 2 * Q * 2 ^ n = Q * 2 ^ (n + 1) := by rw [Nat.pow_succ]; grind
  unfold RT
  rw [e1]
  exact ⟨h.1, h2⟩
theorem RT_start {X b : Nat} (h : X < 2 ^ b) : RT X 0 (b / 2 + 1) := by
  refine ⟨by omega, ?_⟩
  rw [Nat.zero_mul, Nat.zero_add, ← Nat.pow_add]
  have := Nat.pow_le_pow_right (show 0 < 2 by decide) (show b ≤ b / 2 + 1 + (b / 2 + 1) by omega)
  omega
theorem RT_end {X Q : Nat} (h : RT X Q 0) (s : Nat) (hs : X = s * s) : s = Q := by
  obtain ⟨h1, h2⟩ := h
  rw [Nat.pow_zero, Nat.mul_one] at h1 h2
  rw [hs] at h1 h2
  have a := Nat.mul_self_le_mul_self_iff.mp h1
  have b := Nat.mul_self_lt_mul_self_iff.mp h2
  omega
theorem RT_b {X Q n k : Nat} (h : RT X Q n) (hX : X ≤ 2 ^ (2 * k)) : Q * 2 ^ n ≤ 2 ^ k := by
  have h1 := h.1
  rw [Nat.two_mul k, Nat.pow_add] at hX
  exact Nat.mul_self_le_mul_self_iff.mp (Nat.le_trans h1 hX)
/-- a product used and given back -/
theorem Gr.back {h H1 H2 : aH} {c K p q : Nat} {z0 z : Int} (g : Gr h H1 c 2) (t1 : hV H1 (c + 1) 1 = (K : Int)) (hK : K < 400) (hK2 : hV h (c + 1) 1 ≤ K) (al : (hz H1 ≤ hz h + 2 ∧ hs H1 ≤ hs h + 13) ∨ hR H1 (c + 2) K ≠ none) (g2 : Gr H1 H2 c 1) (pl : Pl H1 H2 c q) (dq : Dd H1 c q) (dp : Dd h c p) (wp : WV H1 c p z0) {V : Nat → Nat → Int} (hv : ∀ a, a ≠ p + 1 → V a = hV H2 a) (l : LV (V (p + 1)) z) :
    Gr h (hw H2 (vset V (c + 1) 1 K)) c 2 ∧ WV (hw H2 (vset V (c + 1) 1 K)) c p z ∧ hR H2 (c + 2) K ≠ none ∧ vset V (c + 1) 1 (K : Int) (c + 1) 1 = K := by
  obtain ⟨e1, e2, e3⟩ := pl K t1 hK
  have ep := vset_eq V (c + 1) 1 (K : Int)
  have hp := wp.2.1
  have hvv : ∀ a, a ≠ p + 1 → a ≠ c + 1 → vset V (c + 1) 1 (K : Int) a = hV H2 a := fun a q1 q2 => by
    funext j
    rw [vset_ne _ _ _ _ (by omega), hv a q1]
  have live : ∀ u z, WV H1 c u z → ∀ i < 400, hR H2 (c + 2) i = some u → (i : Int) < K := fun u z x i hi h2 => by
    have x2 := g2.wv x
    have := x2.2.2.2.2 i hi h2
    have hq : u ≠ q := dq u z x
    by_cases e : i = K
    · rw [e, e1] at h2
      cases h2
      exact absurd rfl hq
    · omega
  obtain ⟨a1, a2, a3, a4, a5, a6, a7, a8⟩ := g
  obtain ⟨b1, b2, b3, b4, b5, b6, b7, b8⟩ := g2
  have hzz : hz H2 ≤ hz h + 4 ∧ hs H2 ≤ hs h + 26 := by
    rcases al with q1 | q1
    · omega
    · have := e2 q1
      omega
  refine ⟨⟨⟨b1.1, b1.2.1, ?_, b1.2.2.2.1, b1.2.2.2.2⟩, ⟨by show hz h ≤ hz H2; omega, hzz.1⟩, ⟨by show hs h ≤ hs H2; omega, hzz.2⟩, fun a ha => by show hT H2 a = _; rw [b4 a (by omega), a4 a ha], fun a ha hc => by show hR H2 a = _; rw [b5 a (by omega) hc, a5 a ha hc], fun a ha hc hk => ?_, ?_, fun u z x => ?_⟩, ?_, (by rw [e1]; intro q5; cases q5), ep⟩
  · show 0 ≤ vset V (c + 1) 1 (K : Int) (c + 1) 1 ∧ vset V (c + 1) 1 (K : Int) (c + 1) 1 ≤ 400
    rw [ep]
    omega
  · show vset V (c + 1) 1 (K : Int) a = hV h a
    have hne : a ≠ p + 1 := fun e => by
      rcases hk with hk | hk
      · have h3 := (b8 _ _ wp).1.2.2
        rw [← e, b4 a (by omega), a4 a ha] at h3
        rw [h3] at hk
        exact hk rfl
      · omega
    rw [hvv a hne hc, b6 a (by omega) hc (by rw [a4 a ha]; exact hk), a6 a ha hc hk]
  · show hV h (c + 1) 1 ≤ vset V (c + 1) 1 (K : Int) (c + 1) 1 ∧ vset V (c + 1) 1 (K : Int) (c + 1) 1 ≤ hV h (c + 1) 1 + (2 : Nat)
    rw [ep]
    omega
  · have x1 := a8 u z x
    have x2 := b8 u z x1
    refine ⟨x2.1, x2.2.1, x2.2.2.1, ?_, fun i hi h2 => ?_⟩
    · show LV (vset V (c + 1) 1 (K : Int) (u + 1)) z
      have := dp u z x
      have := x.2.1
      rw [hvv _ (by omega) (by omega)]
      exact x2.l
    · show (i : Int) < vset V (c + 1) 1 (K : Int) (c + 1) 1
      rw [ep]
      exact live u z x1 i hi h2
  · have x2 := b8 _ _ wp
    refine ⟨x2.1, x2.2.1, x2.2.2.1, ?_, fun i hi h2 => ?_⟩
    · show LV (vset V (c + 1) 1 (K : Int) (p + 1)) z
      rw [show vset V (c + 1) 1 (K : Int) (p + 1) = V (p + 1) by funext j; rw [vset_ne _ _ _ _ (by omega)]]
      exact l
    · show (i : Int) < vset V (c + 1) 1 (K : Int) (c + 1) 1
      rw [ep]
      exact live p _ wp i hi h2
theorem setLV2 {V V1 : Nat → Nat → Int} {a Q n : Nat} (l : LV (V (a + 1)) ((Q * 2 ^ (n + 1) : Nat) : Int)) (hn : Q * 2 ^ (n + 1) + 2 ^ n ≤ 2 ^ 382) (u : UP V (a + 1) V1 (uv (V (a + 1)) 12 + 2 ^ n)) : LV (V1 (a + 1)) ((Q * 2 ^ (n + 1) + 2 ^ n : Nat) : Int) := by
  have h3 : (2147483648 : Int) * 4294967296 ^ 11 = ((2 ^ 383 : Nat) : Int) := by decide
  have h7 : (2 : Nat) ^ 382 < 2 ^ 383 := Nat.pow_lt_pow_right (by decide) (by decide)
  refine LV_of u.2.1 ?_ (by have : (0 : Int) ≤ ((Q * 2 ^ (n + 1) + 2 ^ n : Nat) : Int) := Int.natCast_nonneg _; omega) (by omega)
  rw [u.2.2, l.pos (Int.natCast_nonneg _), Int.natCast_add (Q * 2 ^ (n + 1)), Int.natCast_pow]
  rfl
theorem clearLV {V V1 : Nat → Nat → Int} {a Q n : Nat} (l : LV (V (a + 1)) ((Q * 2 ^ (n + 1) + 2 ^ n : Nat) : Int)) (u : UP V (a + 1) V1 (uv (V (a + 1)) 12 - 2 ^ n)) : LV (V1 (a + 1)) ((Q * 2 ^ (n + 1) : Nat) : Int) := by
  have hr := sv_b (l.1 11 (by omega))
  rw [l.2] at hr
  rw [Int.natCast_add] at hr
  have h5 : (0 : Int) ≤ ((2 ^ n : Nat) : Int) := Int.natCast_nonneg _
  have h2 : (0 : Int) < 4294967296 ^ 11 := bp_pos 11
  refine LV_of u.2.1 ?_ (by have : (0 : Int) ≤ ((Q * 2 ^ (n + 1) : Nat) : Int) := Int.natCast_nonneg _; omega) (by omega)
  rw [u.2.2, l.pos (Int.natCast_nonneg _), Int.natCast_add (Q * 2 ^ (n + 1)), Int.natCast_pow]
  congr 1
  show _ + 2 ^ n - 2 ^ n = _
  omega
set_option maxHeartbeats 4000000 in
theorem s_root {w : aW} {d : Nat} (hd : 4 ≤ d) {h : aH} {c : Nat} (ci : CI h c) {a : Nat} {x : Int} {j : Nat} (wa : WB h c a x j) (hj : j ≤ 376) (hT9 : hV h (c + 1) 1 ≤ 398) : WP w d 187 [aO (some (c + 1)), aO (some a)] h (RO (fun r h1 => Gr h h1 c 3 ∧ ((r = none ∧ ¬ ∃ s : Nat, x = ((s * s : Nat) : Int)) ∨ ∃ p, ∃ s : Nat, r = some p ∧ x = ((s * s : Nat) : Int) ∧ WB h1 c p (s : Int) 189))) := by
  obtain ⟨d, rfl⟩ : ∃ d1, d = d1 + 1 := ⟨d - 1, by omega⟩
  refine WP.enter (cd := cd_X7_rootOf) rfl ?_
  have hls : largs 0 [aO (some (c + 1)), aO (some a)] = [(0, aO (some (c + 1))), (1, aO (some a))] := rfl
  rw [hls]
  clear hls
  have l29 : ∀ (p K X : Nat), (Dd h c p) → (K < 400) → (hV h (c + 1) 1 ≤ K) → (x = (X : Int)) → (X ≤ 2 ^ (2 * 188)) → (c + 67 ≤ p) → ∀ (fuel : Nat) (i : Int) (Q : Nat) (H : aH), (-1 ≤ i ∧ i ≤ 188) → (Gr h H c 2) → (hV H (c + 1) 1 = (K : Int)) → ((hz H ≤ hz h + 2 ∧ hs H ≤ hs h + 13) ∨ hR H (c + 2) K ≠ none) → (WV H c p ((Q * 2 ^ (i + 1).toNat : Nat) : Int)) → (RT X Q (i + 1).toNat) → (i + 1).toNat < fuel → Wk w d cd_X7_rootOf 29 [(4, aI i), (3, aI ((K : Int))), (2, aO (some p)), (0, aO (some (c + 1))), (1, aO (some a))] [] H (RO (fun r h1 => Gr h h1 c 3 ∧ ((r = none ∧ ¬ ∃ s : Nat, x = ((s * s : Nat) : Int)) ∨ ∃ p, ∃ s : Nat, r = some p ∧ x = ((s * s : Nat) : Int) ∧ WB h1 c p (s : Int) 189))) := by
    intro p K X dp hK hK2 hX hX2 hp67 fuel
    induction fuel with
    | zero => intros; omega
    | succ fuel ih29 =>
      intro i Q H hi gH tH al wp rt hfuel
      refine g_iload rfl rfl ?_
      refine g_if_lt rfl (fun c31 => ?_) (fun c31 => ?_)
      · skip
        rw [show (i + 1).toNat = 0 by omega] at wp rt
        have hb0 := RT_b rt hX2
        have wb0 : WB H c p ((Q * 2 ^ 0 : Nat) : Int) 189 := ⟨wp, by
          have h0 : (0 : Int) ≤ ((Q * 2 ^ 0 : Nat) : Int) := Int.natCast_nonneg _
          have h1 : (2 : Nat) ^ 188 ≤ 2 ^ 189 := by decide
          have h2 : ((2 ^ 189 : Nat) : Int) = 2 ^ 189 := Int.natCast_pow 2 189
          generalize Q * 2 ^ 0 = Z at *
          have := pw_pos 189
          omega⟩
        refine g_aload_n rfl rfl ?_
        refine g_aload_n rfl rfl ?_
        refine g_aload_n rfl rfl ?_
        refine g_aload_n rfl rfl ?_
        refine g_callVO [aO (some p), aO (some p)] [aO (some (c + 1))] rfl rfl rfl rfl (Nat.le_of_ble_eq_true rfl) (gH.cs.kd 1 (by omega) rfl) (s_times (by omega) gH.ci wb0 wb0 (by decide)) ?_
        rintro _ H2 ⟨q, rfl, q2, wq⟩
        have wa2 := q2.wb (gH.wb wa)
        refine g_aload_n rfl rfl ?_
        refine g_callVI [aO (some q), aO (some a)] [] rfl rfl rfl rfl (Nat.le_of_ble_eq_true rfl) (q2.cs.kd 1 (by omega) rfl) (s_areEqual (by omega) q2.ci wq wa2) ?_
        rintro _ hx ⟨ehx, rfl⟩
        rw [ehx]
        clear ehx hx
        refine g_b_eq rfl (fun c84 => ?_) (fun c84 => ?_)
        · skip
          refine g_null rfl ?_
          refine g_aret rfl ?_
          refine ⟨gH.trans q2, ?_⟩
          first
            | (refine Or.inr ⟨p, Q * 2 ^ 0, rfl, ?_, q2.wb wb0⟩
               rw [← c84, Int.natCast_mul (Q * 2 ^ 0)])
            | (refine Or.inl ⟨rfl, fun ⟨s, hs⟩ => c84 ?_⟩
               have e := RT_end rt s (by omega)
               rw [hs, e, Nat.pow_zero, Nat.mul_one, Int.natCast_mul])
        · skip
          refine g_aload_n rfl rfl ?_
          refine g_goto rfl ?_
          refine g_aret rfl ?_
          refine ⟨gH.trans q2, ?_⟩
          first
            | (refine Or.inr ⟨p, Q * 2 ^ 0, rfl, ?_, q2.wb wb0⟩
               rw [← c84, Int.natCast_mul (Q * 2 ^ 0)])
            | (refine Or.inl ⟨rfl, fun ⟨s, hs⟩ => c84 ?_⟩
               have e := RT_end rt s (by omega)
               rw [hs, e, Nat.pow_zero, Nat.mul_one, Int.natCast_mul])
      · skip
        obtain ⟨n, hn⟩ : ∃ n : Nat, i = n := ⟨i.toNat, by omega⟩
        subst hn
        rw [show ((n : Int) + 1).toNat = n + 1 by omega] at wp rt
        have hb0 := RT_b rt hX2
        have hb1n : 2 ^ n ≤ 2 ^ 188 := Nat.pow_le_pow_right (by decide) (by omega)
        have hb1 : Q * 2 ^ (n + 1) + 2 ^ n ≤ 2 ^ 382 := by
          have : (2 : Nat) ^ 188 + 2 ^ 188 ≤ 2 ^ 382 := by decide
          omega
        have hb2 : -2 ^ 189 ≤ ((Q * 2 ^ (n + 1) + 2 ^ n : Nat) : Int) ∧ ((Q * 2 ^ (n + 1) + 2 ^ n : Nat) : Int) ≤ 2 ^ 189 := by
          have h0 : (0 : Int) ≤ ((Q * 2 ^ (n + 1) + 2 ^ n : Nat) : Int) := Int.natCast_nonneg _
          have h1 : Q * 2 ^ (n + 1) + 2 ^ n ≤ 2 ^ 189 := by
            have : (2 : Nat) ^ 188 + 2 ^ 188 = 2 ^ 189 := by decide
            omega
          have h2 : ((2 ^ 189 : Nat) : Int) = 2 ^ 189 := Int.natCast_pow 2 189
          generalize Q * 2 ^ (n + 1) + 2 ^ n = Z at *
          have := pw_pos 189
          omega
        have hdv : (2 ^ (n + 1) : Int) ∣ uv (hV H (p + 1)) 12 := by
          rw [wp.l.pos (Int.natCast_nonneg _), Int.natCast_mul, Int.natCast_pow]
          exact ⟨(Q : Int), Int.mul_comm _ _⟩
        refine g_aload_n rfl rfl ?_
        refine g_aload_n rfl rfl ?_
        refine g_iload rfl rfl ?_
        refine g_callVN [aO (some p), aI ((n : Int))] [] rfl rfl rfl rfl (Nat.le_of_ble_eq_true rfl) (gH.cs.kd 1 (by omega) rfl) (x_setBit (by omega) gH.cs (hV H) p wp.o n (by omega) wp.r hdv) ?_
        rintro _ ⟨V1, rfl, u1⟩
        have l1 := setLV2 wp.l hb1 u1
        have f1 : Gr h (hw H V1) c 2 := gH.wrs [p] (fun u hu => by rw [List.mem_singleton] at hu; subst hu; exact ⟨wp.o, wp.2.1, dp⟩) (fun u hu => u1.1 u (hu p (by simp)))
        have wp1 : WV (hw H V1) c p _ := wp.any (by rw [u1.1 _ (by omega)]) l1
        have wb1 : WB (hw H V1) c p ((Q * 2 ^ (n + 1) + 2 ^ n : Nat) : Int) 189 := ⟨wp1, hb2⟩
        refine g_aload_n rfl rfl ?_
        refine g_aload_n rfl rfl ?_
        refine g_aload_n rfl rfl ?_
        refine g_aload_n rfl rfl ?_
        refine g_callVO [aO (some p), aO (some p)] [aO (some (c + 1))] rfl rfl rfl rfl (Nat.le_of_ble_eq_true rfl) (gH.cs.kd 1 (by omega) rfl) (s_timesP (by omega) f1.ci wb1 wb1 (by decide)) ?_
        rintro _ H2 ⟨q, rfl, q2, wq, dq, pl⟩
        have wa2 := q2.wb (f1.wb wa)
        refine g_aload_n rfl rfl ?_
        refine g_callVI [aO (some q), aO (some a)] [] rfl rfl rfl rfl (Nat.le_of_ble_eq_true rfl) (q2.cs.kd 1 (by omega) rfl) (s_order (by omega) q2.ci wq wa2) ?_
        rintro _ hx ⟨ehx, rfl⟩
        rw [ehx]
        clear ehx hx
        refine g_if_le rfl (fun c52 => ?_) (fun c52 => ?_)
        · skip
          have hle : (Q * 2 ^ (n + 1) + 2 ^ n) * (Q * 2 ^ (n + 1) + 2 ^ n) ≤ X := by
            have := (not_congr (@lcmp_gt (((Q * 2 ^ (n + 1) + 2 ^ n : Nat) : Int) * ((Q * 2 ^ (n + 1) + 2 ^ n : Nat) : Int)) x)).mp (by omega)
            rw [hX, ← Int.natCast_mul] at this
            omega
          obtain ⟨Q9, e9⟩ : ∃ Q9, Q9 = 2 * Q + 1 := ⟨_, rfl⟩
          have rt9 : RT X Q9 n := by rw [e9]; exact RT_yes rt hle
          have bk := Gr.back f1 (by show V1 (c + 1) 1 = _; rw [u1.1 _ (by omega)]; exact tH) hK hK2 al q2 pl dq dp wp1 (V := hV H2) (fun a _ => rfl) (z := ((Q9 * 2 ^ n : Nat) : Int)) (by rw [e9, show (2 * Q + 1) * 2 ^ n = Q * 2 ^ (n + 1) + 2 ^ n by rw [Nat.pow_succ]; grind]; exact (q2.wv wp1).l)
          refine g_aload_n rfl rfl ?_
          refine g_iload_n rfl rfl ?_
          refine g_putI rfl (q2.cs.kd 1 (by omega) rfl) ?_
          refine g_hp (h2 := hw H2 (vset (hV H2) (c + 1) 1 (K : Int))) rfl ?_
          refine g_iinc (l1 := [(4, aI ((n : Int) + (-1))), (3, aI ((K : Int))), (2, aO (some p)), (0, aO (some (c + 1))), (1, aO (some a))]) rfl rfl (by omega) (by omega) rfl ?_
          refine g_goto rfl ?_
          exact ih29 ((n : Int) + -1) Q9 _ (by omega) (by exact bk.1) (by exact bk.2.2.2) (by exact Or.inr bk.2.2.1) (by rw [show ((n : Int) + -1 + 1).toNat = n by omega]; exact bk.2.1) (by rw [show ((n : Int) + -1 + 1).toNat = n by omega]; exact rt9) (by omega)
        · skip
          refine g_aload_n rfl rfl ?_
          refine g_aload_n rfl rfl ?_
          refine g_iload rfl rfl ?_
          refine g_callVN [aO (some p), aI ((n : Int))] [] rfl rfl rfl rfl (Nat.le_of_ble_eq_true rfl) (q2.cs.kd 1 (by omega) rfl) (x_clearBit (by omega) q2.cs (hV H2) p (q2.wv wp1).o n (by omega) (q2.wv wp1).r (by rw [(q2.wv wp1).l.pos (Int.natCast_nonneg _)]; exact ⟨(Q : Int), by rw [Int.natCast_add, Int.natCast_mul, Int.natCast_pow, Int.natCast_pow, Int.mul_comm]; rfl⟩)) ?_
          rintro _ ⟨V3, rfl, u3⟩
          have l3 := clearLV (q2.wv wp1).l u3
          have hlt : X < (Q * 2 ^ (n + 1) + 2 ^ n) * (Q * 2 ^ (n + 1) + 2 ^ n) := by
            have := (@lcmp_gt (((Q * 2 ^ (n + 1) + 2 ^ n : Nat) : Int) * ((Q * 2 ^ (n + 1) + 2 ^ n : Nat) : Int)) x).mp (by omega)
            rw [hX, ← Int.natCast_mul] at this
            omega
          obtain ⟨Q9, e9⟩ : ∃ Q9, Q9 = 2 * Q := ⟨_, rfl⟩
          have rt9 : RT X Q9 n := by rw [e9]; exact RT_no rt hlt
          have bk := Gr.back f1 (by show V1 (c + 1) 1 = _; rw [u1.1 _ (by omega)]; exact tH) hK hK2 al q2 pl dq dp wp1 (V := V3) u3.1 (z := ((Q9 * 2 ^ n : Nat) : Int)) (by rw [e9, show 2 * Q * 2 ^ n = Q * 2 ^ (n + 1) by rw [Nat.pow_succ]; grind]; exact l3)
          refine g_aload_n rfl rfl ?_
          refine g_iload_n rfl rfl ?_
          refine g_putI rfl (q2.cs.kd 1 (by omega) rfl) ?_
          refine g_hp (h2 := hw H2 (vset V3 (c + 1) 1 ((K : Int)))) rfl ?_
          refine g_iinc (l1 := [(4, aI ((n : Int) + (-1))), (3, aI ((K : Int))), (2, aO (some p)), (0, aO (some (c + 1))), (1, aO (some a))]) rfl rfl (by omega) (by omega) rfl ?_
          refine g_goto rfl ?_
          exact ih29 ((n : Int) + -1) Q9 _ (by omega) (by exact bk.1) (by exact bk.2.2.2) (by exact Or.inr bk.2.2.1) (by rw [show ((n : Int) + -1 + 1).toNat = n by omega]; exact bk.2.1) (by rw [show ((n : Int) + -1 + 1).toNat = n by omega]; exact rt9) (by omega)
  refine g_aload_n rfl rfl ?_
  refine g_aload_n rfl rfl ?_
  refine g_callVI [aO (some a)] [] rfl rfl rfl rfl (Nat.le_of_ble_eq_true rfl) (ci.cs.kd 1 (by omega) rfl) (s_sign (by omega) ci wa) ?_
  rintro _ hx ⟨ehx, rfl⟩
  rw [ehx]
  clear ehx hx
  refine g_if_ge rfl (fun c5 => ?_) (fun c5 => ?_)
  · skip
    have hx0 : 0 ≤ x := by have := not_congr (@lcmp_neg x); omega
    have hXb : x.toNat ≤ 2 ^ (2 * 188) := by
      have q := (bd_up hj wa.2).2
      have q2 : ((2 ^ (2 * 188) : Nat) : Int) = 2 ^ 376 := Int.natCast_pow 2 376
      omega
    refine g_aload_n rfl rfl ?_
    refine g_callVO [] [] rfl rfl rfl rfl (Nat.le_of_ble_eq_true rfl) (ci.cs.kd 1 (by omega) rfl) (x_fresh (by omega) ci) ?_
    rintro _ h1 ⟨p, rfl, g1, w1, dp, pl1⟩
    obtain ⟨T, hTT⟩ : ∃ T : Nat, hV h (c + 1) 1 = T := ⟨(hV h (c + 1) 1).toNat, by have := ci.2.2.1; omega⟩
    have tk1 := (pl1 T hTT (by omega)).2.2
    have hp67 := w1.2.1
    have wa1 := g1.wb wa
    refine g_astore_n (l1 := [(2, aO (some p)), (0, aO (some (c + 1))), (1, aO (some a))]) rfl rfl ?_
    refine g_aload_n rfl rfl ?_
    refine g_getI rfl (g1.cs.kd 1 (by omega) rfl) ?_
    refine g_top (v2 := aI (((T + 1 : Nat) : Int))) (congrArg aI (by show hV h1 (c + 1) 1 = _; rw [tk1]; omega)) ?_
    refine g_istore_n (l1 := [(3, aI (((T + 1 : Nat) : Int))), (2, aO (some p)), (0, aO (some (c + 1))), (1, aO (some a))]) rfl rfl ?_
    refine g_aload_n rfl rfl ?_
    refine g_aload_n rfl rfl ?_
    refine g_callVI [aO (some a)] [] rfl rfl rfl rfl (Nat.le_of_ble_eq_true rfl) (g1.cs.kd 1 (by omega) rfl) (x_bits (by omega) g1.cs (hV h1) a wa1.1.o wa1.1.r) ?_
    rintro _ hx ⟨ehx, b, rfl, hlb, bl⟩
    rw [ehx]
    clear ehx hx
    rw [wa1.1.l.pos (by omega)] at bl
    have hXl : x.toNat < 2 ^ b := by
      have q2 : ((2 ^ b : Nat) : Int) = 2 ^ b := Int.natCast_pow 2 b
      have := bl.1
      omega
    have hb377 := BL_b bl (bd_up hj wa.2).2
    refine g_iconst rfl ?_
    refine g_idivN (m := 2) (n := b) rfl (by omega) (by omega) ?_
    refine g_istore (l1 := [(4, aI (((b / 2 : Nat) : Int))), (3, aI (((T + 1 : Nat) : Int))), (2, aO (some p)), (0, aO (some (c + 1))), (1, aO (some a))]) rfl rfl ?_
    exact l29 p (T + 1) x.toNat (by exact dp) (by omega) (by omega) (by omega) (by exact hXb) (by exact hp67) _ _ 0 h1 (by omega) (by exact g1.mono (by omega)) (by exact tk1) (by exact Or.inl ⟨g1.2.1.2, g1.2.2.1.2⟩) (by rw [Nat.zero_mul]; exact w1) (by rw [show (((b / 2 : Nat) : Int) + 1).toNat = b / 2 + 1 by omega]; exact RT_start hXl) (Nat.lt_succ_self _)
  · skip
    refine g_null rfl ?_
    refine g_aret rfl ?_
    refine ⟨(Gr.refl ci).mono (by omega), Or.inl ⟨rfl, fun ⟨s, hs⟩ => ?_⟩⟩
    have := lcmp_neg.mp c5
    omega
