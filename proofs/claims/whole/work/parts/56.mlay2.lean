/-! the reference lays all cells: printed by wip/whole/s56.py -/
section MLP
variable {S w l k c s : Nat} {n : Int} {V V1 : Nat → Nat → Int} {a b : Nat}
noncomputable abbrev tG2 (S w l : Nat) (n : Int) (k c : Nat) (f : Nat → Int) : Nat → Int := fun i => f i * tGc S w l n (k + 1) c i
theorem ml_0 (ti : TI V V1 b (3 ^ w) (tGc S w l n k (c + 1)) (sm s (tG2 S w l n k c (V a)))) (h0 : V a s * tGc S w l n (k + 1) c s = 0) : TI V V1 b (3 ^ w) (tGc S w l n k (c + 1)) (sm (s + 1) (tG2 S w l n k c (V a))) :=
  ti.to (by show _ = sm s _ + V a s * _; rw [h0, Int.add_zero])
theorem ml_1 {T : Int} (ti : TI V V1 b (3 ^ w) (tGc S w l n k (c + 1)) (sm s (tG2 S w l n k c (V a)) + V a s * T)) (h0 : tGc S w l n (k + 1) c s = T) : TI V V1 b (3 ^ w) (tGc S w l n k (c + 1)) (sm (s + 1) (tG2 S w l n k c (V a))) :=
  ti.to (by show _ = sm s _ + V a s * _; rw [h0])
theorem ml_2 {T1 T2 : Int} (ti : TI V V1 b (3 ^ w) (tGc S w l n k (c + 1)) (sm s (tG2 S w l n k c (V a)) + V a s * T1 + V a s * T2)) (h0 : tGc S w l n (k + 1) c s = T1 + T2) : TI V V1 b (3 ^ w) (tGc S w l n k (c + 1)) (sm (s + 1) (tG2 S w l n k c (V a))) :=
  ti.to (by show _ = sm s _ + V a s * _; rw [h0, Int.mul_add, Int.add_assoc])
end MLP
theorem TI.addif {V V1 : Nat → Nat → Int} {nb N : Nat} {F : Nat → Int} {T : Int} (h : TI V V1 nb N F T) {P : Prop} [Decidable P] {t : Nat} (ht : P → t < N) (b : Int) : TI V (if P then vset V1 nb t (w64 (V1 nb t + b)) else V1) nb N F (T + b * (if P then F t else 0)) := by
  by_cases p : P
  · rw [if_pos p, if_pos p]; exact h.add (ht p) b
  · rw [if_neg p, if_neg p, Int.mul_zero, Int.add_zero]; exact h
/-- the ways so far of the reference -/
def LInvM (V T : Nat → Nat → Int) (o S w l : Nat) (n : Int) (c0 : Nat) : Prop := (∀ a, a ≠ o + 17 → a ≠ o + 18 → T a = V a) ∧ (∀ i < 3 ^ w, r64 (T (o + 17) i)) ∧ cg (sm (3 ^ w) fun i => T (o + 17) i * tGc S w l n (w * l - c0) c0 i) (tGc S w l n (w * l) 0 0)
theorem LInvM.step {V T T1 V2 V3 : Nat → Nat → Int} {o S w l c0 : Nat} {n : Int} (hc : c0 < w * l) (i : LInvM V T o S w l n c0) (hf : ∀ a, a ≠ o + 18 → T1 a = T a) (ti : TI T1 V2 (o + 18) (3 ^ w) (tGc S w l n (w * l - c0 - 1) (c0 + 1)) (sm (3 ^ w) (tG2 S w l n (w * l - c0 - 1) c0 (T1 (o + 17))))) (h3 : ∀ a, a ≠ o + 17 → V3 a = V2 a) (h4 : ∀ j < 3 ^ w, V3 (o + 17) j = V2 (o + 18) j) : LInvM V V3 o S w l n (c0 + 1) := by
  obtain ⟨i1, i2, i3⟩ := i
  obtain ⟨t1, t2, t3⟩ := ti
  refine ⟨fun a h1 h2 => by rw [h3 a h1, t1 a h2, hf a h2, i1 a h1 h2], fun j hj => by rw [h4 j hj]; exact t2 j hj, ?_⟩
  rw [show w * l - (c0 + 1) = w * l - c0 - 1 by omega, sm_congr fun j hj => by rw [h4 j hj]]
  refine t3.trans ?_
  have e : w * l - c0 - 1 + 1 = w * l - c0 := by omega
  unfold tG2
  rw [e, hf _ (by omega)]
  exact i3
theorem LInvM.fin {V T : Nat → Nat → Int} {o S w l : Nat} {n : Int} (hw : 0 < w) (i : LInvM V T o S w l n (w * l)) : T (o + 17) 0 = w64 (tGc S w l n (w * l) 0 0) := by
  obtain ⟨i1, i2, i3⟩ := i
  have hN : 0 < 3 ^ w := Nat.pow_pos (by omega)
  have hx : (w * l) % w = 0 := Nat.mul_mod_right _ _
  have hps : ∀ j, j < w → rps w (w * l) j = j := fun j hj => by rw [rps_v hw hj, hx, if_pos (by omega)]; rfl
  rw [Nat.sub_self, sm_one hN fun i hi hne => by
    unfold tGc
    rw [tG, if_neg, Int.mul_zero]
    intro q
    refine hne (dg_zero hi fun j hj => ?_)
    have := q j hj
    unfold dr at this
    rw [hps j hj] at this
    exact this] at i3
  have e : tGc S w l n 0 (w * l) 0 = 1 := by
    unfold tGc
    rw [tG, if_pos]
    intro j _
    unfold dr
    rw [Nat.zero_div]
  rw [e, Int.mul_one] at i3
  exact cg_r64 i3 (i2 0 hN)
theorem LInvM.init {V T : Nat → Nat → Int} {o S w l : Nat} {n : Int} (hf : ∀ a, a ≠ o + 17 → a ≠ o + 18 → T a = V a) (h1 : T (o + 17) 0 = 1) (h0 : ∀ i, 0 < i → i < 3 ^ w → T (o + 17) i = 0) : LInvM V T o S w l n 0 := by
  refine ⟨hf, fun i hi => ?_, ?_⟩
  · rcases Nat.eq_zero_or_pos i with q | q
    · rw [q, h1]; unfold r64; omega
    · rw [h0 i q hi]; unfold r64; omega
  · rw [sm_one (Nat.pow_pos (by omega)) fun i hi hne => by rw [h0 i (by omega) hi, Int.zero_mul], h1, Int.one_mul, Nat.sub_zero]
    exact cg.rfl2 _
/-- both sides count the same ways -/
theorem ways_same (S w l : Nat) (n : Int) (hw : 0 < w) (hS : 1 ≤ S) : tGc S w l n (w * l) 0 0 = tFc S w l n (w * l) 0 0 := by
  have e := tG_start S w l n hw hS
  unfold tGc tFc
  have e1 : dr w 0 0 = fun _ => 0 := by funext j; unfold dr; rw [Nat.zero_div]
  have e2 : dgc S 0 = fun _ => 0 := by funext j; unfold dgc; rw [Nat.zero_div, Nat.zero_mod]
  rw [e1, e2]
  exact e
set_option maxRecDepth 100000 in
set_option maxHeartbeats 4000000 in
theorem m_lay {w : aW} {d : Nat} (hd : 2 ≤ d) {h : aH} {o : Nat} (ms : MS h o) (V : Nat → Nat → Int) (w1 l : Nat) (n : Int) (hw0 : 0 < w1) (hw8 : w1 ≤ 8) (hl8 : l ≤ 8) (S : Nat) (hS2 : 2 ≤ S) (hS3 : S ≤ 3) : WP w d 368 [aO (some o), aI ((w1 : Int)), aI ((l : Int)), aJ n, aI ((S : Int))] (hw h V) (RJ (fun r h1 => (∃ V2, h1 = hw h V2 ∧ ∀ a, a ≠ o + 17 → a ≠ o + 18 → V2 a = V a) ∧ r = w64 (tGc S w1 l n (w1 * l) 0 0))) := by
  obtain ⟨d, rfl⟩ : ∃ d1, d = d1 + 1 := ⟨d - 1, by omega⟩
  refine WP.enter (cd := cd_X12_lay) rfl ?_
  have hN : 3 ^ w1 ≤ 3 ^ 8 := Nat.pow_le_pow_right (by omega) hw8
  have hN0 : 0 < 3 ^ w1 := Nat.pow_pos (by omega)
  have hT1 : 3 ^ w1 = 3 ^ (w1 - 1) * 3 := by rw [← Nat.pow_succ]; congr 1; omega
  have hm9 : (S - 1) * 3 ^ (w1 - 1) ≤ 2 * 3 ^ (w1 - 1) := Nat.mul_le_mul_right _ (by omega)
  have hls : largs 0 [aO (some o), aI ((w1 : Int)), aI ((l : Int)), aJ n, aI ((S : Int))] = [(0, aO (some o)), (1, aI ((w1 : Int))), (2, aI ((l : Int))), (3, aJ n), (5, aI ((S : Int)))] := rfl
  rw [hls]
  clear hls
  have l64 : ∀ (fuel : Nat) (c : Nat) (T : Nat → Nat → Int), (c ≤ w1 * l) → (LInvM V T o S w1 l n c) → w1 * l - c < fuel → Wk w d cd_X12_lay 64 [(8, aI ((c : Int))), (7, aI (((3 ^ (w1 - 1) : Nat) : Int))), (6, aI (((3 ^ w1 : Nat) : Int))), (0, aO (some o)), (1, aI ((w1 : Int))), (2, aI ((l : Int))), (3, aJ n), (5, aI ((S : Int)))] [] (hw h T) (RJ (fun r h1 => (∃ V2, h1 = hw h V2 ∧ ∀ a, a ≠ o + 17 → a ≠ o + 18 → V2 a = V a) ∧ r = w64 (tGc S w1 l n (w1 * l) 0 0))) := by
    intro fuel
    induction fuel with
    | zero => intros; omega
    | succ fuel ih64 =>
      intro c T hc0 li hfuel
      have hml : w1 * l ≤ 8 * 8 := Nat.mul_le_mul hw8 hl8
      have l269 : ∀ (V1 T2 : Nat → Nat → Int) (s : Nat), (c < w1 * l) → (∀ a, a ≠ o + 18 → V1 a = T a) → (3 ^ w1 ≤ s ∧ s ≤ 3 ^ w1) → (TI V1 T2 (o + 18) (3 ^ w1) (tGc S w1 l n (w1 * l - c - 1) (c + 1)) (sm s (tG2 S w1 l n (w1 * l - c - 1) c (V1 (o + 17))))) → ∀ (fuel : Nat) (i : Nat) (V3 : Nat → Nat → Int), (i ≤ 3 ^ w1) → (∀ a, a ≠ o + 17 → V3 a = T2 a) → (∀ j < i, V3 (o + 17) j = T2 (o + 18) j) → 3 ^ w1 - i < fuel → Wk w d cd_X12_lay 269 [(12, aI ((i : Int))), (11, aI (if gb n (8 * (c / w1) + c % w1) = true then 1 else 0)), (10, aI (((c / w1 : Nat) : Int))), (9, aI (((c % w1 : Nat) : Int))), (8, aI ((c : Int))), (7, aI (((3 ^ (w1 - 1) : Nat) : Int))), (6, aI (((3 ^ w1 : Nat) : Int))), (0, aO (some o)), (1, aI ((w1 : Int))), (2, aI ((l : Int))), (3, aJ n), (5, aI ((S : Int)))] [] (hw h V3) (RJ (fun r h1 => (∃ V2, h1 = hw h V2 ∧ ∀ a, a ≠ o + 17 → a ≠ o + 18 → V2 a = V a) ∧ r = w64 (tGc S w1 l n (w1 * l) 0 0))) := by
        intro V1 T2 s hc hf1 hs ti fuel
        induction fuel with
        | zero => intros; omega
        | succ fuel ih269 =>
          intro i V3 hi h3 h4 hfuel
          refine g_iload rfl rfl ?_
          refine g_iload rfl rfl ?_
          refine g_icmp_ge rfl (fun c273 => ?_) (fun c273 => ?_)
          · skip
            refine g_iinc (l1 := [(8, aI ((c : Int) + 1)), (12, aI ((i : Int))), (11, aI (if gb n (8 * (c / w1) + c % w1) = true then 1 else 0)), (10, aI (((c / w1 : Nat) : Int))), (9, aI (((c % w1 : Nat) : Int))), (7, aI (((3 ^ (w1 - 1) : Nat) : Int))), (6, aI (((3 ^ w1 : Nat) : Int))), (0, aO (some o)), (1, aI ((w1 : Int))), (2, aI ((l : Int))), (3, aJ n), (5, aI ((S : Int)))]) rfl rfl (by omega) (by omega) rfl ?_
            refine g_goto rfl ?_
            refine g_ls [0, 5, 6, 7, 8, 9, 10, 11] rfl rfl ?_
            exact ih64 (c + 1) V3 (by omega) (by exact LInvM.step hc li hf1 (by rw [show s = 3 ^ w1 by omega] at ti; exact ti) h3 (fun j hj => h4 j (by omega))) (by omega)
          · skip
            refine g_aload_n rfl rfl ?_
            refine g_getR rfl ms.1 (mr_now ms) ?_
            refine g_iload rfl rfl ?_
            refine g_aload_n rfl rfl ?_
            refine g_getR rfl ms.1 (mr_then ms) ?_
            refine g_iload rfl rfl ?_
            refine g_lald (i := i) rfl (mt_then ms) (by omega) (by omega) ?_
            refine g_last (i := i) rfl (mt_now ms) (by omega) (by omega) ?_
            refine g_iinc (l1 := [(12, aI ((i : Int) + 1)), (11, aI (if gb n (8 * (c / w1) + c % w1) = true then 1 else 0)), (10, aI (((c / w1 : Nat) : Int))), (9, aI (((c % w1 : Nat) : Int))), (8, aI ((c : Int))), (7, aI (((3 ^ (w1 - 1) : Nat) : Int))), (6, aI (((3 ^ w1 : Nat) : Int))), (0, aO (some o)), (1, aI ((w1 : Int))), (2, aI ((l : Int))), (3, aJ n), (5, aI ((S : Int)))]) rfl rfl (by omega) (by omega) rfl ?_
            refine g_goto rfl ?_
            exact ih269 (i + 1) (vset V3 (o + 17) i (V3 (o + 18) i)) (by omega) (by intro a h1; funext j; rw [vset_ne _ _ _ _ (by omega), h3 a h1]) (by intro j hj; by_cases e : j = i; (rw [e, vset_eq, h3 _ (by omega)]); (rw [vset_ne _ _ _ _ (by omega)]; exact h4 j (by omega))) (by omega)
      have l135 : ∀ (V1 : Nat → Nat → Int), (c < w1 * l) → (∀ a, a ≠ o + 18 → V1 a = T a) → (∀ j < 3 ^ w1, V1 (o + 18) j = 0) → (c % w1 < w1) → (c / w1 < l) → ∀ (fuel : Nat) (s : Nat) (T2 : Nat → Nat → Int), (s ≤ 3 ^ w1) → (TI V1 T2 (o + 18) (3 ^ w1) (tGc S w1 l n (w1 * l - c - 1) (c + 1)) (sm s (tG2 S w1 l n (w1 * l - c - 1) c (V1 (o + 17))))) → 3 ^ w1 - s < fuel → Wk w d cd_X12_lay 135 [(12, aI ((s : Int))), (11, aI (if gb n (8 * (c / w1) + c % w1) = true then 1 else 0)), (10, aI (((c / w1 : Nat) : Int))), (9, aI (((c % w1 : Nat) : Int))), (8, aI ((c : Int))), (7, aI (((3 ^ (w1 - 1) : Nat) : Int))), (6, aI (((3 ^ w1 : Nat) : Int))), (0, aO (some o)), (1, aI ((w1 : Int))), (2, aI ((l : Int))), (3, aJ n), (5, aI ((S : Int)))] [] (hw h T2) (RJ (fun r h1 => (∃ V2, h1 = hw h V2 ∧ ∀ a, a ≠ o + 17 → a ≠ o + 18 → V2 a = V a) ∧ r = w64 (tGc S w1 l n (w1 * l) 0 0))) := by
        intro V1 hc hf1 hz1 hx hy fuel
        induction fuel with
        | zero => intros; omega
        | succ fuel ih135 =>
          intro s T2 hs ti hfuel
          refine g_iload rfl rfl ?_
          refine g_iload rfl rfl ?_
          refine g_icmp_ge rfl (fun c139 => ?_) (fun c139 => ?_)
          · skip
            refine g_iconst rfl ?_
            refine g_istore (l1 := [(12, aI 0), (11, aI (if gb n (8 * (c / w1) + c % w1) = true then 1 else 0)), (10, aI (((c / w1 : Nat) : Int))), (9, aI (((c % w1 : Nat) : Int))), (8, aI ((c : Int))), (7, aI (((3 ^ (w1 - 1) : Nat) : Int))), (6, aI (((3 ^ w1 : Nat) : Int))), (0, aO (some o)), (1, aI ((w1 : Int))), (2, aI ((l : Int))), (3, aJ n), (5, aI ((S : Int)))]) rfl rfl ?_
            exact l269 V1 T2 s (by omega) (by exact hf1) (by omega) (by exact ti) _ 0 T2 (by omega) (by intro a _; rfl) (by intro j hj; omega) (Nat.lt_succ_self _)
          · skip
            have hs9 : s < 3 ^ w1 := by omega
            have hrest : s / 3 < 3 ^ (w1 - 1) := by omega
            refine g_aload_n rfl rfl ?_
            refine g_getR rfl ms.1 (mr_now ms) ?_
            refine g_iload rfl rfl ?_
            refine g_lald (i := s) rfl (mt_now ms) (by omega) (by omega) ?_
            refine g_top (v2 := aJ (V1 (o + 17) s)) (congrArg aJ (by show T2 (o + 17) s = V1 (o + 17) s; rw [ti.1 _ (by omega)])) ?_
            refine g_lconst0 rfl ?_
            refine g_lc_eq rfl rfl (fun c150 => ?_) (fun c150 => ?_)
            · skip
              refine g_iinc (l1 := [(12, aI ((s : Int) + 1)), (11, aI (if gb n (8 * (c / w1) + c % w1) = true then 1 else 0)), (10, aI (((c / w1 : Nat) : Int))), (9, aI (((c % w1 : Nat) : Int))), (8, aI ((c : Int))), (7, aI (((3 ^ (w1 - 1) : Nat) : Int))), (6, aI (((3 ^ w1 : Nat) : Int))), (0, aO (some o)), (1, aI ((w1 : Int))), (2, aI ((l : Int))), (3, aJ n), (5, aI ((S : Int)))]) rfl rfl (by omega) (by omega) rfl ?_
              refine g_goto rfl ?_
              exact ih135 (s + 1) _ (by omega) (by first | exact ml_0 ti (by rw [show V1 (o + 17) s = 0 by omega, Int.zero_mul]) | exact ml_0 ti (by rw [tGc_g1 (by omega) c168 (by omega), Int.mul_zero]) | exact ml_1 ti (tGc_g0 (by omega) hs9 c168 (by omega)) | exact ml_1 ti (tGc_d (by omega) hs9 c168 (by omega)) | exact ml_2 ti (tGc_i (by omega) hS2 hS3 hs9 hy c168 (by omega))) (by omega)
            · skip
              refine g_iload rfl rfl ?_
              refine g_iconst rfl ?_
              refine g_iremN (m := 3) (n := s) rfl (by omega) ?_
              refine g_istore (l1 := [(13, aI (((s % 3 : Nat) : Int))), (12, aI ((s : Int))), (11, aI (if gb n (8 * (c / w1) + c % w1) = true then 1 else 0)), (10, aI (((c / w1 : Nat) : Int))), (9, aI (((c % w1 : Nat) : Int))), (8, aI ((c : Int))), (7, aI (((3 ^ (w1 - 1) : Nat) : Int))), (6, aI (((3 ^ w1 : Nat) : Int))), (0, aO (some o)), (1, aI ((w1 : Int))), (2, aI ((l : Int))), (3, aJ n), (5, aI ((S : Int)))]) rfl rfl ?_
              refine g_iload rfl rfl ?_
              refine g_iconst rfl ?_
              refine g_idivN (m := 3) (n := s) rfl (by omega) (by omega) ?_
              refine g_istore (l1 := [(14, aI (((s / 3 : Nat) : Int))), (13, aI (((s % 3 : Nat) : Int))), (12, aI ((s : Int))), (11, aI (if gb n (8 * (c / w1) + c % w1) = true then 1 else 0)), (10, aI (((c / w1 : Nat) : Int))), (9, aI (((c % w1 : Nat) : Int))), (8, aI ((c : Int))), (7, aI (((3 ^ (w1 - 1) : Nat) : Int))), (6, aI (((3 ^ w1 : Nat) : Int))), (0, aO (some o)), (1, aI ((w1 : Int))), (2, aI ((l : Int))), (3, aJ n), (5, aI ((S : Int)))]) rfl rfl ?_
              refine g_iload rfl rfl ?_
              refine g_b_eq rfl (fun c168 => ?_) (fun c168 => ?_)
              · skip
                refine g_iload rfl rfl ?_
                refine g_if_le rfl (fun c198 => ?_) (fun c198 => ?_)
                · skip
                  have ti0 := ti
                  refine g_aload_n rfl rfl ?_
                  refine g_iload rfl rfl ?_
                  refine g_iload rfl rfl ?_
                  refine g_iload rfl rfl ?_
                  refine g_iload rfl rfl ?_
                  refine g_iload_n rfl rfl ?_
                  refine g_iload rfl rfl ?_
                  refine g_callVN [aI ((s : Int)), aI (((s / 3 : Nat) : Int)), aI (((3 ^ (w1 - 1) : Nat) : Int)), aI (((c / w1 : Nat) : Int)), aI ((l : Int)), aI ((S : Int))] [] rfl rfl rfl rfl (Nat.le_of_ble_eq_true rfl) ms.1 (m_stand (by omega) ms T2 s (s / 3) (3 ^ (w1 - 1)) (c / w1) l S (by omega) (by omega) (by omega) hS3 (by omega) (by omega) (by omega)) ?_
                  rintro _ rfl
                  obtain ⟨T5, e5⟩ : ∃ W, W = (if c / w1 + S ≤ l then vset T2 (o + 18) (s / 3 + (S - 1) * 3 ^ (w1 - 1)) (w64 (T2 (o + 18) (s / 3 + (S - 1) * 3 ^ (w1 - 1)) + T2 (o + 17) s)) else T2) := ⟨_, rfl⟩
                  rw [← e5]
                  have ti := ti.addif (P := c / w1 + S ≤ l) (t := s / 3 + (S - 1) * 3 ^ (w1 - 1)) (fun _ => by omega) (V1 (o + 17) s)
                  rw [show V1 (o + 17) s = T2 (o + 17) s by rw [ti0.1 _ (by omega)], ← e5, ← show V1 (o + 17) s = T2 (o + 17) s by rw [ti0.1 _ (by omega)]] at ti
                  refine g_aload_n rfl rfl ?_
                  refine g_iload rfl rfl ?_
                  refine g_iload rfl rfl ?_
                  refine g_iload rfl rfl ?_
                  refine g_iload rfl rfl ?_
                  refine g_iload_n rfl rfl ?_
                  refine g_iload rfl rfl ?_
                  refine g_lload_n rfl rfl ?_
                  refine g_callVN [aI ((s : Int)), aI (((s / 3 : Nat) : Int)), aI (((c % w1 : Nat) : Int)), aI (((c / w1 : Nat) : Int)), aI ((w1 : Int)), aI ((S : Int)), aJ n] [] rfl rfl rfl rfl (Nat.le_of_ble_eq_true rfl) ms.1 (m_lie (by omega) ms T5 s (s / 3) (c % w1) (c / w1) w1 S n (by omega) (by omega) hS2 hS3 hx hw8 (by omega)) ?_
                  rintro _ rfl
                  have ti1 := ti
                  obtain ⟨T6, e6⟩ : ∃ W, W = (if c % w1 + S ≤ w1 ∧ lfB n (c / w1) (c % w1) (s / 3) (S - 1) = true then vset T5 (o + 18) (s / 3 + sacp 3 0 (S - 1)) (w64 (T5 (o + 18) (s / 3 + sacp 3 0 (S - 1)) + T5 (o + 17) s)) else T5) := ⟨_, rfl⟩
                  rw [← e6]
                  have ti := ti.addif (P := c % w1 + S ≤ w1 ∧ lfB n (c / w1) (c % w1) (s / 3) (S - 1) = true) (t := s / 3 + sacp 3 0 (S - 1)) (fun p => by have q := p; rw [lfB_iff] at q; exact Nat.lt_of_lt_of_le ((dg_sacp (S := 3) (p := 0) (w := w1 - 1) (s := s / 3) (by omega) hrest (S - 1) fun i hi => by rw [Nat.zero_add]; exact ⟨by omega, (q.2 i hi).2⟩).1) (Nat.pow_le_pow_right (by omega) (by omega))) (V1 (o + 17) s)
                  rw [show V1 (o + 17) s = T5 (o + 17) s by rw [ti1.1 _ (by omega)], ← e6, ← show V1 (o + 17) s = T5 (o + 17) s by rw [ti1.1 _ (by omega)]] at ti
                  refine g_iinc (l1 := [(12, aI ((s : Int) + 1)), (14, aI (((s / 3 : Nat) : Int))), (13, aI (((s % 3 : Nat) : Int))), (11, aI (if gb n (8 * (c / w1) + c % w1) = true then 1 else 0)), (10, aI (((c / w1 : Nat) : Int))), (9, aI (((c % w1 : Nat) : Int))), (8, aI ((c : Int))), (7, aI (((3 ^ (w1 - 1) : Nat) : Int))), (6, aI (((3 ^ w1 : Nat) : Int))), (0, aO (some o)), (1, aI ((w1 : Int))), (2, aI ((l : Int))), (3, aJ n), (5, aI ((S : Int)))]) rfl rfl (by omega) (by omega) rfl ?_
                  refine g_goto rfl ?_
                  refine g_ls [0, 3, 4, 5, 6, 7, 8, 9, 10, 11, 12, 13] rfl rfl ?_
                  exact ih135 (s + 1) _ (by omega) (by first | exact ml_0 ti (by rw [show V1 (o + 17) s = 0 by omega, Int.zero_mul]) | exact ml_0 ti (by rw [tGc_g1 (by omega) c168 (by omega), Int.mul_zero]) | exact ml_1 ti (tGc_g0 (by omega) hs9 c168 (by omega)) | exact ml_1 ti (tGc_d (by omega) hs9 c168 (by omega)) | exact ml_2 ti (tGc_i (by omega) hS2 hS3 hs9 hy c168 (by omega))) (by omega)
                · skip
                  have hm8 : (s % 3 - 1) * 3 ^ (w1 - 1) ≤ 1 * 3 ^ (w1 - 1) := Nat.mul_le_mul_right _ (by omega)
                  refine g_aload_n rfl rfl ?_
                  refine g_getR rfl ms.1 (mr_then ms) ?_
                  refine g_iload rfl rfl ?_
                  refine g_iload rfl rfl ?_
                  refine g_iconst rfl ?_
                  refine g_isub rfl (by omega) (by omega) ?_
                  refine g_top (v2 := aI (((s % 3 - 1 : Nat) : Int))) (congrArg aI (by omega)) ?_
                  refine g_iload rfl rfl ?_
                  refine g_imul rfl (by omega) (by omega) ?_
                  refine g_iadd rfl (by omega) (by omega) ?_
                  refine g_dup2 rfl rfl rfl ?_
                  refine g_lald (i := (s / 3) + ((s % 3 - 1) * (3 ^ (w1 - 1)))) rfl (mt_then ms) (by omega) (by omega) ?_
                  refine g_aload_n rfl rfl ?_
                  refine g_getR rfl ms.1 (mr_now ms) ?_
                  refine g_iload rfl rfl ?_
                  refine g_lald (i := s) rfl (mt_now ms) (by omega) (by omega) ?_
                  refine g_top (v2 := aJ (V1 (o + 17) s)) (congrArg aJ (by show T2 (o + 17) s = V1 (o + 17) s; rw [ti.1 _ (by omega)])) ?_
                  refine g_laddW rfl ?_
                  refine g_last (i := (s / 3) + ((s % 3 - 1) * (3 ^ (w1 - 1)))) rfl (mt_then ms) (by omega) (by omega) ?_
                  obtain ⟨T4, eT4⟩ : ∃ W, W = vset T2 (o + 18) ((s / 3) + ((s % 3 - 1) * (3 ^ (w1 - 1)))) (w64 ((T2 (o + 18) ((s / 3) + ((s % 3 - 1) * (3 ^ (w1 - 1))))) + (V1 (o + 17) s))) := ⟨_, rfl⟩
                  refine g_hp (h2 := hw h T4) (by rw [eT4]; rfl) ?_
                  have ti := ti.add (t := s / 3 + (s % 3 - 1) * 3 ^ (w1 - 1)) (by omega) (V1 (o + 17) s)
                  rw [← eT4] at ti
                  refine g_goto rfl ?_
                  refine g_iinc (l1 := [(12, aI ((s : Int) + 1)), (14, aI (((s / 3 : Nat) : Int))), (13, aI (((s % 3 : Nat) : Int))), (11, aI (if gb n (8 * (c / w1) + c % w1) = true then 1 else 0)), (10, aI (((c / w1 : Nat) : Int))), (9, aI (((c % w1 : Nat) : Int))), (8, aI ((c : Int))), (7, aI (((3 ^ (w1 - 1) : Nat) : Int))), (6, aI (((3 ^ w1 : Nat) : Int))), (0, aO (some o)), (1, aI ((w1 : Int))), (2, aI ((l : Int))), (3, aJ n), (5, aI ((S : Int)))]) rfl rfl (by omega) (by omega) rfl ?_
                  refine g_goto rfl ?_
                  refine g_ls [0, 3, 4, 5, 6, 7, 8, 9, 10, 11, 12, 13] rfl rfl ?_
                  exact ih135 (s + 1) _ (by omega) (by first | exact ml_0 ti (by rw [show V1 (o + 17) s = 0 by omega, Int.zero_mul]) | exact ml_0 ti (by rw [tGc_g1 (by omega) c168 (by omega), Int.mul_zero]) | exact ml_1 ti (tGc_g0 (by omega) hs9 c168 (by omega)) | exact ml_1 ti (tGc_d (by omega) hs9 c168 (by omega)) | exact ml_2 ti (tGc_i (by omega) hS2 hS3 hs9 hy c168 (by omega))) (by omega)
              · skip
                refine g_iload rfl rfl ?_
                refine g_if_ne rfl (fun c173 => ?_) (fun c173 => ?_)
                · skip
                  refine g_iinc (l1 := [(12, aI ((s : Int) + 1)), (14, aI (((s / 3 : Nat) : Int))), (13, aI (((s % 3 : Nat) : Int))), (11, aI (if gb n (8 * (c / w1) + c % w1) = true then 1 else 0)), (10, aI (((c / w1 : Nat) : Int))), (9, aI (((c % w1 : Nat) : Int))), (8, aI ((c : Int))), (7, aI (((3 ^ (w1 - 1) : Nat) : Int))), (6, aI (((3 ^ w1 : Nat) : Int))), (0, aO (some o)), (1, aI ((w1 : Int))), (2, aI ((l : Int))), (3, aJ n), (5, aI ((S : Int)))]) rfl rfl (by omega) (by omega) rfl ?_
                  refine g_goto rfl ?_
                  refine g_ls [0, 3, 4, 5, 6, 7, 8, 9, 10, 11, 12, 13] rfl rfl ?_
                  exact ih135 (s + 1) _ (by omega) (by first | exact ml_0 ti (by rw [show V1 (o + 17) s = 0 by omega, Int.zero_mul]) | exact ml_0 ti (by rw [tGc_g1 (by omega) c168 (by omega), Int.mul_zero]) | exact ml_1 ti (tGc_g0 (by omega) hs9 c168 (by omega)) | exact ml_1 ti (tGc_d (by omega) hs9 c168 (by omega)) | exact ml_2 ti (tGc_i (by omega) hS2 hS3 hs9 hy c168 (by omega))) (by omega)
                · skip
                  refine g_aload_n rfl rfl ?_
                  refine g_getR rfl ms.1 (mr_then ms) ?_
                  refine g_iload rfl rfl ?_
                  refine g_dup2 rfl rfl rfl ?_
                  refine g_lald (i := s / 3) rfl (mt_then ms) (by omega) (by omega) ?_
                  refine g_aload_n rfl rfl ?_
                  refine g_getR rfl ms.1 (mr_now ms) ?_
                  refine g_iload rfl rfl ?_
                  refine g_lald (i := s) rfl (mt_now ms) (by omega) (by omega) ?_
                  refine g_top (v2 := aJ (V1 (o + 17) s)) (congrArg aJ (by show T2 (o + 17) s = V1 (o + 17) s; rw [ti.1 _ (by omega)])) ?_
                  refine g_laddW rfl ?_
                  refine g_last (i := s / 3) rfl (mt_then ms) (by omega) (by omega) ?_
                  obtain ⟨T3, eT3⟩ : ∃ W, W = vset T2 (o + 18) (s / 3) (w64 ((T2 (o + 18) (s / 3)) + (V1 (o + 17) s))) := ⟨_, rfl⟩
                  refine g_hp (h2 := hw h T3) (by rw [eT3]; rfl) ?_
                  have ti := ti.add (t := s / 3) (by omega) (V1 (o + 17) s)
                  rw [← eT3] at ti
                  refine g_goto rfl ?_
                  refine g_iinc (l1 := [(12, aI ((s : Int) + 1)), (14, aI (((s / 3 : Nat) : Int))), (13, aI (((s % 3 : Nat) : Int))), (11, aI (if gb n (8 * (c / w1) + c % w1) = true then 1 else 0)), (10, aI (((c / w1 : Nat) : Int))), (9, aI (((c % w1 : Nat) : Int))), (8, aI ((c : Int))), (7, aI (((3 ^ (w1 - 1) : Nat) : Int))), (6, aI (((3 ^ w1 : Nat) : Int))), (0, aO (some o)), (1, aI ((w1 : Int))), (2, aI ((l : Int))), (3, aJ n), (5, aI ((S : Int)))]) rfl rfl (by omega) (by omega) rfl ?_
                  refine g_goto rfl ?_
                  refine g_ls [0, 3, 4, 5, 6, 7, 8, 9, 10, 11, 12, 13] rfl rfl ?_
                  exact ih135 (s + 1) _ (by omega) (by first | exact ml_0 ti (by rw [show V1 (o + 17) s = 0 by omega, Int.zero_mul]) | exact ml_0 ti (by rw [tGc_g1 (by omega) c168 (by omega), Int.mul_zero]) | exact ml_1 ti (tGc_g0 (by omega) hs9 c168 (by omega)) | exact ml_1 ti (tGc_d (by omega) hs9 c168 (by omega)) | exact ml_2 ti (tGc_i (by omega) hS2 hS3 hs9 hy c168 (by omega))) (by omega)
      have j130 : ∀ (V1 : Nat → Nat → Int), (c < w1 * l) → (∀ a, a ≠ o + 18 → V1 a = T a) → (∀ j < 3 ^ w1, V1 (o + 18) j = 0) → (c % w1 < w1) → (c / w1 < l) → Wk w d cd_X12_lay 130 [(10, aI (((c / w1 : Nat) : Int))), (9, aI (((c % w1 : Nat) : Int))), (8, aI ((c : Int))), (7, aI (((3 ^ (w1 - 1) : Nat) : Int))), (6, aI (((3 ^ w1 : Nat) : Int))), (0, aO (some o)), (1, aI ((w1 : Int))), (2, aI ((l : Int))), (3, aJ n), (5, aI ((S : Int)))] [aI (if gb n (8 * (c / w1) + c % w1) = true then 1 else 0)] (hw h V1) (RJ (fun r h1 => (∃ V2, h1 = hw h V2 ∧ ∀ a, a ≠ o + 17 → a ≠ o + 18 → V2 a = V a) ∧ r = w64 (tGc S w1 l n (w1 * l) 0 0))) := by
        intro V1 hc hf1 hz1 hx hy
        refine g_istore (l1 := [(11, aI (if gb n (8 * (c / w1) + c % w1) = true then 1 else 0)), (10, aI (((c / w1 : Nat) : Int))), (9, aI (((c % w1 : Nat) : Int))), (8, aI ((c : Int))), (7, aI (((3 ^ (w1 - 1) : Nat) : Int))), (6, aI (((3 ^ w1 : Nat) : Int))), (0, aO (some o)), (1, aI ((w1 : Int))), (2, aI ((l : Int))), (3, aJ n), (5, aI ((S : Int)))]) rfl rfl ?_
        refine g_iconst rfl ?_
        refine g_istore (l1 := [(12, aI 0), (11, aI (if gb n (8 * (c / w1) + c % w1) = true then 1 else 0)), (10, aI (((c / w1 : Nat) : Int))), (9, aI (((c % w1 : Nat) : Int))), (8, aI ((c : Int))), (7, aI (((3 ^ (w1 - 1) : Nat) : Int))), (6, aI (((3 ^ w1 : Nat) : Int))), (0, aO (some o)), (1, aI ((w1 : Int))), (2, aI ((l : Int))), (3, aJ n), (5, aI ((S : Int)))]) rfl rfl ?_
        exact l135 V1 (by omega) (by exact hf1) (by exact hz1) (by omega) (by omega) _ 0 V1 (by omega) (by refine ⟨fun _ _ => rfl, fun i hi => ?_, ?_⟩; (rw [hz1 i hi]; unfold r64; omega); (rw [sm_zero fun i hi => by rw [hz1 i hi, Int.zero_mul]]; exact cg.rfl2 _)) (Nat.lt_succ_self _)
      have l75 : (c < w1 * l) → ∀ (fuel : Nat) (i : Nat) (V1 : Nat → Nat → Int), (i ≤ 3 ^ w1) → (∀ a, a ≠ o + 18 → V1 a = T a) → (∀ j < i, V1 (o + 18) j = 0) → 3 ^ w1 - i < fuel → Wk w d cd_X12_lay 75 [(9, aI ((i : Int))), (8, aI ((c : Int))), (7, aI (((3 ^ (w1 - 1) : Nat) : Int))), (6, aI (((3 ^ w1 : Nat) : Int))), (0, aO (some o)), (1, aI ((w1 : Int))), (2, aI ((l : Int))), (3, aJ n), (5, aI ((S : Int)))] [] (hw h V1) (RJ (fun r h1 => (∃ V2, h1 = hw h V2 ∧ ∀ a, a ≠ o + 17 → a ≠ o + 18 → V2 a = V a) ∧ r = w64 (tGc S w1 l n (w1 * l) 0 0))) := by
        intro hc fuel
        induction fuel with
        | zero => intros; omega
        | succ fuel ih75 =>
          intro i V1 hi hf1 hz1 hfuel
          refine g_iload rfl rfl ?_
          refine g_iload rfl rfl ?_
          refine g_icmp_ge rfl (fun c79 => ?_) (fun c79 => ?_)
          · skip
            have hx : c % w1 < w1 := Nat.mod_lt c hw0
            have hy : c / w1 < l := by rw [Nat.div_lt_iff_lt_mul hw0, Nat.mul_comm]; omega
            have hy2 : (0 : Int) ≤ ((c / w1 : Nat) : Int) := Int.natCast_nonneg _
            have hx2 : (0 : Int) ≤ ((c % w1 : Nat) : Int) := Int.natCast_nonneg _
            refine g_iload rfl rfl ?_
            refine g_iload_n rfl rfl ?_
            refine g_iremN (m := w1) (n := c) rfl (by omega) ?_
            refine g_istore (l1 := [(9, aI (((c % w1 : Nat) : Int))), (8, aI ((c : Int))), (7, aI (((3 ^ (w1 - 1) : Nat) : Int))), (6, aI (((3 ^ w1 : Nat) : Int))), (0, aO (some o)), (1, aI ((w1 : Int))), (2, aI ((l : Int))), (3, aJ n), (5, aI ((S : Int)))]) rfl rfl ?_
            refine g_iload rfl rfl ?_
            refine g_iload_n rfl rfl ?_
            refine g_idivN (m := w1) (n := c) rfl (by omega) (by omega) ?_
            refine g_istore (l1 := [(10, aI (((c / w1 : Nat) : Int))), (9, aI (((c % w1 : Nat) : Int))), (8, aI ((c : Int))), (7, aI (((3 ^ (w1 - 1) : Nat) : Int))), (6, aI (((3 ^ w1 : Nat) : Int))), (0, aO (some o)), (1, aI ((w1 : Int))), (2, aI ((l : Int))), (3, aJ n), (5, aI ((S : Int)))]) rfl rfl ?_
            refine g_lload_n rfl rfl ?_
            refine g_bipush rfl ?_
            refine g_iload rfl rfl ?_
            refine g_imul rfl (by omega) (by omega) ?_
            refine g_iload rfl rfl ?_
            refine g_iadd rfl (by omega) (by omega) ?_
            refine g_lshr rfl ?_
            refine g_lconst1 rfl ?_
            refine g_land rfl ?_
            refine g_top (v2 := aJ (n / 2 ^ (8 * (c / w1) + c % w1) % 2)) (congrArg aJ (by exact lshr_bit n (y := 8 * (c / w1) + c % w1) (by omega))) ?_
            refine g_lconst1 rfl ?_
            refine g_lc_ne rfl rfl (fun c121 => ?_) (fun c121 => ?_)
            · skip
              refine g_iconst rfl ?_
              refine g_top (v2 := aI (if gb n (8 * (c / w1) + c % w1) = true then 1 else 0)) (congrArg aI (bi_f (by unfold gb; rw [decide_eq_true_eq]; omega))) ?_
              exact j130 _ (by omega) (by exact hf1) (by intro j hj; exact hz1 j (by omega)) (by omega) (by omega)
            · skip
              refine g_iconst rfl ?_
              refine g_goto rfl ?_
              refine g_top (v2 := aI (if gb n (8 * (c / w1) + c % w1) = true then 1 else 0)) (congrArg aI (bi_t (by unfold gb; rw [decide_eq_true_eq]; omega))) ?_
              exact j130 _ (by omega) (by exact hf1) (by intro j hj; exact hz1 j (by omega)) (by omega) (by omega)
          · skip
            refine g_aload_n rfl rfl ?_
            refine g_getR rfl ms.1 (mr_then ms) ?_
            refine g_iload rfl rfl ?_
            refine g_lconst0 rfl ?_
            refine g_last (i := i) rfl (mt_then ms) (by omega) (by omega) ?_
            refine g_iinc (l1 := [(9, aI ((i : Int) + 1)), (8, aI ((c : Int))), (7, aI (((3 ^ (w1 - 1) : Nat) : Int))), (6, aI (((3 ^ w1 : Nat) : Int))), (0, aO (some o)), (1, aI ((w1 : Int))), (2, aI ((l : Int))), (3, aJ n), (5, aI ((S : Int)))]) rfl rfl (by omega) (by omega) rfl ?_
            refine g_goto rfl ?_
            exact ih75 (i + 1) (vset V1 (o + 18) i 0) (by omega) (by intro a h1; funext j; rw [vset_ne _ _ _ _ (by omega), hf1 a h1]) (by intro j hj; by_cases e : j = i; (rw [e, vset_eq]); (rw [vset_ne _ _ _ _ (by omega)]; exact hz1 j (by omega))) (by omega)
      refine g_iload rfl rfl ?_
      refine g_iload_n rfl rfl ?_
      refine g_iload_n rfl rfl ?_
      refine g_imul rfl (by omega) (by omega) ?_
      refine g_icmp_ge rfl (fun c69 => ?_) (fun c69 => ?_)
      · skip
        rw [show c = w1 * l by omega] at li
        refine g_aload_n rfl rfl ?_
        refine g_getR rfl ms.1 (mr_now ms) ?_
        refine g_iconst rfl ?_
        refine g_lald (i := 0) rfl (mt_now ms) (by omega) (by omega) ?_
        refine g_lret rfl ?_
        exact ⟨⟨T, rfl, li.1⟩, LInvM.fin hw0 li⟩
      · skip
        refine g_iconst rfl ?_
        refine g_istore (l1 := [(9, aI 0), (8, aI ((c : Int))), (7, aI (((3 ^ (w1 - 1) : Nat) : Int))), (6, aI (((3 ^ w1 : Nat) : Int))), (0, aO (some o)), (1, aI ((w1 : Int))), (2, aI ((l : Int))), (3, aJ n), (5, aI ((S : Int)))]) rfl rfl ?_
        exact l75 (by omega) _ 0 T (by omega) (by intro a _; rfl) (by intro j hj; omega) (Nat.lt_succ_self _)
  have l33 : ∀ (fuel : Nat) (i : Nat) (V1 : Nat → Nat → Int), (i ≤ 3 ^ w1) → (∀ a, a ≠ o + 17 → a ≠ o + 18 → V1 a = V a) → (∀ j < i, V1 (o + 17) j = 0) → 3 ^ w1 - i < fuel → Wk w d cd_X12_lay 33 [(8, aI ((i : Int))), (7, aI (((3 ^ (w1 - 1) : Nat) : Int))), (6, aI (((3 ^ w1 : Nat) : Int))), (0, aO (some o)), (1, aI ((w1 : Int))), (2, aI ((l : Int))), (3, aJ n), (5, aI ((S : Int)))] [] (hw h V1) (RJ (fun r h1 => (∃ V2, h1 = hw h V2 ∧ ∀ a, a ≠ o + 17 → a ≠ o + 18 → V2 a = V a) ∧ r = w64 (tGc S w1 l n (w1 * l) 0 0))) := by
    intro fuel
    induction fuel with
    | zero => intros; omega
    | succ fuel ih33 =>
      intro i V1 hi hf hz hfuel
      refine g_iload rfl rfl ?_
      refine g_iload rfl rfl ?_
      refine g_icmp_ge rfl (fun c37 => ?_) (fun c37 => ?_)
      · skip
        refine g_aload_n rfl rfl ?_
        refine g_getR rfl ms.1 (mr_now ms) ?_
        refine g_iconst rfl ?_
        refine g_lconst1 rfl ?_
        refine g_last (i := 0) rfl (mt_now ms) (by omega) (by omega) ?_
        refine g_iconst rfl ?_
        refine g_istore (l1 := [(8, aI 0), (7, aI (((3 ^ (w1 - 1) : Nat) : Int))), (6, aI (((3 ^ w1 : Nat) : Int))), (0, aO (some o)), (1, aI ((w1 : Int))), (2, aI ((l : Int))), (3, aJ n), (5, aI ((S : Int)))]) rfl rfl ?_
        exact l64 _ 0 _ (by omega) (by exact LInvM.init (T := vset V1 (o + 17) 0 1) (fun a h1 h2 => by funext j; rw [vset_ne _ _ _ _ (by omega), hf a h1 h2]) (vset_eq _ _ _ _) (fun i h1 h2 => by rw [vset_ne _ _ _ _ (by omega)]; exact hz i (by omega))) (Nat.lt_succ_self _)
      · skip
        refine g_aload_n rfl rfl ?_
        refine g_getR rfl ms.1 (mr_now ms) ?_
        refine g_iload rfl rfl ?_
        refine g_lconst0 rfl ?_
        refine g_last (i := i) rfl (mt_now ms) (by omega) (by omega) ?_
        refine g_iinc (l1 := [(8, aI ((i : Int) + 1)), (7, aI (((3 ^ (w1 - 1) : Nat) : Int))), (6, aI (((3 ^ w1 : Nat) : Int))), (0, aO (some o)), (1, aI ((w1 : Int))), (2, aI ((l : Int))), (3, aJ n), (5, aI ((S : Int)))]) rfl rfl (by omega) (by omega) rfl ?_
        refine g_goto rfl ?_
        exact ih33 (i + 1) (vset V1 (o + 17) i 0) (by omega) (by intro a h1 h2; funext j; rw [vset_ne _ _ _ _ (by omega), hf a h1 h2]) (by intro j hj; by_cases e : j = i; (rw [e, vset_eq]); (rw [vset_ne _ _ _ _ (by omega)]; exact hz j (by omega))) (by omega)
  have l6 : ∀ (fuel : Nat) (i : Nat), (i ≤ w1) → w1 - i < fuel → Wk w d cd_X12_lay 6 [(7, aI ((i : Int))), (6, aI (((3 ^ i : Nat) : Int))), (0, aO (some o)), (1, aI ((w1 : Int))), (2, aI ((l : Int))), (3, aJ n), (5, aI ((S : Int)))] [] (hw h V) (RJ (fun r h1 => (∃ V2, h1 = hw h V2 ∧ ∀ a, a ≠ o + 17 → a ≠ o + 18 → V2 a = V a) ∧ r = w64 (tGc S w1 l n (w1 * l) 0 0))) := by
    intro fuel
    induction fuel with
    | zero => intros; omega
    | succ fuel ih6 =>
      intro i hi hfuel
      have hp1 := pw3 (S := 3) (m := i) (by omega) (by omega)
      have hp2 := pw3 (S := 3) (m := i + 1) (by omega) (by omega)
      have hp4 : ((3 ^ i : Nat) : Int) * (3 : Int) = ((3 ^ (i + 1) : Nat) : Int) := by rw [Nat.pow_succ, Int.natCast_mul]; rfl
      have hp5 : (0 : Int) ≤ ((3 ^ (i + 1) : Nat) : Int) := Int.natCast_nonneg _
      refine g_iload rfl rfl ?_
      refine g_iload_n rfl rfl ?_
      refine g_icmp_ge rfl (fun c9 => ?_) (fun c9 => ?_)
      · skip
        rw [show i = w1 by omega]
        refine g_iload rfl rfl ?_
        refine g_iconst rfl ?_
        refine g_idivN (m := 3) (n := (3 ^ w1)) rfl (by omega) (by omega) ?_
        refine g_top (v2 := aI (((3 ^ (w1 - 1) : Nat) : Int))) (congrArg aI (by omega)) ?_
        refine g_istore (l1 := [(7, aI (((3 ^ (w1 - 1) : Nat) : Int))), (6, aI (((3 ^ w1 : Nat) : Int))), (0, aO (some o)), (1, aI ((w1 : Int))), (2, aI ((l : Int))), (3, aJ n), (5, aI ((S : Int)))]) rfl rfl ?_
        refine g_iconst rfl ?_
        refine g_istore (l1 := [(8, aI 0), (7, aI (((3 ^ (w1 - 1) : Nat) : Int))), (6, aI (((3 ^ w1 : Nat) : Int))), (0, aO (some o)), (1, aI ((w1 : Int))), (2, aI ((l : Int))), (3, aJ n), (5, aI ((S : Int)))]) rfl rfl ?_
        exact l33 _ 0 V (by omega) (by intro a _ _; rfl) (by intro j hj; omega) (Nat.lt_succ_self _)
      · skip
        refine g_iload rfl rfl ?_
        refine g_iconst rfl ?_
        refine g_imul rfl (by rw [hp4]; omega) (by rw [hp4]; omega) ?_
        refine g_top (v2 := aI (((3 ^ (i + 1) : Nat) : Int))) (congrArg aI (by exact hp4)) ?_
        refine g_istore (l1 := [(6, aI (((3 ^ (i + 1) : Nat) : Int))), (7, aI ((i : Int))), (0, aO (some o)), (1, aI ((w1 : Int))), (2, aI ((l : Int))), (3, aJ n), (5, aI ((S : Int)))]) rfl rfl ?_
        refine g_iinc (l1 := [(7, aI ((i : Int) + 1)), (6, aI (((3 ^ (i + 1) : Nat) : Int))), (0, aO (some o)), (1, aI ((w1 : Int))), (2, aI ((l : Int))), (3, aJ n), (5, aI ((S : Int)))]) rfl rfl (by omega) (by omega) rfl ?_
        refine g_goto rfl ?_
        exact ih6 (i + 1) (by omega) (by omega)
  refine g_iconst rfl ?_
  refine g_istore (l1 := [(6, aI 1), (0, aO (some o)), (1, aI ((w1 : Int))), (2, aI ((l : Int))), (3, aJ n), (5, aI ((S : Int)))]) rfl rfl ?_
  refine g_iconst rfl ?_
  refine g_istore (l1 := [(7, aI 0), (6, aI 1), (0, aO (some o)), (1, aI ((w1 : Int))), (2, aI ((l : Int))), (3, aJ n), (5, aI ((S : Int)))]) rfl rfl ?_
  exact l6 _ 0 (by omega) (Nat.lt_succ_self _)
