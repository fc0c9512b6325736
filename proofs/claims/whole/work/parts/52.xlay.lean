/-! the class lays one cell, then all: printed by wip/whole/s52.py -/
section LAYP
variable {S w l k y x s nb wa : Nat} {n : Int} {V V1 : Nat → Nat → Int}
noncomputable abbrev tG1 (S w l : Nat) (n : Int) (k c : Nat) (f : Nat → Int) : Nat → Int := fun i => f i * tFc S w l n (k + 1) c i
theorem lay_p0 (ti : TI V V1 nb (S ^ w) (tFc S w l n k (w * y + x + 1)) (sm s (tG1 S w l n k (w * y + x) (V wa)))) (h0 : V wa s = 0) : TI V V1 nb (S ^ w) (tFc S w l n k (w * y + x + 1)) (sm (s + 1) (tG1 S w l n k (w * y + x) (V wa))) :=
  ti.to (by show _ = sm s _ + V wa s * _; rw [h0, Int.zero_mul, Int.add_zero])
theorem lay_pd (hS : 2 ≤ S) (hx : x < w) (hd : 0 < s / S ^ x % S) (ti : TI V V1 nb (S ^ w) (tFc S w l n k (w * y + x + 1)) (sm s (tG1 S w l n k (w * y + x) (V wa)) + V wa s * tFc S w l n k (w * y + x + 1) (s - S ^ x))) : TI V V1 nb (S ^ w) (tFc S w l n k (w * y + x + 1)) (sm (s + 1) (tG1 S w l n k (w * y + x) (V wa))) :=
  ti.to (by show _ = sm s _ + V wa s * _; rw [tFc_dec hS hx hd])
theorem lay_po (hx : x < w) (hd : s / S ^ x % S = 0) (ho : tout w l n x y = true) (ti : TI V V1 nb (S ^ w) (tFc S w l n k (w * y + x + 1)) (sm s (tG1 S w l n k (w * y + x) (V wa)) + V wa s * tFc S w l n k (w * y + x + 1) s)) : TI V V1 nb (S ^ w) (tFc S w l n k (w * y + x + 1)) (sm (s + 1) (tG1 S w l n k (w * y + x) (V wa))) :=
  ti.to (by show _ = sm s _ + V wa s * _; rw [tFc_out hx hd ho])
noncomputable def tAc (S w l : Nat) (n : Int) (k c x y s : Nat) : Int := haveI := Classical.propDecidable (tacr S w l n (dgc S s) x y); if tacr S w l n (dgc S s) x y then tFc S w l n k c (s + sacr S x (S - 1)) else 0
theorem lay_pi (hS : 2 ≤ S) (hx : x < w) (hs : s < S ^ w) (hd : s / S ^ x % S = 0) (ho : ¬tout w l n x y = true) (hr : rmB w l n x y (S - 1) = true) (ti : TI V V1 nb (S ^ w) (tFc S w l n k (w * y + x + 1)) (sm s (tG1 S w l n k (w * y + x) (V wa)) + V wa s * tFc S w l n k (w * y + x + 1) (s + (S - 1) * S ^ x) + V wa s * tAc S w l n k (w * y + x + 1) x y s)) : TI V V1 nb (S ^ w) (tFc S w l n k (w * y + x + 1)) (sm (s + 1) (tG1 S w l n k (w * y + x) (V wa))) :=
  ti.to (by show _ = sm s _ + V wa s * _; rw [tFc_in hS hx hs hd (by simpa using ho), if_pos hr, Int.mul_add, Int.add_assoc]; rfl)
theorem lay_pj (hS : 2 ≤ S) (hx : x < w) (hs : s < S ^ w) (hd : s / S ^ x % S = 0) (ho : ¬tout w l n x y = true) (hr : ¬rmB w l n x y (S - 1) = true) (ti : TI V V1 nb (S ^ w) (tFc S w l n k (w * y + x + 1)) (sm s (tG1 S w l n k (w * y + x) (V wa)) + V wa s * tAc S w l n k (w * y + x + 1) x y s)) : TI V V1 nb (S ^ w) (tFc S w l n k (w * y + x + 1)) (sm (s + 1) (tG1 S w l n k (w * y + x) (V wa))) :=
  ti.to (by show _ = sm s _ + V wa s * _; rw [tFc_in hS hx hs hd (by simpa using ho), if_neg hr, Int.zero_add]; rfl)
end LAYP
theorem x_addWays {w : aW} {d : Nat} (hd : 1 ≤ d) {h : aH} {c : Nat} (cs : CS h c) (V : Nat → Nat → Int) (nb : Nat) (hn1 : hR h (c + 27) 1 = some nb) (tn : hT h nb = (2, 6561)) (t m : Int) : WP w d 6 [aO (some (c + 27)), aI t, aJ m] (hw h V) (RN (fun h1 => if 0 ≤ t ∧ t < 6561 then h1 = hw h (vset V nb t.toNat (w64 (V nb t.toNat + m))) else h1 = hw h V)) := by
  obtain ⟨d, rfl⟩ : ∃ d1, d = d1 + 1 := ⟨d - 1, by omega⟩
  refine WP.enter (cd := cd_X0_addWays) rfl ?_
  have hls : largs 0 [aO (some (c + 27)), aI t, aJ m] = [(0, aO (some (c + 27))), (1, aI t), (2, aJ m)] := rfl
  rw [hls]
  clear hls
  refine g_iload_n rfl rfl ?_
  refine g_if_lt rfl (fun c1 => ?_) (fun c1 => ?_)
  · skip
    refine g_vret rfl ?_
    first | (rw [if_pos (by omega)]; rfl) | (rw [if_neg (by omega)])
  · skip
    refine g_iload_n rfl rfl ?_
    refine g_sipush rfl ?_
    refine g_icmp_ge rfl (fun c8 => ?_) (fun c8 => ?_)
    · skip
      refine g_vret rfl ?_
      first | (rw [if_pos (by omega)]; rfl) | (rw [if_neg (by omega)])
    · skip
      refine g_aload_n rfl rfl ?_
      refine g_getR rfl (cs.kd 27 (by omega) rfl) hn1 ?_
      refine g_iload_n rfl rfl ?_
      refine g_dup2 rfl rfl rfl ?_
      refine g_lald (i := t.toNat) rfl tn (by omega) (by omega) ?_
      refine g_lload_n rfl rfl ?_
      refine g_laddW rfl ?_
      refine g_last (i := t.toNat) rfl tn (by omega) (by omega) ?_
      refine g_vret rfl ?_
      first | (rw [if_pos (by omega)]; rfl) | (rw [if_neg (by omega)])
set_option maxRecDepth 100000 in
theorem x_layCell {w : aW} {d : Nat} (hd : 3 ≤ d) {h : aH} {c : Nat} (cs : CS h c) (V : Nat → Nat → Int) (nb : Nat) (hn1 : hR h (c + 27) 1 = some nb) (tn : hT h nb = (2, 6561)) (wa : Nat) (hn0 : hR h (c + 27) 0 = some wa) (ta : hT h wa = (2, 6561)) (hwn : wa ≠ nb) (hna : c + 34 ≤ nb) (haa : c + 34 ≤ wa) (w1 l : Nat) (n : Int) (hwd : V (c + 27) 2 = w1) (hlt : V (c + 27) 3 = l) (hgn : V (c + 27) 4 = n) (hw8 : w1 ≤ 8) (hl8 : l ≤ 8) (S : Nat) (hS : V (c + 27) 5 = S) (hS2 : 2 ≤ S) (hS3 : S ≤ 3) (k x y : Nat) (hx : x < w1) (hy : y < l) : WP w d 4 [aO (some (c + 27)), aI ((x : Int)), aI ((y : Int)), aI (((S ^ x : Nat) : Int)), aI (((S ^ w1 : Nat) : Int))] (hw h V) (RN (fun h1 => ∃ V2, h1 = hw (hput (hput h (c + 27) 0 (some nb)) (c + 27) 1 (some wa)) V2 ∧ TI V V2 nb (S ^ w1) (tFc S w1 l n k (w1 * y + x + 1)) (sm (S ^ w1) (tG1 S w1 l n k (w1 * y + x) (V wa))))) := by
  obtain ⟨d, rfl⟩ : ∃ d1, d = d1 + 1 := ⟨d - 1, by omega⟩
  refine WP.enter (cd := cd_X0_layCell) rfl ?_
  have hN : S ^ w1 ≤ 6561 := Nat.le_trans (Nat.pow_le_pow_left hS3 w1) (Nat.pow_le_pow_right (n := 3) (by omega) hw8)
  have hp0 := pw3 (m := x) hS3 (by omega)
  have hm9 : (S - 1) * S ^ x ≤ 2 * 59049 := Nat.mul_le_mul (by omega) hp0
  have hls : largs 0 [aO (some (c + 27)), aI ((x : Int)), aI ((y : Int)), aI (((S ^ x : Nat) : Int)), aI (((S ^ w1 : Nat) : Int))] = [(0, aO (some (c + 27))), (1, aI ((x : Int))), (2, aI ((y : Int))), (3, aI (((S ^ x : Nat) : Int))), (4, aI (((S ^ w1 : Nat) : Int)))] := rfl
  rw [hls]
  clear hls
  have l88 : ∀ (fuel : Nat) (s : Nat) (T1 : Nat → Nat → Int) (rb : Bool), (rb = rmB w1 l n x y (S - 1)) → (s ≤ S ^ w1) → (TI V T1 nb (S ^ w1) (tFc S w1 l n k (w1 * y + x + 1)) (sm s (tG1 S w1 l n k (w1 * y + x) (V wa)))) → S ^ w1 - s < fuel → Wk w d cd_X0_layCell 88 [(7, aI ((s : Int))), (6, aI (if rb = true then 1 else 0)), (5, aI (if tout w1 l n x y = true then 1 else 0)), (0, aO (some (c + 27))), (1, aI ((x : Int))), (2, aI ((y : Int))), (3, aI (((S ^ x : Nat) : Int))), (4, aI (((S ^ w1 : Nat) : Int)))] [] (hw h T1) (RN (fun h1 => ∃ V2, h1 = hw (hput (hput h (c + 27) 0 (some nb)) (c + 27) 1 (some wa)) V2 ∧ TI V V2 nb (S ^ w1) (tFc S w1 l n k (w1 * y + x + 1)) (sm (S ^ w1) (tG1 S w1 l n k (w1 * y + x) (V wa))))) := by
    intro fuel
    induction fuel with
    | zero => intros; omega
    | succ fuel ih88 =>
      intro s T1 rb hrb hs ti hfuel
      refine g_iload rfl rfl ?_
      refine g_iload rfl rfl ?_
      refine g_icmp_ge rfl (fun c90 => ?_) (fun c90 => ?_)
      · skip
        refine g_aload_n rfl rfl ?_
        refine g_getR rfl (cs.kd 27 (by omega) rfl) hn0 ?_
        refine g_astore (l1 := [(7, aO (some wa)), (6, aI (if rb = true then 1 else 0)), (5, aI (if tout w1 l n x y = true then 1 else 0)), (0, aO (some (c + 27))), (1, aI ((x : Int))), (2, aI ((y : Int))), (3, aI (((S ^ x : Nat) : Int))), (4, aI (((S ^ w1 : Nat) : Int)))]) rfl rfl ?_
        refine g_aload_n rfl rfl ?_
        refine g_aload_n rfl rfl ?_
        refine g_getR rfl (cs.kd 27 (by omega) rfl) hn1 ?_
        refine g_putR rfl (cs.kd 27 (by omega) rfl) ?_
        refine g_hp (h2 := hw (hput h (c + 27) 0 (some nb)) T1) rfl ?_
        refine g_aload_n rfl rfl ?_
        refine g_aload rfl rfl ?_
        refine g_putR rfl (cs.kd 27 (by omega) rfl) ?_
        refine g_hp (h2 := hw (hput (hput h (c + 27) 0 (some nb)) (c + 27) 1 (some wa)) T1) rfl ?_
        refine g_vret rfl ?_
        refine ⟨T1, rfl, ?_⟩
        rw [show S ^ w1 = s by omega] at ti ⊢
        exact ti
      · skip
        have hs9 : s < S ^ w1 := by omega
        refine g_iload rfl rfl ?_
        refine g_sipush rfl ?_
        refine g_icmp_ge_f rfl (by omega) ?_
        refine g_aload_n rfl rfl ?_
        refine g_getR rfl (cs.kd 27 (by omega) rfl) hn0 ?_
        refine g_iload rfl rfl ?_
        refine g_lald (i := s) rfl ta (by omega) (by omega) ?_
        refine g_top (v2 := aJ (V wa s)) (congrArg aJ (by show T1 wa s = V wa s; rw [ti.1 _ (by omega)])) ?_
        refine g_lconst0 rfl ?_
        refine g_lc_ne rfl rfl (fun c111 => ?_) (fun c111 => ?_)
        · skip
          refine g_aload_n rfl rfl ?_
          refine g_iload rfl rfl ?_
          refine g_iload_n rfl rfl ?_
          refine g_callVI [aI ((s : Int)), aI (((S ^ x : Nat) : Int))] [] rfl rfl rfl rfl (Nat.le_of_ble_eq_true rfl) (cs.kd 27 (by omega) rfl) (x_digit (by omega) cs T1 S (by rw [ti.1 _ (by omega)]; exact hS) hS2 hS3 (s) (S ^ x) (Nat.pow_pos (by omega)) (by omega)) ?_
          rintro _ _ ⟨rfl, rfl⟩
          refine g_if_le rfl (fun c125 => ?_) (fun c125 => ?_)
          · skip
            refine g_iload rfl rfl ?_
            refine g_b_eq rfl (fun c148 => ?_) (fun c148 => ?_)
            · skip
              refine g_iload rfl rfl ?_
              refine g_b_eq rfl (fun c169 => ?_) (fun c169 => ?_)
              · skip
                refine g_aload_n rfl rfl ?_
                refine g_aload_n rfl rfl ?_
                refine g_iload rfl rfl ?_
                refine g_iload_n rfl rfl ?_
                refine g_iload_n rfl rfl ?_
                refine g_iload_n rfl rfl ?_
                refine g_callVI [aI ((s : Int)), aI ((x : Int)), aI ((y : Int)), aI (((S ^ x : Nat) : Int))] [aO (some (c + 27))] rfl rfl rfl rfl (Nat.le_of_ble_eq_true rfl) (cs.kd 27 (by omega) rfl) (x_across (by omega) cs T1 w1 l n (by rw [ti.1 _ (by omega)]; exact hwd) (by rw [ti.1 _ (by omega)]; exact hlt) (by rw [ti.1 _ (by omega)]; exact hgn) hw8 hl8 S (by rw [ti.1 _ (by omega)]; exact hS) hS2 hS3 s x y (by omega) hx hy) ?_
                rintro r _ ⟨rfl, hq⟩
                refine g_aload_n rfl rfl ?_
                refine g_getR rfl (cs.kd 27 (by omega) rfl) hn0 ?_
                refine g_iload rfl rfl ?_
                refine g_lald (i := s) rfl ta (by omega) (by omega) ?_
                refine g_top (v2 := aJ (V wa s)) (congrArg aJ (by show T1 wa s = V wa s; rw [ti.1 _ (by omega)])) ?_
                refine g_callVN [aI r, aJ (V wa s)] [] rfl rfl rfl rfl (Nat.le_of_ble_eq_true rfl) (cs.kd 27 (by omega) rfl) (x_addWays (by omega) cs T1 nb hn1 tn r (V wa s)) ?_
                rintro h2 q
                obtain ⟨T1, hV2, ti⟩ : ∃ V2, h2 = hw h V2 ∧ TI V V2 nb (S ^ w1) (tFc S w1 l n k (w1 * y + x + 1)) (_ + V wa s * tAc S w1 l n k (w1 * y + x + 1) x y s) := by
                  rcases hq with ⟨hq, rfl⟩ | ⟨hq, rfl⟩
                  · have hlt := (dg_sacr (x := x) hS2 hs9 (S - 1) (fun i h1 h2 => by
                      obtain ⟨q1, q2⟩ := hq i h1 (by omega)
                      unfold tout at q1
                      simp only [Bool.or_eq_false_iff, decide_eq_false_iff_not] at q1
                      exact ⟨by omega, q2⟩)).1
                    rw [if_pos ⟨by omega, by omega⟩] at q
                    exact ⟨_, q, (ti.add hlt (V wa s)).to (by unfold tAc; rw [if_pos hq])⟩
                  · rw [if_neg (by omega)] at q
                    exact ⟨_, q, ti.to (by unfold tAc; rw [if_neg hq, Int.mul_zero, Int.add_zero])⟩
                subst hV2
                refine g_iinc (l1 := [(7, aI ((s : Int) + 1)), (6, aI (if rb = true then 1 else 0)), (5, aI (if tout w1 l n x y = true then 1 else 0)), (0, aO (some (c + 27))), (1, aI ((x : Int))), (2, aI ((y : Int))), (3, aI (((S ^ x : Nat) : Int))), (4, aI (((S ^ w1 : Nat) : Int)))]) rfl rfl (by omega) (by omega) rfl ?_
                refine g_goto rfl ?_
                exact ih88 (s + 1) _ rb (by exact hrb) (by omega) (by first | exact lay_p0 ti (by omega) | exact lay_pd hS2 hx (by omega) ti | exact lay_po hx (by omega) c148 ti | exact lay_pi hS2 hx hs9 (by omega) c148 (by rw [← hrb]; exact c169) ti | exact lay_pj hS2 hx hs9 (by omega) c148 (by rw [← hrb]; exact c169) ti) (by omega)
              · skip
                have hrm := dg_lt (e := S - 1) (w := w1) (p := x) (by omega) hx hs9 (by omega)
                refine g_aload_n rfl rfl ?_
                refine g_iload rfl rfl ?_
                refine g_aload_n rfl rfl ?_
                refine g_getI rfl (cs.kd 27 (by omega) rfl) ?_
                refine g_top (v2 := aI ((S : Int))) (congrArg aI (by show T1 (c + 27) 5 = (S : Int); rw [ti.1 _ (by omega), hS])) ?_
                refine g_iconst rfl ?_
                refine g_isub rfl (by omega) (by omega) ?_
                refine g_top (v2 := aI (((S - 1 : Nat) : Int))) (congrArg aI (by omega)) ?_
                refine g_iload_n rfl rfl ?_
                refine g_imul rfl (by omega) (by omega) ?_
                refine g_iadd rfl (by omega) (by omega) ?_
                refine g_aload_n rfl rfl ?_
                refine g_getR rfl (cs.kd 27 (by omega) rfl) hn0 ?_
                refine g_iload rfl rfl ?_
                refine g_lald (i := s) rfl ta (by omega) (by omega) ?_
                refine g_top (v2 := aJ (V wa s)) (congrArg aJ (by show T1 wa s = V wa s; rw [ti.1 _ (by omega)])) ?_
                refine g_callVN [aI (((s : Int)) + ((((S - 1 : Nat) : Int)) * (((S ^ x : Nat) : Int)))), aJ (V wa s)] [] rfl rfl rfl rfl (Nat.le_of_ble_eq_true rfl) (cs.kd 27 (by omega) rfl) (x_addWays (by omega) cs T1 nb hn1 tn (((s : Int)) + ((((S - 1 : Nat) : Int)) * (((S ^ x : Nat) : Int)))) (V wa s)) ?_
                rintro h2 q
                rw [if_pos ⟨by omega, by omega⟩] at q
                subst q
                obtain ⟨T2, e2⟩ : ∃ W, W = vset T1 nb (s + ((S - 1) * (S ^ x))) (w64 (T1 nb (s + ((S - 1) * (S ^ x))) + V wa s)) := ⟨_, rfl⟩
                refine g_hp (h2 := hw h T2) (by rw [e2]; rfl) ?_
                have ti := ti.add (t := s + ((S - 1) * (S ^ x))) (by omega) (V wa s)
                rw [← e2] at ti
                clear e2
                refine g_aload_n rfl rfl ?_
                refine g_aload_n rfl rfl ?_
                refine g_iload rfl rfl ?_
                refine g_iload_n rfl rfl ?_
                refine g_iload_n rfl rfl ?_
                refine g_iload_n rfl rfl ?_
                refine g_callVI [aI ((s : Int)), aI ((x : Int)), aI ((y : Int)), aI (((S ^ x : Nat) : Int))] [aO (some (c + 27))] rfl rfl rfl rfl (Nat.le_of_ble_eq_true rfl) (cs.kd 27 (by omega) rfl) (x_across (by omega) cs T2 w1 l n (by rw [ti.1 _ (by omega)]; exact hwd) (by rw [ti.1 _ (by omega)]; exact hlt) (by rw [ti.1 _ (by omega)]; exact hgn) hw8 hl8 S (by rw [ti.1 _ (by omega)]; exact hS) hS2 hS3 s x y (by omega) hx hy) ?_
                rintro r _ ⟨rfl, hq⟩
                refine g_aload_n rfl rfl ?_
                refine g_getR rfl (cs.kd 27 (by omega) rfl) hn0 ?_
                refine g_iload rfl rfl ?_
                refine g_lald (i := s) rfl ta (by omega) (by omega) ?_
                refine g_top (v2 := aJ (V wa s)) (congrArg aJ (by show T2 wa s = V wa s; rw [ti.1 _ (by omega)])) ?_
                refine g_callVN [aI r, aJ (V wa s)] [] rfl rfl rfl rfl (Nat.le_of_ble_eq_true rfl) (cs.kd 27 (by omega) rfl) (x_addWays (by omega) cs T2 nb hn1 tn r (V wa s)) ?_
                rintro h2 q
                obtain ⟨T3, hV2, ti⟩ : ∃ V2, h2 = hw h V2 ∧ TI V V2 nb (S ^ w1) (tFc S w1 l n k (w1 * y + x + 1)) (_ + V wa s * tAc S w1 l n k (w1 * y + x + 1) x y s) := by
                  rcases hq with ⟨hq, rfl⟩ | ⟨hq, rfl⟩
                  · have hlt := (dg_sacr (x := x) hS2 hs9 (S - 1) (fun i h1 h2 => by
                      obtain ⟨q1, q2⟩ := hq i h1 (by omega)
                      unfold tout at q1
                      simp only [Bool.or_eq_false_iff, decide_eq_false_iff_not] at q1
                      exact ⟨by omega, q2⟩)).1
                    rw [if_pos ⟨by omega, by omega⟩] at q
                    exact ⟨_, q, (ti.add hlt (V wa s)).to (by unfold tAc; rw [if_pos hq])⟩
                  · rw [if_neg (by omega)] at q
                    exact ⟨_, q, ti.to (by unfold tAc; rw [if_neg hq, Int.mul_zero, Int.add_zero])⟩
                subst hV2
                refine g_iinc (l1 := [(7, aI ((s : Int) + 1)), (6, aI (if rb = true then 1 else 0)), (5, aI (if tout w1 l n x y = true then 1 else 0)), (0, aO (some (c + 27))), (1, aI ((x : Int))), (2, aI ((y : Int))), (3, aI (((S ^ x : Nat) : Int))), (4, aI (((S ^ w1 : Nat) : Int)))]) rfl rfl (by omega) (by omega) rfl ?_
                refine g_goto rfl ?_
                exact ih88 (s + 1) _ rb (by exact hrb) (by omega) (by first | exact lay_p0 ti (by omega) | exact lay_pd hS2 hx (by omega) ti | exact lay_po hx (by omega) c148 ti | exact lay_pi hS2 hx hs9 (by omega) c148 (by rw [← hrb]; exact c169) ti | exact lay_pj hS2 hx hs9 (by omega) c148 (by rw [← hrb]; exact c169) ti) (by omega)
            · skip
              refine g_aload_n rfl rfl ?_
              refine g_iload rfl rfl ?_
              refine g_aload_n rfl rfl ?_
              refine g_getR rfl (cs.kd 27 (by omega) rfl) hn0 ?_
              refine g_iload rfl rfl ?_
              refine g_lald (i := s) rfl ta (by omega) (by omega) ?_
              refine g_top (v2 := aJ (V wa s)) (congrArg aJ (by show T1 wa s = V wa s; rw [ti.1 _ (by omega)])) ?_
              refine g_callVN [aI ((s : Int)), aJ (V wa s)] [] rfl rfl rfl rfl (Nat.le_of_ble_eq_true rfl) (cs.kd 27 (by omega) rfl) (x_addWays (by omega) cs T1 nb hn1 tn ((s : Int)) (V wa s)) ?_
              rintro h2 q
              rw [if_pos ⟨by omega, by omega⟩] at q
              subst q
              obtain ⟨T4, e2⟩ : ∃ W, W = vset T1 nb (s) (w64 (T1 nb (s) + V wa s)) := ⟨_, rfl⟩
              refine g_hp (h2 := hw h T4) (by rw [e2]; rfl) ?_
              have ti := ti.add (t := s) (by omega) (V wa s)
              rw [← e2] at ti
              clear e2
              refine g_goto rfl ?_
              refine g_iinc (l1 := [(7, aI ((s : Int) + 1)), (6, aI (if rb = true then 1 else 0)), (5, aI (if tout w1 l n x y = true then 1 else 0)), (0, aO (some (c + 27))), (1, aI ((x : Int))), (2, aI ((y : Int))), (3, aI (((S ^ x : Nat) : Int))), (4, aI (((S ^ w1 : Nat) : Int)))]) rfl rfl (by omega) (by omega) rfl ?_
              refine g_goto rfl ?_
              exact ih88 (s + 1) _ rb (by exact hrb) (by omega) (by first | exact lay_p0 ti (by omega) | exact lay_pd hS2 hx (by omega) ti | exact lay_po hx (by omega) c148 ti | exact lay_pi hS2 hx hs9 (by omega) c148 (by rw [← hrb]; exact c169) ti | exact lay_pj hS2 hx hs9 (by omega) c148 (by rw [← hrb]; exact c169) ti) (by omega)
          · skip
            refine g_aload_n rfl rfl ?_
            refine g_iload rfl rfl ?_
            refine g_iload_n rfl rfl ?_
            have hle := (dg_sub (S := S) (p := x) (s := s) (j := 0) (by omega) (by omega)).1
            refine g_isub rfl (by omega) (by omega) ?_
            refine g_top (v2 := aI (((s - S ^ x : Nat) : Int))) (congrArg aI (by omega)) ?_
            refine g_aload_n rfl rfl ?_
            refine g_getR rfl (cs.kd 27 (by omega) rfl) hn0 ?_
            refine g_iload rfl rfl ?_
            refine g_lald (i := s) rfl ta (by omega) (by omega) ?_
            refine g_top (v2 := aJ (V wa s)) (congrArg aJ (by show T1 wa s = V wa s; rw [ti.1 _ (by omega)])) ?_
            refine g_callVN [aI (((s - S ^ x : Nat) : Int)), aJ (V wa s)] [] rfl rfl rfl rfl (Nat.le_of_ble_eq_true rfl) (cs.kd 27 (by omega) rfl) (x_addWays (by omega) cs T1 nb hn1 tn (((s - S ^ x : Nat) : Int)) (V wa s)) ?_
            rintro h2 q
            rw [if_pos ⟨by omega, by omega⟩] at q
            subst q
            obtain ⟨T5, e2⟩ : ∃ W, W = vset T1 nb (s - S ^ x) (w64 (T1 nb (s - S ^ x) + V wa s)) := ⟨_, rfl⟩
            refine g_hp (h2 := hw h T5) (by rw [e2]; rfl) ?_
            have ti := ti.add (t := s - S ^ x) (by omega) (V wa s)
            rw [← e2] at ti
            clear e2
            refine g_goto rfl ?_
            refine g_iinc (l1 := [(7, aI ((s : Int) + 1)), (6, aI (if rb = true then 1 else 0)), (5, aI (if tout w1 l n x y = true then 1 else 0)), (0, aO (some (c + 27))), (1, aI ((x : Int))), (2, aI ((y : Int))), (3, aI (((S ^ x : Nat) : Int))), (4, aI (((S ^ w1 : Nat) : Int)))]) rfl rfl (by omega) (by omega) rfl ?_
            refine g_goto rfl ?_
            exact ih88 (s + 1) _ rb (by exact hrb) (by omega) (by first | exact lay_p0 ti (by omega) | exact lay_pd hS2 hx (by omega) ti | exact lay_po hx (by omega) c148 ti | exact lay_pi hS2 hx hs9 (by omega) c148 (by rw [← hrb]; exact c169) ti | exact lay_pj hS2 hx hs9 (by omega) c148 (by rw [← hrb]; exact c169) ti) (by omega)
        · skip
          refine g_goto rfl ?_
          refine g_iinc (l1 := [(7, aI ((s : Int) + 1)), (6, aI (if rb = true then 1 else 0)), (5, aI (if tout w1 l n x y = true then 1 else 0)), (0, aO (some (c + 27))), (1, aI ((x : Int))), (2, aI ((y : Int))), (3, aI (((S ^ x : Nat) : Int))), (4, aI (((S ^ w1 : Nat) : Int)))]) rfl rfl (by omega) (by omega) rfl ?_
          refine g_goto rfl ?_
          exact ih88 (s + 1) _ rb (by exact hrb) (by omega) (by first | exact lay_p0 ti (by omega) | exact lay_pd hS2 hx (by omega) ti | exact lay_po hx (by omega) c148 ti | exact lay_pi hS2 hx hs9 (by omega) c148 (by rw [← hrb]; exact c169) ti | exact lay_pj hS2 hx hs9 (by omega) c148 (by rw [← hrb]; exact c169) ti) (by omega)
  have l46 : ∀ (V1 : Nat → Nat → Int), (∀ a, a ≠ nb → V1 a = V a) → (∀ j < S ^ w1, V1 nb j = 0) → ∀ (fuel : Nat) (j : Nat), (j + 1 ≤ S) → S - j < fuel → Wk w d cd_X0_layCell 46 [(7, aI ((j + 1 : Int))), (6, aI (if rmB w1 l n x y j = true then 1 else 0)), (5, aI (if tout w1 l n x y = true then 1 else 0)), (0, aO (some (c + 27))), (1, aI ((x : Int))), (2, aI ((y : Int))), (3, aI (((S ^ x : Nat) : Int))), (4, aI (((S ^ w1 : Nat) : Int)))] [] (hw h V1) (RN (fun h1 => ∃ V2, h1 = hw (hput (hput h (c + 27) 0 (some nb)) (c + 27) 1 (some wa)) V2 ∧ TI V V2 nb (S ^ w1) (tFc S w1 l n k (w1 * y + x + 1)) (sm (S ^ w1) (tG1 S w1 l n k (w1 * y + x) (V wa))))) := by
    intro V1 hf hz fuel
    induction fuel with
    | zero => intros; omega
    | succ fuel ih46 =>
      intro j hj hfuel
      have j77 : (j + 1 < S) → Wk w d cd_X0_layCell 77 [(7, aI ((j + 1 : Int))), (5, aI (if tout w1 l n x y = true then 1 else 0)), (0, aO (some (c + 27))), (1, aI ((x : Int))), (2, aI ((y : Int))), (3, aI (((S ^ x : Nat) : Int))), (4, aI (((S ^ w1 : Nat) : Int)))] [aI (if rmB w1 l n x y (j + 1) = true then 1 else 0)] (hw h V1) (RN (fun h1 => ∃ V2, h1 = hw (hput (hput h (c + 27) 0 (some nb)) (c + 27) 1 (some wa)) V2 ∧ TI V V2 nb (S ^ w1) (tFc S w1 l n k (w1 * y + x + 1)) (sm (S ^ w1) (tG1 S w1 l n k (w1 * y + x) (V wa))))) := by
        intro hj2
        refine g_istore (l1 := [(6, aI (if rmB w1 l n x y (j + 1) = true then 1 else 0)), (7, aI ((j + 1 : Int))), (5, aI (if tout w1 l n x y = true then 1 else 0)), (0, aO (some (c + 27))), (1, aI ((x : Int))), (2, aI ((y : Int))), (3, aI (((S ^ x : Nat) : Int))), (4, aI (((S ^ w1 : Nat) : Int)))]) rfl rfl ?_
        refine g_iinc (l1 := [(7, aI ((j + 1 : Int) + 1)), (6, aI (if rmB w1 l n x y (j + 1) = true then 1 else 0)), (5, aI (if tout w1 l n x y = true then 1 else 0)), (0, aO (some (c + 27))), (1, aI ((x : Int))), (2, aI ((y : Int))), (3, aI (((S ^ x : Nat) : Int))), (4, aI (((S ^ w1 : Nat) : Int)))]) rfl rfl (by omega) (by omega) rfl ?_
        refine g_goto rfl ?_
        exact ih46 (j + 1) (by omega) (by omega)
      refine g_iload rfl rfl ?_
      refine g_aload_n rfl rfl ?_
      refine g_getI rfl (cs.kd 27 (by omega) rfl) ?_
      refine g_top (v2 := aI ((S : Int))) (congrArg aI (by show V1 (c + 27) 5 = (S : Int); rw [hf _ (by omega), hS])) ?_
      refine g_icmp_ge rfl (fun c52 => ?_) (fun c52 => ?_)
      · skip
        refine g_iconst rfl ?_
        refine g_istore (l1 := [(7, aI 0), (6, aI (if rmB w1 l n x y j = true then 1 else 0)), (5, aI (if tout w1 l n x y = true then 1 else 0)), (0, aO (some (c + 27))), (1, aI ((x : Int))), (2, aI ((y : Int))), (3, aI (((S ^ x : Nat) : Int))), (4, aI (((S ^ w1 : Nat) : Int)))]) rfl rfl ?_
        exact l88 _ 0 V1 (rmB w1 l n x y j) (by rw [show S - 1 = j by omega]) (by omega) (by refine ⟨hf, fun i hi => ?_, ?_⟩; (rw [hz i hi]; unfold r64; omega); (rw [sm_zero fun i hi => by rw [hz i hi, Int.zero_mul]]; exact cg.rfl2 _)) (Nat.lt_succ_self _)
      · skip
        refine g_iload rfl rfl ?_
        refine g_b_eq rfl (fun c57 => ?_) (fun c57 => ?_)
        · skip
          refine g_iconst rfl ?_
          refine g_top (v2 := aI (if rmB w1 l n x y (j + 1) = true then 1 else 0)) (congrArg aI (bi_f (by unfold rmB; first | (rw [Bool.and_eq_true]; exact ⟨c57, by simpa using c69⟩) | (rw [Bool.and_eq_true]; exact fun u => c57 u.1) | (rw [Bool.and_eq_true]; intro u; have := u.2; rw [c69] at this; exact absurd this (by decide))))) ?_
          refine g_ls [0, 2, 3, 4, 5, 6, 7] rfl rfl ?_
          exact j77 (by omega)
        · skip
          refine g_aload_n rfl rfl ?_
          refine g_iload_n rfl rfl ?_
          refine g_iload_n rfl rfl ?_
          refine g_iload rfl rfl ?_
          refine g_iadd rfl (by omega) (by omega) ?_
          refine g_callVI [aI ((x : Int)), aI (((y : Int)) + ((j + 1 : Int)))] [] rfl rfl rfl rfl (Nat.le_of_ble_eq_true rfl) (cs.kd 27 (by omega) rfl) (x_isGone (by omega) cs V1 w1 l n (by rw [hf _ (by omega)]; exact hwd) (by rw [hf _ (by omega)]; exact hlt) (by rw [hf _ (by omega)]; exact hgn) hw8 hl8 (x) (y + (j + 1)) (by omega) (by omega)) ?_
          rintro _ _ ⟨rfl, rfl⟩
          refine g_b_ne rfl (fun c69 => ?_) (fun c69 => ?_)
          · skip
            refine g_iconst rfl ?_
            refine g_top (v2 := aI (if rmB w1 l n x y (j + 1) = true then 1 else 0)) (congrArg aI (bi_f (by unfold rmB; first | (rw [Bool.and_eq_true]; exact ⟨c57, by simpa using c69⟩) | (rw [Bool.and_eq_true]; exact fun u => c57 u.1) | (rw [Bool.and_eq_true]; intro u; have := u.2; rw [c69] at this; exact absurd this (by decide))))) ?_
            refine g_ls [0, 2, 3, 4, 5, 6, 7] rfl rfl ?_
            exact j77 (by omega)
          · skip
            refine g_iconst rfl ?_
            refine g_goto rfl ?_
            refine g_top (v2 := aI (if rmB w1 l n x y (j + 1) = true then 1 else 0)) (congrArg aI (bi_t (by unfold rmB; first | (rw [Bool.and_eq_true]; exact ⟨c57, by simpa using c69⟩) | (rw [Bool.and_eq_true]; exact fun u => c57 u.1) | (rw [Bool.and_eq_true]; intro u; have := u.2; rw [c69] at this; exact absurd this (by decide))))) ?_
            refine g_ls [0, 2, 3, 4, 5, 6, 7] rfl rfl ?_
            exact j77 (by omega)
  have l3 : ∀ (fuel : Nat) (i : Nat) (V1 : Nat → Nat → Int), (i ≤ S ^ w1) → (∀ a, a ≠ nb → V1 a = V a) → (∀ j < i, V1 nb j = 0) → S ^ w1 - i < fuel → Wk w d cd_X0_layCell 3 [(5, aI ((i : Int))), (0, aO (some (c + 27))), (1, aI ((x : Int))), (2, aI ((y : Int))), (3, aI (((S ^ x : Nat) : Int))), (4, aI (((S ^ w1 : Nat) : Int)))] [] (hw h V1) (RN (fun h1 => ∃ V2, h1 = hw (hput (hput h (c + 27) 0 (some nb)) (c + 27) 1 (some wa)) V2 ∧ TI V V2 nb (S ^ w1) (tFc S w1 l n k (w1 * y + x + 1)) (sm (S ^ w1) (tG1 S w1 l n k (w1 * y + x) (V wa))))) := by
    intro fuel
    induction fuel with
    | zero => intros; omega
    | succ fuel ih3 =>
      intro i V1 hi hf hz hfuel
      refine g_iload rfl rfl ?_
      refine g_iload rfl rfl ?_
      refine g_icmp_ge rfl (fun c7 => ?_) (fun c7 => ?_)
      · skip
        refine g_aload_n rfl rfl ?_
        refine g_iload_n rfl rfl ?_
        refine g_iload_n rfl rfl ?_
        refine g_callVI [aI ((x : Int)), aI ((y : Int))] [] rfl rfl rfl rfl (Nat.le_of_ble_eq_true rfl) (cs.kd 27 (by omega) rfl) (x_isGone (by omega) cs V1 w1 l n (by rw [hf _ (by omega)]; exact hwd) (by rw [hf _ (by omega)]; exact hlt) (by rw [hf _ (by omega)]; exact hgn) hw8 hl8 (x) (y) (by omega) (by omega)) ?_
        rintro _ _ ⟨rfl, rfl⟩
        refine g_istore (l1 := [(5, aI (if tout w1 l n x y = true then 1 else 0)), (0, aO (some (c + 27))), (1, aI ((x : Int))), (2, aI ((y : Int))), (3, aI (((S ^ x : Nat) : Int))), (4, aI (((S ^ w1 : Nat) : Int)))]) rfl rfl ?_
        refine g_iconst rfl ?_
        refine g_istore (l1 := [(6, aI 1), (5, aI (if tout w1 l n x y = true then 1 else 0)), (0, aO (some (c + 27))), (1, aI ((x : Int))), (2, aI ((y : Int))), (3, aI (((S ^ x : Nat) : Int))), (4, aI (((S ^ w1 : Nat) : Int)))]) rfl rfl ?_
        refine g_iconst rfl ?_
        refine g_istore (l1 := [(7, aI 1), (6, aI 1), (5, aI (if tout w1 l n x y = true then 1 else 0)), (0, aO (some (c + 27))), (1, aI ((x : Int))), (2, aI ((y : Int))), (3, aI (((S ^ x : Nat) : Int))), (4, aI (((S ^ w1 : Nat) : Int)))]) rfl rfl ?_
        exact l46 V1 (by exact hf) (by intro j hj; exact hz j (by omega)) _ 0 (by omega) (Nat.lt_succ_self _)
      · skip
        refine g_iload rfl rfl ?_
        refine g_sipush rfl ?_
        refine g_icmp_ge_f rfl (by omega) ?_
        refine g_aload_n rfl rfl ?_
        refine g_getR rfl (cs.kd 27 (by omega) rfl) hn1 ?_
        refine g_iload rfl rfl ?_
        refine g_lconst0 rfl ?_
        refine g_last (i := i) rfl tn (by omega) (by omega) ?_
        refine g_iinc (l1 := [(5, aI ((i : Int) + 1)), (0, aO (some (c + 27))), (1, aI ((x : Int))), (2, aI ((y : Int))), (3, aI (((S ^ x : Nat) : Int))), (4, aI (((S ^ w1 : Nat) : Int)))]) rfl rfl (by omega) (by omega) rfl ?_
        refine g_goto rfl ?_
        exact ih3 (i + 1) (vset V1 nb i 0) (by omega) (by intro a ha; funext j; rw [vset_ne _ _ _ _ (by omega), hf a ha]) (by intro j hj; by_cases e : j = i; (rw [e, vset_eq]); (rw [vset_ne _ _ _ _ (by omega)]; exact hz j (by omega))) (by omega)
  refine g_iconst rfl ?_
  refine g_istore (l1 := [(5, aI 0), (0, aO (some (c + 27))), (1, aI ((x : Int))), (2, aI ((y : Int))), (3, aI (((S ^ x : Nat) : Int))), (4, aI (((S ^ w1 : Nat) : Int)))]) rfl rfl ?_
  exact l3 _ 0 V (by omega) (by intro a _; rfl) (by intro j hj; omega) (Nat.lt_succ_self _)
