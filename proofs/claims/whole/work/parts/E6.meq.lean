/-! the reference's things, on: printed by wip/whole/e6.py -/
def lowK (s : Int) (R : T4) : T4 := if s = 2 then m_lowR R else m_low R
def keepM (S : aS) (s : Int) (O : Option T4) : Int × aS := match O with
  | none => (-3, S)
  | some R => keepT S s (lowK s R)
theorem Gs.km {V V0 V1 : Nat → Nat → Int} {o n m : Nat} {T T0 : Nat → Prop} (g : Gs V V0 o n T) (k : KM V0 V1 o m T0) (h : ∀ q, T0 q → T q) : KM V V1 o (n + m) T := by
  obtain ⟨V2, g2, a, b⟩ := k
  exact ⟨V2, g.trans (g2.wide h), a, b⟩
set_option maxRecDepth 100000 in
set_option maxHeartbeats 4000000 in
theorem m_isEqual {w : aW} {d : Nat} (hd : 2 ≤ d) {h : aH} {o : Nat} (ms : MS h o) (V : Nat → Nat → Int) {S : aS} (ok : OkT S) (mt : MT V o S) (a : Int) (ha : 0 ≤ a ∧ a < sT S) (b : Int) (hb : 0 ≤ b ∧ b < sT S)  : WP w d 285 [aO (some o), aI a, aI b] (hw h V) (RI (fun r h1 => h1 = hw h V ∧ r = if sTp S a.toNat 0 = sTp S b.toNat 0 ∧ sTp S a.toNat 1 = sTp S b.toNat 1 ∧ sTp S a.toNat 2 = sTp S b.toNat 2 ∧ sTp S a.toNat 3 = sTp S b.toNat 3 then 1 else 0)) := by
  obtain ⟨d, rfl⟩ : ∃ d1, d = d1 + 1 := ⟨d - 1, by omega⟩
  refine WP.enter (cd := cd_X12_isEqual) rfl ?_
  have G0 := Gs.refl V o (fun _ => False)
  have hn := ok.1
  have hls : largs 0 [aO (some o), aI a, aI b] = [(0, aO (some o)), (1, aI a), (2, aI b)] := rfl
  rw [hls]
  clear hls
  refine g_iconst rfl ?_
  refine g_istore_n (l1 := [(3, aI 1), (0, aO (some o)), (1, aI a), (2, aI b)]) rfl rfl ?_
  refine g_iconst rfl ?_
  refine g_istore (l1 := [(4, aI 0), (3, aI 1), (0, aO (some o)), (1, aI a), (2, aI b)]) rfl rfl ?_
  refine g_iload rfl rfl ?_
  refine g_iconst rfl ?_
  refine g_icmp_ge_f rfl (by omega) ?_
  refine g_iload_n rfl rfl ?_
  refine g_if_eq_f rfl (by omega) ?_
  refine g_aload_n rfl rfl ?_
  refine g_getR rfl ms.1 (mr_part ms) ?_
  refine g_iconst rfl ?_
  refine g_iload_n rfl rfl ?_
  refine g_imul rfl (by omega) (by omega) ?_
  refine g_iload rfl rfl ?_
  refine g_iadd rfl (by omega) (by omega) ?_
  refine g_iald (i := (4 * a.toNat + 0)) rfl (mt_part ms) (by omega) (by omega) ?_
  refine g_top (v2 := aI (sTp S a.toNat 0)) (congrArg aI (by exact (mt.2 a.toNat (by omega)).2 0 (by omega))) ?_
  refine g_aload_n rfl rfl ?_
  refine g_getR rfl ms.1 (mr_part ms) ?_
  refine g_iconst rfl ?_
  refine g_iload_n rfl rfl ?_
  refine g_imul rfl (by omega) (by omega) ?_
  refine g_iload rfl rfl ?_
  refine g_iadd rfl (by omega) (by omega) ?_
  refine g_iald (i := (4 * b.toNat + 0)) rfl (mt_part ms) (by omega) (by omega) ?_
  refine g_top (v2 := aI (sTp S b.toNat 0)) (congrArg aI (by exact (mt.2 b.toNat (by omega)).2 0 (by omega))) ?_
  refine g_icmp_ne rfl (fun c37 => ?_) (fun c37 => ?_)
  · skip
    refine g_iconst rfl ?_
    refine g_istore_n (l1 := [(3, aI 0), (4, aI 0), (0, aO (some o)), (1, aI a), (2, aI b)]) rfl rfl ?_
    refine g_iinc (l1 := [(4, aI 1), (3, aI 0), (0, aO (some o)), (1, aI a), (2, aI b)]) rfl rfl (by omega) (by omega) rfl ?_
    refine g_goto rfl ?_
    refine g_iload rfl rfl ?_
    refine g_iconst rfl ?_
    refine g_icmp_ge_f rfl (by omega) ?_
    refine g_iload_n rfl rfl ?_
    refine g_if_eq_t rfl (by omega) ?_
    refine g_iconst rfl ?_
    refine g_istore_n (l1 := [(3, aI 0), (4, aI 1), (0, aO (some o)), (1, aI a), (2, aI b)]) rfl rfl ?_
    refine g_iinc (l1 := [(4, aI 2), (3, aI 0), (0, aO (some o)), (1, aI a), (2, aI b)]) rfl rfl (by omega) (by omega) rfl ?_
    refine g_goto rfl ?_
    refine g_iload rfl rfl ?_
    refine g_iconst rfl ?_
    refine g_icmp_ge_f rfl (by omega) ?_
    refine g_iload_n rfl rfl ?_
    refine g_if_eq_t rfl (by omega) ?_
    refine g_iconst rfl ?_
    refine g_istore_n (l1 := [(3, aI 0), (4, aI 2), (0, aO (some o)), (1, aI a), (2, aI b)]) rfl rfl ?_
    refine g_iinc (l1 := [(4, aI 3), (3, aI 0), (0, aO (some o)), (1, aI a), (2, aI b)]) rfl rfl (by omega) (by omega) rfl ?_
    refine g_goto rfl ?_
    refine g_iload rfl rfl ?_
    refine g_iconst rfl ?_
    refine g_icmp_ge_f rfl (by omega) ?_
    refine g_iload_n rfl rfl ?_
    refine g_if_eq_t rfl (by omega) ?_
    refine g_iconst rfl ?_
    refine g_istore_n (l1 := [(3, aI 0), (4, aI 3), (0, aO (some o)), (1, aI a), (2, aI b)]) rfl rfl ?_
    refine g_iinc (l1 := [(4, aI 4), (3, aI 0), (0, aO (some o)), (1, aI a), (2, aI b)]) rfl rfl (by omega) (by omega) rfl ?_
    refine g_goto rfl ?_
    refine g_iload rfl rfl ?_
    refine g_iconst rfl ?_
    refine g_icmp_ge_t rfl (by omega) ?_
    refine g_iload_n rfl rfl ?_
    refine g_zret rfl (by omega) ?_
    refine ⟨rfl, ?_⟩
    first
      | rw [if_pos (by omega)]
      | rw [if_neg (by omega)]
  · skip
    refine g_iconst rfl ?_
    refine g_goto rfl ?_
    refine g_istore_n (l1 := [(3, aI 1), (4, aI 0), (0, aO (some o)), (1, aI a), (2, aI b)]) rfl rfl ?_
    refine g_iinc (l1 := [(4, aI 1), (3, aI 1), (0, aO (some o)), (1, aI a), (2, aI b)]) rfl rfl (by omega) (by omega) rfl ?_
    refine g_goto rfl ?_
    refine g_iload rfl rfl ?_
    refine g_iconst rfl ?_
    refine g_icmp_ge_f rfl (by omega) ?_
    refine g_iload_n rfl rfl ?_
    refine g_if_eq_f rfl (by omega) ?_
    refine g_aload_n rfl rfl ?_
    refine g_getR rfl ms.1 (mr_part ms) ?_
    refine g_iconst rfl ?_
    refine g_iload_n rfl rfl ?_
    refine g_imul rfl (by omega) (by omega) ?_
    refine g_iload rfl rfl ?_
    refine g_iadd rfl (by omega) (by omega) ?_
    refine g_iald (i := (4 * a.toNat + 1)) rfl (mt_part ms) (by omega) (by omega) ?_
    refine g_top (v2 := aI (sTp S a.toNat 1)) (congrArg aI (by exact (mt.2 a.toNat (by omega)).2 1 (by omega))) ?_
    refine g_aload_n rfl rfl ?_
    refine g_getR rfl ms.1 (mr_part ms) ?_
    refine g_iconst rfl ?_
    refine g_iload_n rfl rfl ?_
    refine g_imul rfl (by omega) (by omega) ?_
    refine g_iload rfl rfl ?_
    refine g_iadd rfl (by omega) (by omega) ?_
    refine g_iald (i := (4 * b.toNat + 1)) rfl (mt_part ms) (by omega) (by omega) ?_
    refine g_top (v2 := aI (sTp S b.toNat 1)) (congrArg aI (by exact (mt.2 b.toNat (by omega)).2 1 (by omega))) ?_
    refine g_icmp_ne rfl (fun c37 => ?_) (fun c37 => ?_)
    · skip
      refine g_iconst rfl ?_
      refine g_istore_n (l1 := [(3, aI 0), (4, aI 1), (0, aO (some o)), (1, aI a), (2, aI b)]) rfl rfl ?_
      refine g_iinc (l1 := [(4, aI 2), (3, aI 0), (0, aO (some o)), (1, aI a), (2, aI b)]) rfl rfl (by omega) (by omega) rfl ?_
      refine g_goto rfl ?_
      refine g_iload rfl rfl ?_
      refine g_iconst rfl ?_
      refine g_icmp_ge_f rfl (by omega) ?_
      refine g_iload_n rfl rfl ?_
      refine g_if_eq_t rfl (by omega) ?_
      refine g_iconst rfl ?_
      refine g_istore_n (l1 := [(3, aI 0), (4, aI 2), (0, aO (some o)), (1, aI a), (2, aI b)]) rfl rfl ?_
      refine g_iinc (l1 := [(4, aI 3), (3, aI 0), (0, aO (some o)), (1, aI a), (2, aI b)]) rfl rfl (by omega) (by omega) rfl ?_
      refine g_goto rfl ?_
      refine g_iload rfl rfl ?_
      refine g_iconst rfl ?_
      refine g_icmp_ge_f rfl (by omega) ?_
      refine g_iload_n rfl rfl ?_
      refine g_if_eq_t rfl (by omega) ?_
      refine g_iconst rfl ?_
      refine g_istore_n (l1 := [(3, aI 0), (4, aI 3), (0, aO (some o)), (1, aI a), (2, aI b)]) rfl rfl ?_
      refine g_iinc (l1 := [(4, aI 4), (3, aI 0), (0, aO (some o)), (1, aI a), (2, aI b)]) rfl rfl (by omega) (by omega) rfl ?_
      refine g_goto rfl ?_
      refine g_iload rfl rfl ?_
      refine g_iconst rfl ?_
      refine g_icmp_ge_t rfl (by omega) ?_
      refine g_iload_n rfl rfl ?_
      refine g_zret rfl (by omega) ?_
      refine ⟨rfl, ?_⟩
      first
        | rw [if_pos (by omega)]
        | rw [if_neg (by omega)]
    · skip
      refine g_iconst rfl ?_
      refine g_goto rfl ?_
      refine g_istore_n (l1 := [(3, aI 1), (4, aI 1), (0, aO (some o)), (1, aI a), (2, aI b)]) rfl rfl ?_
      refine g_iinc (l1 := [(4, aI 2), (3, aI 1), (0, aO (some o)), (1, aI a), (2, aI b)]) rfl rfl (by omega) (by omega) rfl ?_
      refine g_goto rfl ?_
      refine g_iload rfl rfl ?_
      refine g_iconst rfl ?_
      refine g_icmp_ge_f rfl (by omega) ?_
      refine g_iload_n rfl rfl ?_
      refine g_if_eq_f rfl (by omega) ?_
      refine g_aload_n rfl rfl ?_
      refine g_getR rfl ms.1 (mr_part ms) ?_
      refine g_iconst rfl ?_
      refine g_iload_n rfl rfl ?_
      refine g_imul rfl (by omega) (by omega) ?_
      refine g_iload rfl rfl ?_
      refine g_iadd rfl (by omega) (by omega) ?_
      refine g_iald (i := (4 * a.toNat + 2)) rfl (mt_part ms) (by omega) (by omega) ?_
      refine g_top (v2 := aI (sTp S a.toNat 2)) (congrArg aI (by exact (mt.2 a.toNat (by omega)).2 2 (by omega))) ?_
      refine g_aload_n rfl rfl ?_
      refine g_getR rfl ms.1 (mr_part ms) ?_
      refine g_iconst rfl ?_
      refine g_iload_n rfl rfl ?_
      refine g_imul rfl (by omega) (by omega) ?_
      refine g_iload rfl rfl ?_
      refine g_iadd rfl (by omega) (by omega) ?_
      refine g_iald (i := (4 * b.toNat + 2)) rfl (mt_part ms) (by omega) (by omega) ?_
      refine g_top (v2 := aI (sTp S b.toNat 2)) (congrArg aI (by exact (mt.2 b.toNat (by omega)).2 2 (by omega))) ?_
      refine g_icmp_ne rfl (fun c37 => ?_) (fun c37 => ?_)
      · skip
        refine g_iconst rfl ?_
        refine g_istore_n (l1 := [(3, aI 0), (4, aI 2), (0, aO (some o)), (1, aI a), (2, aI b)]) rfl rfl ?_
        refine g_iinc (l1 := [(4, aI 3), (3, aI 0), (0, aO (some o)), (1, aI a), (2, aI b)]) rfl rfl (by omega) (by omega) rfl ?_
        refine g_goto rfl ?_
        refine g_iload rfl rfl ?_
        refine g_iconst rfl ?_
        refine g_icmp_ge_f rfl (by omega) ?_
        refine g_iload_n rfl rfl ?_
        refine g_if_eq_t rfl (by omega) ?_
        refine g_iconst rfl ?_
        refine g_istore_n (l1 := [(3, aI 0), (4, aI 3), (0, aO (some o)), (1, aI a), (2, aI b)]) rfl rfl ?_
        refine g_iinc (l1 := [(4, aI 4), (3, aI 0), (0, aO (some o)), (1, aI a), (2, aI b)]) rfl rfl (by omega) (by omega) rfl ?_
        refine g_goto rfl ?_
        refine g_iload rfl rfl ?_
        refine g_iconst rfl ?_
        refine g_icmp_ge_t rfl (by omega) ?_
        refine g_iload_n rfl rfl ?_
        refine g_zret rfl (by omega) ?_
        refine ⟨rfl, ?_⟩
        first
          | rw [if_pos (by omega)]
          | rw [if_neg (by omega)]
      · skip
        refine g_iconst rfl ?_
        refine g_goto rfl ?_
        refine g_istore_n (l1 := [(3, aI 1), (4, aI 2), (0, aO (some o)), (1, aI a), (2, aI b)]) rfl rfl ?_
        refine g_iinc (l1 := [(4, aI 3), (3, aI 1), (0, aO (some o)), (1, aI a), (2, aI b)]) rfl rfl (by omega) (by omega) rfl ?_
        refine g_goto rfl ?_
        refine g_iload rfl rfl ?_
        refine g_iconst rfl ?_
        refine g_icmp_ge_f rfl (by omega) ?_
        refine g_iload_n rfl rfl ?_
        refine g_if_eq_f rfl (by omega) ?_
        refine g_aload_n rfl rfl ?_
        refine g_getR rfl ms.1 (mr_part ms) ?_
        refine g_iconst rfl ?_
        refine g_iload_n rfl rfl ?_
        refine g_imul rfl (by omega) (by omega) ?_
        refine g_iload rfl rfl ?_
        refine g_iadd rfl (by omega) (by omega) ?_
        refine g_iald (i := (4 * a.toNat + 3)) rfl (mt_part ms) (by omega) (by omega) ?_
        refine g_top (v2 := aI (sTp S a.toNat 3)) (congrArg aI (by exact (mt.2 a.toNat (by omega)).2 3 (by omega))) ?_
        refine g_aload_n rfl rfl ?_
        refine g_getR rfl ms.1 (mr_part ms) ?_
        refine g_iconst rfl ?_
        refine g_iload_n rfl rfl ?_
        refine g_imul rfl (by omega) (by omega) ?_
        refine g_iload rfl rfl ?_
        refine g_iadd rfl (by omega) (by omega) ?_
        refine g_iald (i := (4 * b.toNat + 3)) rfl (mt_part ms) (by omega) (by omega) ?_
        refine g_top (v2 := aI (sTp S b.toNat 3)) (congrArg aI (by exact (mt.2 b.toNat (by omega)).2 3 (by omega))) ?_
        refine g_icmp_ne rfl (fun c37 => ?_) (fun c37 => ?_)
        · skip
          refine g_iconst rfl ?_
          refine g_istore_n (l1 := [(3, aI 0), (4, aI 3), (0, aO (some o)), (1, aI a), (2, aI b)]) rfl rfl ?_
          refine g_iinc (l1 := [(4, aI 4), (3, aI 0), (0, aO (some o)), (1, aI a), (2, aI b)]) rfl rfl (by omega) (by omega) rfl ?_
          refine g_goto rfl ?_
          refine g_iload rfl rfl ?_
          refine g_iconst rfl ?_
          refine g_icmp_ge_t rfl (by omega) ?_
          refine g_iload_n rfl rfl ?_
          refine g_zret rfl (by omega) ?_
          refine ⟨rfl, ?_⟩
          first
            | rw [if_pos (by omega)]
            | rw [if_neg (by omega)]
        · skip
          refine g_iconst rfl ?_
          refine g_goto rfl ?_
          refine g_istore_n (l1 := [(3, aI 1), (4, aI 3), (0, aO (some o)), (1, aI a), (2, aI b)]) rfl rfl ?_
          refine g_iinc (l1 := [(4, aI 4), (3, aI 1), (0, aO (some o)), (1, aI a), (2, aI b)]) rfl rfl (by omega) (by omega) rfl ?_
          refine g_goto rfl ?_
          refine g_iload rfl rfl ?_
          refine g_iconst rfl ?_
          refine g_icmp_ge_t rfl (by omega) ?_
          refine g_iload_n rfl rfl ?_
          refine g_zret rfl (by omega) ?_
          refine ⟨rfl, ?_⟩
          first
            | rw [if_pos (by omega)]
            | rw [if_neg (by omega)]
def m_around_S (P : T4) (Q : T4) : T4 := ((P.2.2.1 * P.2.2.1) * (Q.2.2.1 * Q.2.2.1), -((2 * P.1 * P.2.2.1) * (Q.2.2.1 * Q.2.2.1)), -((2 * P.2.1 * P.2.2.1) * (Q.2.2.1 * Q.2.2.1)), (((P.1 * P.1) + (P.2.1 * P.2.1)) * (Q.2.2.1 * Q.2.2.1)) - ((((Q.1 * P.2.2.1) - (P.1 * Q.2.2.1)) * ((Q.1 * P.2.2.1) - (P.1 * Q.2.2.1))) + (((Q.2.1 * P.2.2.1) - (P.2.1 * Q.2.2.1)) * ((Q.2.1 * P.2.2.1) - (P.2.1 * Q.2.2.1)))))
set_option maxRecDepth 100000 in
set_option maxHeartbeats 4000000 in
theorem m_around {w : aW} {d : Nat} (hd : 7 ≤ d) {h : aH} {o : Nat} (ms : MS h o) (V : Nat → Nat → Int) (hF : 0 ≤ V o 1 ∧ V o 1 + 29 ≤ 700) {P : T4} (tP : SB V o (o + 24) P (20)) {Q : T4} (tQ : SB V o (o + 25) Q (20))  : WP w d 310 [aO (some o)] (hw h V) (RN (fun h1 => ∃ V1, h1 = hw h V1 ∧ Gs V V1 o 29 (fun q => q = o + 29) ∧ SB V1 o ((o + 29)) (m_around_S P Q) (84))) := by
  obtain ⟨d, rfl⟩ : ∃ d1, d = d1 + 1 := ⟨d - 1, by omega⟩
  refine WP.enter (cd := cd_X12_around) rfl ?_
  have G0 := Gs.refl V o (fun q => q = o + 29)
  obtain ⟨Pp, Pq, Pr, Ps, sP, xPp, xPq, xPr, xPs⟩ := tP
  obtain ⟨Qp, Qq, Qr, Qs, sQ, xQp, xQq, xQr, xQs⟩ := tQ
  have hls : largs 0 [aO (some o)] = [(0, aO (some o))] := rfl
  rw [hls]
  clear hls
  refine g_aload_n rfl rfl ?_
  refine g_aload_n rfl rfl ?_
  refine g_getR rfl ms.1 (mr_two ms) ?_
  refine g_iconst rfl ?_
  refine g_iald (i := 2) rfl (mt_two ms) (by omega) (by omega) ?_
  refine g_top (v2 := aI ((Qr : Int))) (congrArg aI (by exact sQ.2.2.1)) ?_
  refine g_callVI [aI ((Qr : Int))] [] rfl rfl rfl rfl (Nat.le_of_ble_eq_true rfl) ms.1 (r_square (by omega) ms V (by have := G0.2.2.1; omega) xQr (by omega)) ?_
  rintro _ _ ⟨p1, rfl, V1, rfl, g1, xp1⟩
  have G_2 := G0.trans (g1.gs _)
  refine g_istore_n (l1 := [(1, aI ((p1 : Int))), (0, aO (some o))]) rfl rfl ?_
  refine g_aload_n rfl rfl ?_
  refine g_aload_n rfl rfl ?_
  refine g_aload_n rfl rfl ?_
  refine g_getR rfl ms.1 (mr_two ms) ?_
  refine g_iconst rfl ?_
  refine g_iald (i := 0) rfl (mt_two ms) (by omega) (by omega) ?_
  refine g_top (v2 := aI ((Qp : Int))) (congrArg aI (by exact (g1.sa (show SLa o ((o + 25)) by unfold SLa; omega) sQ).1)) ?_
  refine g_aload_n rfl rfl ?_
  refine g_getR rfl ms.1 (mr_one ms) ?_
  refine g_iconst rfl ?_
  refine g_iald (i := 2) rfl (mt_one ms) (by omega) (by omega) ?_
  refine g_top (v2 := aI ((Pr : Int))) (congrArg aI (by exact (g1.sa (show SLa o ((o + 24)) by unfold SLa; omega) sP).2.2.1)) ?_
  refine g_callVI [aI ((Qp : Int)), aI ((Pr : Int))] [aO (some o)] rfl rfl rfl rfl (Nat.le_of_ble_eq_true rfl) ms.1 (r_mul (by omega) ms V1 (by have := G_2.2.2.1; omega) (g1.rb xQp) (g1.rb xPr) (by omega)) ?_
  rintro _ _ ⟨p3, rfl, V3, rfl, g3, xp3⟩
  have G_4 := G_2.trans (g3.gs _)
  refine g_aload_n rfl rfl ?_
  refine g_aload_n rfl rfl ?_
  refine g_getR rfl ms.1 (mr_one ms) ?_
  refine g_iconst rfl ?_
  refine g_iald (i := 0) rfl (mt_one ms) (by omega) (by omega) ?_
  refine g_top (v2 := aI ((Pp : Int))) (congrArg aI (by exact (g3.sa (show SLa o ((o + 24)) by unfold SLa; omega) (g1.sa (show SLa o ((o + 24)) by unfold SLa; omega) sP)).1)) ?_
  refine g_aload_n rfl rfl ?_
  refine g_getR rfl ms.1 (mr_two ms) ?_
  refine g_iconst rfl ?_
  refine g_iald (i := 2) rfl (mt_two ms) (by omega) (by omega) ?_
  refine g_top (v2 := aI ((Qr : Int))) (congrArg aI (by exact (g3.sa (show SLa o ((o + 25)) by unfold SLa; omega) (g1.sa (show SLa o ((o + 25)) by unfold SLa; omega) sQ)).2.2.1)) ?_
  refine g_callVI [aI ((Pp : Int)), aI ((Qr : Int))] [aI ((p3 : Int)), aO (some o)] rfl rfl rfl rfl (Nat.le_of_ble_eq_true rfl) ms.1 (r_mul (by omega) ms V3 (by have := G_4.2.2.1; omega) (g3.rb (g1.rb xPp)) (g3.rb (g1.rb xQr)) (by omega)) ?_
  rintro _ _ ⟨p5, rfl, V5, rfl, g5, xp5⟩
  have G_6 := G_4.trans (g5.gs _)
  refine g_callVI [aI ((p3 : Int)), aI ((p5 : Int))] [] rfl rfl rfl rfl (Nat.le_of_ble_eq_true rfl) ms.1 (r_sub (by omega) ms V5 (by have := G_6.2.2.1; omega) (g5.rb xp3) xp5 (41) (by omega) (by omega) (by omega)) ?_
  rintro _ _ ⟨p7, rfl, V7, rfl, g7, xp7⟩
  have G_8 := G_6.trans (g7.gs _)
  refine g_istore_n (l1 := [(2, aI ((p7 : Int))), (1, aI ((p1 : Int))), (0, aO (some o))]) rfl rfl ?_
  refine g_aload_n rfl rfl ?_
  refine g_aload_n rfl rfl ?_
  refine g_aload_n rfl rfl ?_
  refine g_getR rfl ms.1 (mr_two ms) ?_
  refine g_iconst rfl ?_
  refine g_iald (i := 1) rfl (mt_two ms) (by omega) (by omega) ?_
  refine g_top (v2 := aI ((Qq : Int))) (congrArg aI (by exact (g7.sa (show SLa o ((o + 25)) by unfold SLa; omega) (g5.sa (show SLa o ((o + 25)) by unfold SLa; omega) (g3.sa (show SLa o ((o + 25)) by unfold SLa; omega) (g1.sa (show SLa o ((o + 25)) by unfold SLa; omega) sQ)))).2.1)) ?_
  refine g_aload_n rfl rfl ?_
  refine g_getR rfl ms.1 (mr_one ms) ?_
  refine g_iconst rfl ?_
  refine g_iald (i := 2) rfl (mt_one ms) (by omega) (by omega) ?_
  refine g_top (v2 := aI ((Pr : Int))) (congrArg aI (by exact (g7.sa (show SLa o ((o + 24)) by unfold SLa; omega) (g5.sa (show SLa o ((o + 24)) by unfold SLa; omega) (g3.sa (show SLa o ((o + 24)) by unfold SLa; omega) (g1.sa (show SLa o ((o + 24)) by unfold SLa; omega) sP)))).2.2.1)) ?_
  refine g_callVI [aI ((Qq : Int)), aI ((Pr : Int))] [aO (some o)] rfl rfl rfl rfl (Nat.le_of_ble_eq_true rfl) ms.1 (r_mul (by omega) ms V7 (by have := G_8.2.2.1; omega) (g7.rb (g5.rb (g3.rb (g1.rb xQq)))) (g7.rb (g5.rb (g3.rb (g1.rb xPr)))) (by omega)) ?_
  rintro _ _ ⟨p9, rfl, V9, rfl, g9, xp9⟩
  have G_10 := G_8.trans (g9.gs _)
  refine g_aload_n rfl rfl ?_
  refine g_aload_n rfl rfl ?_
  refine g_getR rfl ms.1 (mr_one ms) ?_
  refine g_iconst rfl ?_
  refine g_iald (i := 1) rfl (mt_one ms) (by omega) (by omega) ?_
  refine g_top (v2 := aI ((Pq : Int))) (congrArg aI (by exact (g9.sa (show SLa o ((o + 24)) by unfold SLa; omega) (g7.sa (show SLa o ((o + 24)) by unfold SLa; omega) (g5.sa (show SLa o ((o + 24)) by unfold SLa; omega) (g3.sa (show SLa o ((o + 24)) by unfold SLa; omega) (g1.sa (show SLa o ((o + 24)) by unfold SLa; omega) sP))))).2.1)) ?_
  refine g_aload_n rfl rfl ?_
  refine g_getR rfl ms.1 (mr_two ms) ?_
  refine g_iconst rfl ?_
  refine g_iald (i := 2) rfl (mt_two ms) (by omega) (by omega) ?_
  refine g_top (v2 := aI ((Qr : Int))) (congrArg aI (by exact (g9.sa (show SLa o ((o + 25)) by unfold SLa; omega) (g7.sa (show SLa o ((o + 25)) by unfold SLa; omega) (g5.sa (show SLa o ((o + 25)) by unfold SLa; omega) (g3.sa (show SLa o ((o + 25)) by unfold SLa; omega) (g1.sa (show SLa o ((o + 25)) by unfold SLa; omega) sQ))))).2.2.1)) ?_
  refine g_callVI [aI ((Pq : Int)), aI ((Qr : Int))] [aI ((p9 : Int)), aO (some o)] rfl rfl rfl rfl (Nat.le_of_ble_eq_true rfl) ms.1 (r_mul (by omega) ms V9 (by have := G_10.2.2.1; omega) (g9.rb (g7.rb (g5.rb (g3.rb (g1.rb xPq))))) (g9.rb (g7.rb (g5.rb (g3.rb (g1.rb xQr))))) (by omega)) ?_
  rintro _ _ ⟨p11, rfl, V11, rfl, g11, xp11⟩
  have G_12 := G_10.trans (g11.gs _)
  refine g_callVI [aI ((p9 : Int)), aI ((p11 : Int))] [] rfl rfl rfl rfl (Nat.le_of_ble_eq_true rfl) ms.1 (r_sub (by omega) ms V11 (by have := G_12.2.2.1; omega) (g11.rb xp9) xp11 (41) (by omega) (by omega) (by omega)) ?_
  rintro _ _ ⟨p13, rfl, V13, rfl, g13, xp13⟩
  have G_14 := G_12.trans (g13.gs _)
  refine g_istore_n (l1 := [(3, aI ((p13 : Int))), (2, aI ((p7 : Int))), (1, aI ((p1 : Int))), (0, aO (some o))]) rfl rfl ?_
  refine g_aload_n rfl rfl ?_
  refine g_getR rfl ms.1 (mr_got ms) ?_
  refine g_iconst rfl ?_
  refine g_aload_n rfl rfl ?_
  refine g_aload_n rfl rfl ?_
  refine g_aload_n rfl rfl ?_
  refine g_getR rfl ms.1 (mr_one ms) ?_
  refine g_iconst rfl ?_
  refine g_iald (i := 2) rfl (mt_one ms) (by omega) (by omega) ?_
  refine g_top (v2 := aI ((Pr : Int))) (congrArg aI (by exact (g13.sa (show SLa o ((o + 24)) by unfold SLa; omega) (g11.sa (show SLa o ((o + 24)) by unfold SLa; omega) (g9.sa (show SLa o ((o + 24)) by unfold SLa; omega) (g7.sa (show SLa o ((o + 24)) by unfold SLa; omega) (g5.sa (show SLa o ((o + 24)) by unfold SLa; omega) (g3.sa (show SLa o ((o + 24)) by unfold SLa; omega) (g1.sa (show SLa o ((o + 24)) by unfold SLa; omega) sP))))))).2.2.1)) ?_
  refine g_callVI [aI ((Pr : Int))] [aO (some o), aI 0, aO (some (o + 29))] rfl rfl rfl rfl (Nat.le_of_ble_eq_true rfl) ms.1 (r_square (by omega) ms V13 (by have := G_14.2.2.1; omega) (g13.rb (g11.rb (g9.rb (g7.rb (g5.rb (g3.rb (g1.rb xPr))))))) (by omega)) ?_
  rintro _ _ ⟨p15, rfl, V15, rfl, g15, xp15⟩
  have G_16 := G_14.trans (g15.gs _)
  refine g_iload_n rfl rfl ?_
  refine g_callVI [aI ((p15 : Int)), aI ((p1 : Int))] [aI 0, aO (some (o + 29))] rfl rfl rfl rfl (Nat.le_of_ble_eq_true rfl) ms.1 (r_mul (by omega) ms V15 (by have := G_16.2.2.1; omega) xp15 (g15.rb (g13.rb (g11.rb (g9.rb (g7.rb (g5.rb (g3.rb xp1))))))) (by omega)) ?_
  rintro _ _ ⟨p17, rfl, V17, rfl, g17, xp17⟩
  have G_18 := G_16.trans (g17.gs _)
  refine g_iast (i := 0) rfl (mt_got ms) (by omega) (by omega) ?_
  obtain ⟨V19, eV19⟩ : ∃ W, W = vset V17 ((o + 29)) 0 (p17 : Int) := ⟨_, rfl⟩
  refine g_hp (h2 := hw h V19) (by rw [eV19]; rfl) ?_
  have g19 : Gs V17 V19 o 0 (fun q => q = o + 29) := by rw [eV19]; exact Gs.cell (show SLa o ((o + 29)) by unfold SLa; omega)
  have c19_0 : V19 ((o + 29)) 0 = (p17 : Int) := by rw [eV19]; exact vset_eq _ _ _ _
  have G_20 := G_18.trans (g19.wide (fun q hq => by have hq : q = o + 29 := hq; show q = o + 29; omega))
  refine g_aload_n rfl rfl ?_
  refine g_getR rfl ms.1 (mr_got ms) ?_
  refine g_iconst rfl ?_
  refine g_aload_n rfl rfl ?_
  refine g_aload_n rfl rfl ?_
  refine g_aload_n rfl rfl ?_
  refine g_aload_n rfl rfl ?_
  refine g_ldc2 rfl ?_
  refine g_callVI [aJ 2] [aO (some o), aO (some o), aO (some o), aI 1, aO (some (o + 29))] rfl rfl rfl rfl (Nat.le_of_ble_eq_true rfl) ms.1 (r_num (by omega) ms V19 (by have := G_20.2.2.1; omega) 2 (by omega) 1 (by decide)) ?_
  rintro _ _ ⟨p21, rfl, V21, rfl, g21, xp21⟩
  have G_22 := G_20.trans (g21.gs _)
  refine g_aload_n rfl rfl ?_
  refine g_getR rfl ms.1 (mr_one ms) ?_
  refine g_iconst rfl ?_
  refine g_iald (i := 0) rfl (mt_one ms) (by omega) (by omega) ?_
  refine g_top (v2 := aI ((Pp : Int))) (congrArg aI (by exact (g21.sa (show SLa o ((o + 24)) by unfold SLa; omega) (g19.sa (show SLa o ((o + 24)) by unfold SLa; omega) (show ¬(o + 24 = o + 29) by omega) (g17.sa (show SLa o ((o + 24)) by unfold SLa; omega) (g15.sa (show SLa o ((o + 24)) by unfold SLa; omega) (g13.sa (show SLa o ((o + 24)) by unfold SLa; omega) (g11.sa (show SLa o ((o + 24)) by unfold SLa; omega) (g9.sa (show SLa o ((o + 24)) by unfold SLa; omega) (g7.sa (show SLa o ((o + 24)) by unfold SLa; omega) (g5.sa (show SLa o ((o + 24)) by unfold SLa; omega) (g3.sa (show SLa o ((o + 24)) by unfold SLa; omega) (g1.sa (show SLa o ((o + 24)) by unfold SLa; omega) sP))))))))))).1)) ?_
  refine g_aload_n rfl rfl ?_
  refine g_getR rfl ms.1 (mr_one ms) ?_
  refine g_iconst rfl ?_
  refine g_iald (i := 2) rfl (mt_one ms) (by omega) (by omega) ?_
  refine g_top (v2 := aI ((Pr : Int))) (congrArg aI (by exact (g21.sa (show SLa o ((o + 24)) by unfold SLa; omega) (g19.sa (show SLa o ((o + 24)) by unfold SLa; omega) (show ¬(o + 24 = o + 29) by omega) (g17.sa (show SLa o ((o + 24)) by unfold SLa; omega) (g15.sa (show SLa o ((o + 24)) by unfold SLa; omega) (g13.sa (show SLa o ((o + 24)) by unfold SLa; omega) (g11.sa (show SLa o ((o + 24)) by unfold SLa; omega) (g9.sa (show SLa o ((o + 24)) by unfold SLa; omega) (g7.sa (show SLa o ((o + 24)) by unfold SLa; omega) (g5.sa (show SLa o ((o + 24)) by unfold SLa; omega) (g3.sa (show SLa o ((o + 24)) by unfold SLa; omega) (g1.sa (show SLa o ((o + 24)) by unfold SLa; omega) sP))))))))))).2.2.1)) ?_
  refine g_callVI [aI ((p21 : Int)), aI ((Pp : Int)), aI ((Pr : Int))] [aO (some o), aO (some o), aI 1, aO (some (o + 29))] rfl rfl rfl rfl (Nat.le_of_ble_eq_true rfl) ms.1 (r_mul3 (by omega) ms V21 (by have := G_22.2.2.1; omega) xp21 (g21.rb (g19.rb (g17.rb (g15.rb (g13.rb (g11.rb (g9.rb (g7.rb (g5.rb (g3.rb (g1.rb xPp))))))))))) (g21.rb (g19.rb (g17.rb (g15.rb (g13.rb (g11.rb (g9.rb (g7.rb (g5.rb (g3.rb (g1.rb xPr))))))))))) (by omega)) ?_
  rintro _ _ ⟨p23, rfl, V23, rfl, g23, xp23⟩
  have G_24 := G_22.trans (g23.gs _)
  refine g_iload_n rfl rfl ?_
  refine g_callVI [aI ((p23 : Int)), aI ((p1 : Int))] [aO (some o), aI 1, aO (some (o + 29))] rfl rfl rfl rfl (Nat.le_of_ble_eq_true rfl) ms.1 (r_mul (by omega) ms V23 (by have := G_24.2.2.1; omega) xp23 (g23.rb (g21.rb (g19.rb (g17.rb (g15.rb (g13.rb (g11.rb (g9.rb (g7.rb (g5.rb (g3.rb xp1))))))))))) (by omega)) ?_
  rintro _ _ ⟨p25, rfl, V25, rfl, g25, xp25⟩
  have G_26 := G_24.trans (g25.gs _)
  refine g_callVI [aI ((p25 : Int))] [aI 1, aO (some (o + 29))] rfl rfl rfl rfl (Nat.le_of_ble_eq_true rfl) ms.1 (r_neg (by omega) ms V25 (by have := G_26.2.2.1; omega) xp25 (by omega)) ?_
  rintro _ _ ⟨p27, rfl, V27, rfl, g27, xp27⟩
  have G_28 := G_26.trans (g27.gs _)
  refine g_iast (i := 1) rfl (mt_got ms) (by omega) (by omega) ?_
  obtain ⟨V29, eV29⟩ : ∃ W, W = vset V27 ((o + 29)) 1 (p27 : Int) := ⟨_, rfl⟩
  refine g_hp (h2 := hw h V29) (by rw [eV29]; rfl) ?_
  have g29 : Gs V27 V29 o 0 (fun q => q = o + 29) := by rw [eV29]; exact Gs.cell (show SLa o ((o + 29)) by unfold SLa; omega)
  have c29_0 : V29 ((o + 29)) 0 = (p17 : Int) := by rw [eV29, vset_ne _ _ _ _ (by omega)]; exact (g27.sc (show SLa o ((o + 29)) by unfold SLa; omega) (g25.sc (show SLa o ((o + 29)) by unfold SLa; omega) (g23.sc (show SLa o ((o + 29)) by unfold SLa; omega) (g21.sc (show SLa o ((o + 29)) by unfold SLa; omega) c19_0))))
  have c29_1 : V29 ((o + 29)) 1 = (p27 : Int) := by rw [eV29]; exact vset_eq _ _ _ _
  have G_30 := G_28.trans (g29.wide (fun q hq => by have hq : q = o + 29 := hq; show q = o + 29; omega))
  refine g_aload_n rfl rfl ?_
  refine g_getR rfl ms.1 (mr_got ms) ?_
  refine g_iconst rfl ?_
  refine g_aload_n rfl rfl ?_
  refine g_aload_n rfl rfl ?_
  refine g_aload_n rfl rfl ?_
  refine g_aload_n rfl rfl ?_
  refine g_ldc2 rfl ?_
  refine g_callVI [aJ 2] [aO (some o), aO (some o), aO (some o), aI 2, aO (some (o + 29))] rfl rfl rfl rfl (Nat.le_of_ble_eq_true rfl) ms.1 (r_num (by omega) ms V29 (by have := G_30.2.2.1; omega) 2 (by omega) 1 (by decide)) ?_
  rintro _ _ ⟨p31, rfl, V31, rfl, g31, xp31⟩
  have G_32 := G_30.trans (g31.gs _)
  refine g_aload_n rfl rfl ?_
  refine g_getR rfl ms.1 (mr_one ms) ?_
  refine g_iconst rfl ?_
  refine g_iald (i := 1) rfl (mt_one ms) (by omega) (by omega) ?_
  refine g_top (v2 := aI ((Pq : Int))) (congrArg aI (by exact (g31.sa (show SLa o ((o + 24)) by unfold SLa; omega) (g29.sa (show SLa o ((o + 24)) by unfold SLa; omega) (show ¬(o + 24 = o + 29) by omega) (g27.sa (show SLa o ((o + 24)) by unfold SLa; omega) (g25.sa (show SLa o ((o + 24)) by unfold SLa; omega) (g23.sa (show SLa o ((o + 24)) by unfold SLa; omega) (g21.sa (show SLa o ((o + 24)) by unfold SLa; omega) (g19.sa (show SLa o ((o + 24)) by unfold SLa; omega) (show ¬(o + 24 = o + 29) by omega) (g17.sa (show SLa o ((o + 24)) by unfold SLa; omega) (g15.sa (show SLa o ((o + 24)) by unfold SLa; omega) (g13.sa (show SLa o ((o + 24)) by unfold SLa; omega) (g11.sa (show SLa o ((o + 24)) by unfold SLa; omega) (g9.sa (show SLa o ((o + 24)) by unfold SLa; omega) (g7.sa (show SLa o ((o + 24)) by unfold SLa; omega) (g5.sa (show SLa o ((o + 24)) by unfold SLa; omega) (g3.sa (show SLa o ((o + 24)) by unfold SLa; omega) (g1.sa (show SLa o ((o + 24)) by unfold SLa; omega) sP)))))))))))))))).2.1)) ?_
  refine g_aload_n rfl rfl ?_
  refine g_getR rfl ms.1 (mr_one ms) ?_
  refine g_iconst rfl ?_
  refine g_iald (i := 2) rfl (mt_one ms) (by omega) (by omega) ?_
  refine g_top (v2 := aI ((Pr : Int))) (congrArg aI (by exact (g31.sa (show SLa o ((o + 24)) by unfold SLa; omega) (g29.sa (show SLa o ((o + 24)) by unfold SLa; omega) (show ¬(o + 24 = o + 29) by omega) (g27.sa (show SLa o ((o + 24)) by unfold SLa; omega) (g25.sa (show SLa o ((o + 24)) by unfold SLa; omega) (g23.sa (show SLa o ((o + 24)) by unfold SLa; omega) (g21.sa (show SLa o ((o + 24)) by unfold SLa; omega) (g19.sa (show SLa o ((o + 24)) by unfold SLa; omega) (show ¬(o + 24 = o + 29) by omega) (g17.sa (show SLa o ((o + 24)) by unfold SLa; omega) (g15.sa (show SLa o ((o + 24)) by unfold SLa; omega) (g13.sa (show SLa o ((o + 24)) by unfold SLa; omega) (g11.sa (show SLa o ((o + 24)) by unfold SLa; omega) (g9.sa (show SLa o ((o + 24)) by unfold SLa; omega) (g7.sa (show SLa o ((o + 24)) by unfold SLa; omega) (g5.sa (show SLa o ((o + 24)) by unfold SLa; omega) (g3.sa (show SLa o ((o + 24)) by unfold SLa; omega) (g1.sa (show SLa o ((o + 24)) by unfold SLa; omega) sP)))))))))))))))).2.2.1)) ?_
  refine g_callVI [aI ((p31 : Int)), aI ((Pq : Int)), aI ((Pr : Int))] [aO (some o), aO (some o), aI 2, aO (some (o + 29))] rfl rfl rfl rfl (Nat.le_of_ble_eq_true rfl) ms.1 (r_mul3 (by omega) ms V31 (by have := G_32.2.2.1; omega) xp31 (g31.rb (g29.rb (g27.rb (g25.rb (g23.rb (g21.rb (g19.rb (g17.rb (g15.rb (g13.rb (g11.rb (g9.rb (g7.rb (g5.rb (g3.rb (g1.rb xPq)))))))))))))))) (g31.rb (g29.rb (g27.rb (g25.rb (g23.rb (g21.rb (g19.rb (g17.rb (g15.rb (g13.rb (g11.rb (g9.rb (g7.rb (g5.rb (g3.rb (g1.rb xPr)))))))))))))))) (by omega)) ?_
  rintro _ _ ⟨p33, rfl, V33, rfl, g33, xp33⟩
  have G_34 := G_32.trans (g33.gs _)
  refine g_iload_n rfl rfl ?_
  refine g_callVI [aI ((p33 : Int)), aI ((p1 : Int))] [aO (some o), aI 2, aO (some (o + 29))] rfl rfl rfl rfl (Nat.le_of_ble_eq_true rfl) ms.1 (r_mul (by omega) ms V33 (by have := G_34.2.2.1; omega) xp33 (g33.rb (g31.rb (g29.rb (g27.rb (g25.rb (g23.rb (g21.rb (g19.rb (g17.rb (g15.rb (g13.rb (g11.rb (g9.rb (g7.rb (g5.rb (g3.rb xp1)))))))))))))))) (by omega)) ?_
  rintro _ _ ⟨p35, rfl, V35, rfl, g35, xp35⟩
  have G_36 := G_34.trans (g35.gs _)
  refine g_callVI [aI ((p35 : Int))] [aI 2, aO (some (o + 29))] rfl rfl rfl rfl (Nat.le_of_ble_eq_true rfl) ms.1 (r_neg (by omega) ms V35 (by have := G_36.2.2.1; omega) xp35 (by omega)) ?_
  rintro _ _ ⟨p37, rfl, V37, rfl, g37, xp37⟩
  have G_38 := G_36.trans (g37.gs _)
  refine g_iast (i := 2) rfl (mt_got ms) (by omega) (by omega) ?_
  obtain ⟨V39, eV39⟩ : ∃ W, W = vset V37 ((o + 29)) 2 (p37 : Int) := ⟨_, rfl⟩
  refine g_hp (h2 := hw h V39) (by rw [eV39]; rfl) ?_
  have g39 : Gs V37 V39 o 0 (fun q => q = o + 29) := by rw [eV39]; exact Gs.cell (show SLa o ((o + 29)) by unfold SLa; omega)
  have c39_0 : V39 ((o + 29)) 0 = (p17 : Int) := by rw [eV39, vset_ne _ _ _ _ (by omega)]; exact (g37.sc (show SLa o ((o + 29)) by unfold SLa; omega) (g35.sc (show SLa o ((o + 29)) by unfold SLa; omega) (g33.sc (show SLa o ((o + 29)) by unfold SLa; omega) (g31.sc (show SLa o ((o + 29)) by unfold SLa; omega) c29_0))))
  have c39_1 : V39 ((o + 29)) 1 = (p27 : Int) := by rw [eV39, vset_ne _ _ _ _ (by omega)]; exact (g37.sc (show SLa o ((o + 29)) by unfold SLa; omega) (g35.sc (show SLa o ((o + 29)) by unfold SLa; omega) (g33.sc (show SLa o ((o + 29)) by unfold SLa; omega) (g31.sc (show SLa o ((o + 29)) by unfold SLa; omega) c29_1))))
  have c39_2 : V39 ((o + 29)) 2 = (p37 : Int) := by rw [eV39]; exact vset_eq _ _ _ _
  have G_40 := G_38.trans (g39.wide (fun q hq => by have hq : q = o + 29 := hq; show q = o + 29; omega))
  refine g_aload_n rfl rfl ?_
  refine g_getR rfl ms.1 (mr_got ms) ?_
  refine g_iconst rfl ?_
  refine g_aload_n rfl rfl ?_
  refine g_aload_n rfl rfl ?_
  refine g_aload_n rfl rfl ?_
  refine g_aload_n rfl rfl ?_
  refine g_aload_n rfl rfl ?_
  refine g_getR rfl ms.1 (mr_one ms) ?_
  refine g_iconst rfl ?_
  refine g_iald (i := 0) rfl (mt_one ms) (by omega) (by omega) ?_
  refine g_top (v2 := aI ((Pp : Int))) (congrArg aI (by exact (g39.sa (show SLa o ((o + 24)) by unfold SLa; omega) (show ¬(o + 24 = o + 29) by omega) (g37.sa (show SLa o ((o + 24)) by unfold SLa; omega) (g35.sa (show SLa o ((o + 24)) by unfold SLa; omega) (g33.sa (show SLa o ((o + 24)) by unfold SLa; omega) (g31.sa (show SLa o ((o + 24)) by unfold SLa; omega) (g29.sa (show SLa o ((o + 24)) by unfold SLa; omega) (show ¬(o + 24 = o + 29) by omega) (g27.sa (show SLa o ((o + 24)) by unfold SLa; omega) (g25.sa (show SLa o ((o + 24)) by unfold SLa; omega) (g23.sa (show SLa o ((o + 24)) by unfold SLa; omega) (g21.sa (show SLa o ((o + 24)) by unfold SLa; omega) (g19.sa (show SLa o ((o + 24)) by unfold SLa; omega) (show ¬(o + 24 = o + 29) by omega) (g17.sa (show SLa o ((o + 24)) by unfold SLa; omega) (g15.sa (show SLa o ((o + 24)) by unfold SLa; omega) (g13.sa (show SLa o ((o + 24)) by unfold SLa; omega) (g11.sa (show SLa o ((o + 24)) by unfold SLa; omega) (g9.sa (show SLa o ((o + 24)) by unfold SLa; omega) (g7.sa (show SLa o ((o + 24)) by unfold SLa; omega) (g5.sa (show SLa o ((o + 24)) by unfold SLa; omega) (g3.sa (show SLa o ((o + 24)) by unfold SLa; omega) (g1.sa (show SLa o ((o + 24)) by unfold SLa; omega) sP)))))))))))))))))))).1)) ?_
  refine g_callVI [aI ((Pp : Int))] [aO (some o), aO (some o), aO (some o), aI 3, aO (some (o + 29))] rfl rfl rfl rfl (Nat.le_of_ble_eq_true rfl) ms.1 (r_square (by omega) ms V39 (by have := G_40.2.2.1; omega) (g39.rb (g37.rb (g35.rb (g33.rb (g31.rb (g29.rb (g27.rb (g25.rb (g23.rb (g21.rb (g19.rb (g17.rb (g15.rb (g13.rb (g11.rb (g9.rb (g7.rb (g5.rb (g3.rb (g1.rb xPp)))))))))))))))))))) (by omega)) ?_
  rintro _ _ ⟨p41, rfl, V41, rfl, g41, xp41⟩
  have G_42 := G_40.trans (g41.gs _)
  refine g_aload_n rfl rfl ?_
  refine g_aload_n rfl rfl ?_
  refine g_getR rfl ms.1 (mr_one ms) ?_
  refine g_iconst rfl ?_
  refine g_iald (i := 1) rfl (mt_one ms) (by omega) (by omega) ?_
  refine g_top (v2 := aI ((Pq : Int))) (congrArg aI (by exact (g41.sa (show SLa o ((o + 24)) by unfold SLa; omega) (g39.sa (show SLa o ((o + 24)) by unfold SLa; omega) (show ¬(o + 24 = o + 29) by omega) (g37.sa (show SLa o ((o + 24)) by unfold SLa; omega) (g35.sa (show SLa o ((o + 24)) by unfold SLa; omega) (g33.sa (show SLa o ((o + 24)) by unfold SLa; omega) (g31.sa (show SLa o ((o + 24)) by unfold SLa; omega) (g29.sa (show SLa o ((o + 24)) by unfold SLa; omega) (show ¬(o + 24 = o + 29) by omega) (g27.sa (show SLa o ((o + 24)) by unfold SLa; omega) (g25.sa (show SLa o ((o + 24)) by unfold SLa; omega) (g23.sa (show SLa o ((o + 24)) by unfold SLa; omega) (g21.sa (show SLa o ((o + 24)) by unfold SLa; omega) (g19.sa (show SLa o ((o + 24)) by unfold SLa; omega) (show ¬(o + 24 = o + 29) by omega) (g17.sa (show SLa o ((o + 24)) by unfold SLa; omega) (g15.sa (show SLa o ((o + 24)) by unfold SLa; omega) (g13.sa (show SLa o ((o + 24)) by unfold SLa; omega) (g11.sa (show SLa o ((o + 24)) by unfold SLa; omega) (g9.sa (show SLa o ((o + 24)) by unfold SLa; omega) (g7.sa (show SLa o ((o + 24)) by unfold SLa; omega) (g5.sa (show SLa o ((o + 24)) by unfold SLa; omega) (g3.sa (show SLa o ((o + 24)) by unfold SLa; omega) (g1.sa (show SLa o ((o + 24)) by unfold SLa; omega) sP))))))))))))))))))))).2.1)) ?_
  refine g_callVI [aI ((Pq : Int))] [aI ((p41 : Int)), aO (some o), aO (some o), aO (some o), aI 3, aO (some (o + 29))] rfl rfl rfl rfl (Nat.le_of_ble_eq_true rfl) ms.1 (r_square (by omega) ms V41 (by have := G_42.2.2.1; omega) (g41.rb (g39.rb (g37.rb (g35.rb (g33.rb (g31.rb (g29.rb (g27.rb (g25.rb (g23.rb (g21.rb (g19.rb (g17.rb (g15.rb (g13.rb (g11.rb (g9.rb (g7.rb (g5.rb (g3.rb (g1.rb xPq))))))))))))))))))))) (by omega)) ?_
  rintro _ _ ⟨p43, rfl, V43, rfl, g43, xp43⟩
  have G_44 := G_42.trans (g43.gs _)
  refine g_callVI [aI ((p41 : Int)), aI ((p43 : Int))] [aO (some o), aO (some o), aI 3, aO (some (o + 29))] rfl rfl rfl rfl (Nat.le_of_ble_eq_true rfl) ms.1 (r_add (by omega) ms V43 (by have := G_44.2.2.1; omega) (g43.rb xp41) xp43 (41) (by omega) (by omega) (by omega)) ?_
  rintro _ _ ⟨p45, rfl, V45, rfl, g45, xp45⟩
  have G_46 := G_44.trans (g45.gs _)
  refine g_iload_n rfl rfl ?_
  refine g_callVI [aI ((p45 : Int)), aI ((p1 : Int))] [aO (some o), aI 3, aO (some (o + 29))] rfl rfl rfl rfl (Nat.le_of_ble_eq_true rfl) ms.1 (r_mul (by omega) ms V45 (by have := G_46.2.2.1; omega) xp45 (g45.rb (g43.rb (g41.rb (g39.rb (g37.rb (g35.rb (g33.rb (g31.rb (g29.rb (g27.rb (g25.rb (g23.rb (g21.rb (g19.rb (g17.rb (g15.rb (g13.rb (g11.rb (g9.rb (g7.rb (g5.rb (g3.rb xp1)))))))))))))))))))))) (by omega)) ?_
  rintro _ _ ⟨p47, rfl, V47, rfl, g47, xp47⟩
  have G_48 := G_46.trans (g47.gs _)
  refine g_aload_n rfl rfl ?_
  refine g_aload_n rfl rfl ?_
  refine g_iload_n rfl rfl ?_
  refine g_callVI [aI ((p7 : Int))] [aO (some o), aI ((p47 : Int)), aO (some o), aI 3, aO (some (o + 29))] rfl rfl rfl rfl (Nat.le_of_ble_eq_true rfl) ms.1 (r_square (by omega) ms V47 (by have := G_48.2.2.1; omega) (g47.rb (g45.rb (g43.rb (g41.rb (g39.rb (g37.rb (g35.rb (g33.rb (g31.rb (g29.rb (g27.rb (g25.rb (g23.rb (g21.rb (g19.rb (g17.rb (g15.rb (g13.rb (g11.rb (g9.rb xp7)))))))))))))))))))) (by omega)) ?_
  rintro _ _ ⟨p49, rfl, V49, rfl, g49, xp49⟩
  have G_50 := G_48.trans (g49.gs _)
  refine g_aload_n rfl rfl ?_
  refine g_iload_n rfl rfl ?_
  refine g_callVI [aI ((p13 : Int))] [aI ((p49 : Int)), aO (some o), aI ((p47 : Int)), aO (some o), aI 3, aO (some (o + 29))] rfl rfl rfl rfl (Nat.le_of_ble_eq_true rfl) ms.1 (r_square (by omega) ms V49 (by have := G_50.2.2.1; omega) (g49.rb (g47.rb (g45.rb (g43.rb (g41.rb (g39.rb (g37.rb (g35.rb (g33.rb (g31.rb (g29.rb (g27.rb (g25.rb (g23.rb (g21.rb (g19.rb (g17.rb (g15.rb xp13)))))))))))))))))) (by omega)) ?_
  rintro _ _ ⟨p51, rfl, V51, rfl, g51, xp51⟩
  have G_52 := G_50.trans (g51.gs _)
  refine g_callVI [aI ((p49 : Int)), aI ((p51 : Int))] [aI ((p47 : Int)), aO (some o), aI 3, aO (some (o + 29))] rfl rfl rfl rfl (Nat.le_of_ble_eq_true rfl) ms.1 (r_add (by omega) ms V51 (by have := G_52.2.2.1; omega) (g51.rb xp49) xp51 (83) (by omega) (by omega) (by omega)) ?_
  rintro _ _ ⟨p53, rfl, V53, rfl, g53, xp53⟩
  have G_54 := G_52.trans (g53.gs _)
  refine g_callVI [aI ((p47 : Int)), aI ((p53 : Int))] [aI 3, aO (some (o + 29))] rfl rfl rfl rfl (Nat.le_of_ble_eq_true rfl) ms.1 (r_sub (by omega) ms V53 (by have := G_54.2.2.1; omega) (g53.rb (g51.rb (g49.rb xp47))) xp53 (84) (by omega) (by omega) (by omega)) ?_
  rintro _ _ ⟨p55, rfl, V55, rfl, g55, xp55⟩
  have G_56 := G_54.trans (g55.gs _)
  refine g_iast (i := 3) rfl (mt_got ms) (by omega) (by omega) ?_
  obtain ⟨V57, eV57⟩ : ∃ W, W = vset V55 ((o + 29)) 3 (p55 : Int) := ⟨_, rfl⟩
  refine g_hp (h2 := hw h V57) (by rw [eV57]; rfl) ?_
  have g57 : Gs V55 V57 o 0 (fun q => q = o + 29) := by rw [eV57]; exact Gs.cell (show SLa o ((o + 29)) by unfold SLa; omega)
  have c57_0 : V57 ((o + 29)) 0 = (p17 : Int) := by rw [eV57, vset_ne _ _ _ _ (by omega)]; exact (g55.sc (show SLa o ((o + 29)) by unfold SLa; omega) (g53.sc (show SLa o ((o + 29)) by unfold SLa; omega) (g51.sc (show SLa o ((o + 29)) by unfold SLa; omega) (g49.sc (show SLa o ((o + 29)) by unfold SLa; omega) (g47.sc (show SLa o ((o + 29)) by unfold SLa; omega) (g45.sc (show SLa o ((o + 29)) by unfold SLa; omega) (g43.sc (show SLa o ((o + 29)) by unfold SLa; omega) (g41.sc (show SLa o ((o + 29)) by unfold SLa; omega) c39_0))))))))
  have c57_1 : V57 ((o + 29)) 1 = (p27 : Int) := by rw [eV57, vset_ne _ _ _ _ (by omega)]; exact (g55.sc (show SLa o ((o + 29)) by unfold SLa; omega) (g53.sc (show SLa o ((o + 29)) by unfold SLa; omega) (g51.sc (show SLa o ((o + 29)) by unfold SLa; omega) (g49.sc (show SLa o ((o + 29)) by unfold SLa; omega) (g47.sc (show SLa o ((o + 29)) by unfold SLa; omega) (g45.sc (show SLa o ((o + 29)) by unfold SLa; omega) (g43.sc (show SLa o ((o + 29)) by unfold SLa; omega) (g41.sc (show SLa o ((o + 29)) by unfold SLa; omega) c39_1))))))))
  have c57_2 : V57 ((o + 29)) 2 = (p37 : Int) := by rw [eV57, vset_ne _ _ _ _ (by omega)]; exact (g55.sc (show SLa o ((o + 29)) by unfold SLa; omega) (g53.sc (show SLa o ((o + 29)) by unfold SLa; omega) (g51.sc (show SLa o ((o + 29)) by unfold SLa; omega) (g49.sc (show SLa o ((o + 29)) by unfold SLa; omega) (g47.sc (show SLa o ((o + 29)) by unfold SLa; omega) (g45.sc (show SLa o ((o + 29)) by unfold SLa; omega) (g43.sc (show SLa o ((o + 29)) by unfold SLa; omega) (g41.sc (show SLa o ((o + 29)) by unfold SLa; omega) c39_2))))))))
  have c57_3 : V57 ((o + 29)) 3 = (p55 : Int) := by rw [eV57]; exact vset_eq _ _ _ _
  have G_58 := G_56.trans (g57.wide (fun q hq => by have hq : q = o + 29 := hq; show q = o + 29; omega))
  have s57 : SA V57 ((o + 29)) p17 p27 p37 p55 := ⟨c57_0, c57_1, c57_2, c57_3⟩
  refine g_vret rfl ?_
  exact ⟨V57, rfl, G_58.mono (by omega), _, _, _, _, s57, ((g57.rb (g55.rb (g53.rb (g51.rb (g49.rb (g47.rb (g45.rb (g43.rb (g41.rb (g39.rb (g37.rb (g35.rb (g33.rb (g31.rb (g29.rb (g27.rb (g25.rb (g23.rb (g21.rb (g19.rb xp17)))))))))))))))))))).up (by omega)), ((g57.rb (g55.rb (g53.rb (g51.rb (g49.rb (g47.rb (g45.rb (g43.rb (g41.rb (g39.rb (g37.rb (g35.rb (g33.rb (g31.rb (g29.rb xp27))))))))))))))).up (by omega)), ((g57.rb (g55.rb (g53.rb (g51.rb (g49.rb (g47.rb (g45.rb (g43.rb (g41.rb (g39.rb xp37)))))))))).up (by omega)), ((g57.rb xp55).up (by omega))⟩
