/-! the class's plane, on: lowest terms, circles through points, ways: printed by wip/whole/d4.py -/
def lowD (P : T3) : Int := ((Int.gcd ((Int.gcd P.1 P.2.1 : Nat) : Int) P.2.2 : Nat) : Int)
def lowS (P : T3) : Int := if P.2.2 = 0 then (if P.2.1 = 0 then P.1 else P.2.1) else P.2.2
def lowT (P : T3) : T3 := (quo P.1 (if lowS P < 0 then -lowD P else lowD P), quo P.2.1 (if lowS P < 0 then -lowD P else lowD P), quo P.2.2 (if lowS P < 0 then -lowD P else lowD P))
def lowE (R : T4) : Int := ((Int.gcd ((Int.gcd R.1 R.2.1 : Nat) : Int) ((Int.gcd R.2.2.1 R.2.2.2 : Nat) : Int) : Nat) : Int)
def lowR (R : T4) : T4 := (quo R.1 (if R.1 < 0 then -lowE R else lowE R), quo R.2.1 (if R.1 < 0 then -lowE R else lowE R), quo R.2.2.1 (if R.1 < 0 then -lowE R else lowE R), quo R.2.2.2 (if R.1 < 0 then -lowE R else lowE R))
def ordT (P Q : T3) : Int := if lcmp P.1 Q.1 ≠ 0 then lcmp P.1 Q.1 else if lcmp P.2.1 Q.2.1 ≠ 0 then lcmp P.2.1 Q.2.1 else lcmp P.2.2 Q.2.2
set_option maxHeartbeats 4000000 in
theorem p_lowest {w : aW} {d : Nat} (hd : 5 ≤ d) {k : Nat} {h : aH} {c : Nat} (ci : CI h c) {aP : Nat} {P : T3} (tP : TB h c aP P (k))  (hk : k ≤ 382) : WP w d 48 [aO (some (c + 6)), aO (some aP)] h (RO (fun r h1 => ∃ p, r = some p ∧ Gr h h1 c 18 ∧ TB h1 c p (lowT P) (k))) := by
  obtain ⟨d, rfl⟩ : ∃ d1, d = d1 + 1 := ⟨d - 1, by omega⟩
  refine WP.enter (cd := cd_X2_lowest) rfl ?_
  have G0 := Gr.refl ci
  obtain ⟨Px, Py, Pw, fP, wPx, wPy, wPw⟩ := tP
  have hls : largs 0 [aO (some (c + 6)), aO (some aP)] = [(0, aO (some (c + 6))), (1, aO (some aP))] := rfl
  rw [hls]
  clear hls
  refine g_aload_n rfl rfl ?_
  refine g_getR rfl (G0.cs.kd 6 (by omega) rfl) (G0.cs.rf 5 (by omega) rfl) ?_
  refine g_aload_n rfl rfl ?_
  refine g_getR rfl (G0.cs.kd 6 (by omega) rfl) (G0.cs.rf 5 (by omega) rfl) ?_
  refine g_aload_n rfl rfl ?_
  refine g_getR rfl fP.1.2.2 fP.2.1 ?_
  refine g_aload_n rfl rfl ?_
  refine g_getR rfl fP.1.2.2 fP.2.2.1 ?_
  refine g_callVO [aO (some Px), aO (some Py)] [aO (some (c + 1))] rfl rfl rfl rfl (Nat.le_of_ble_eq_true rfl) (G0.cs.kd 1 (by omega) rfl) (s_gcd (by omega) G0.ci wPx wPy (k) (by omega) (by omega) (by omega)) ?_
  rintro _ h1 ⟨p1, rfl, g1, wp1⟩
  have G1 := G0.trans g1
  refine g_aload_n rfl rfl ?_
  refine g_getR rfl (g1.tf fP).1.2.2 (g1.tf fP).2.2.2 ?_
  refine g_callVO [aO (some p1), aO (some Pw)] [] rfl rfl rfl rfl (Nat.le_of_ble_eq_true rfl) (G1.cs.kd 1 (by omega) rfl) (s_gcd (by omega) G1.ci wp1 (g1.wb wPw) (k) (by omega) (by omega) (by omega)) ?_
  rintro _ h2 ⟨p2, rfl, g2, wp2⟩
  have G2 := G1.trans g2
  refine g_astore_n (l1 := [(2, aO (some p2)), (0, aO (some (c + 6))), (1, aO (some aP))]) rfl rfl ?_
  refine g_aload_n rfl rfl ?_
  refine g_getR rfl (G2.cs.kd 6 (by omega) rfl) (G2.cs.rf 5 (by omega) rfl) ?_
  refine g_aload_n rfl rfl ?_
  refine g_getR rfl (g2.tf (g1.tf fP)).1.2.2 (g2.tf (g1.tf fP)).2.2.1 ?_
  refine g_callVI [aO (some Py)] [] rfl rfl rfl rfl (Nat.le_of_ble_eq_true rfl) (G2.cs.kd 1 (by omega) rfl) (s_isZero (by omega) G2.ci (g2.wb (g1.wb wPy))) ?_
  rintro _ hx3 ⟨ehx3, rfl⟩
  rw [ehx3]
  clear ehx3 hx3
  refine g_b_eq rfl (fun c38 => ?_) (fun c38 => ?_)
  · skip
    refine g_aload_n rfl rfl ?_
    refine g_getR rfl (g2.tf (g1.tf fP)).1.2.2 (g2.tf (g1.tf fP)).2.2.1 ?_
    refine g_astore_n (l1 := [(3, aO (some Py)), (2, aO (some p2)), (0, aO (some (c + 6))), (1, aO (some aP))]) rfl rfl ?_
    refine g_aload_n rfl rfl ?_
    refine g_getR rfl (G2.cs.kd 6 (by omega) rfl) (G2.cs.rf 5 (by omega) rfl) ?_
    refine g_aload_n rfl rfl ?_
    refine g_getR rfl (G2.cs.kd 6 (by omega) rfl) (G2.cs.rf 5 (by omega) rfl) ?_
    refine g_aload_n rfl rfl ?_
    refine g_getR rfl (g2.tf (g1.tf fP)).1.2.2 (g2.tf (g1.tf fP)).2.2.2 ?_
    refine g_callVI [aO (some Pw)] [aO (some (c + 1))] rfl rfl rfl rfl (Nat.le_of_ble_eq_true rfl) (G2.cs.kd 1 (by omega) rfl) (s_isZero (by omega) G2.ci (g2.wb (g1.wb wPw))) ?_
    rintro _ hx4 ⟨ehx4, rfl⟩
    rw [ehx4]
    clear ehx4 hx4
    refine g_b_eq rfl (fun c68 => ?_) (fun c68 => ?_)
    · skip
      refine g_aload_n rfl rfl ?_
      refine g_getR rfl (g2.tf (g1.tf fP)).1.2.2 (g2.tf (g1.tf fP)).2.2.2 ?_
      refine g_callVI [aO (some Pw)] [] rfl rfl rfl rfl (Nat.le_of_ble_eq_true rfl) (G2.cs.kd 1 (by omega) rfl) (s_sign (by omega) G2.ci (g2.wb (g1.wb wPw))) ?_
      rintro _ hx5 ⟨ehx5, rfl⟩
      rw [ehx5]
      clear ehx5 hx5
      refine g_if_ge rfl (fun c82 => ?_) (fun c82 => ?_)
      · skip
        refine g_new rfl ?_
        obtain ⟨g6, ob6⟩ := Gr.mk (k := 19) (m := 3) G2.ci (by decide) (by decide)
        obtain ⟨t6, et6⟩ : ∃ t, t = hz h2 := ⟨_, rfl⟩
        obtain ⟨h6, eh6⟩ : ∃ hq9, hq9 = hnew h2 19 3 := ⟨_, rfl⟩
        rw [← eh6, ← et6] at ob6
        rw [← eh6] at g6
        refine g_hp (h2 := h6) eh6.symm ?_
        refine g_top (v2 := aO (some t6)) (by rw [et6]) ?_
        have G6 := G2.trans g6
        refine g_dup rfl rfl ?_
        refine g_aload_n rfl rfl ?_
        refine g_getR rfl (G6.cs.kd 6 (by omega) rfl) (G6.cs.rf 5 (by omega) rfl) ?_
        refine g_aload_n rfl rfl ?_
        refine g_getR rfl (g6.tf (g2.tf (g1.tf fP))).1.2.2 (g6.tf (g2.tf (g1.tf fP))).2.1 ?_
        refine g_aload_n rfl rfl ?_
        refine g_callVO [aO (some Px), aO (some p2)] [aO (some t6), aO (some t6)] rfl rfl rfl rfl (Nat.le_of_ble_eq_true rfl) (G6.cs.kd 1 (by omega) rfl) (s_quo (by omega) G6.ci (g6.wb (g2.wb (g1.wb wPx))) (g6.wb wp2) (by omega) (by omega)) ?_
        rintro _ h7 ⟨p7, rfl, g7, wp7⟩
        have G7 := G6.trans g7
        refine g_aload_n rfl rfl ?_
        refine g_getR rfl (G7.cs.kd 6 (by omega) rfl) (G7.cs.rf 5 (by omega) rfl) ?_
        refine g_aload_n rfl rfl ?_
        refine g_getR rfl (g7.tf (g6.tf (g2.tf (g1.tf fP)))).1.2.2 (g7.tf (g6.tf (g2.tf (g1.tf fP)))).2.2.1 ?_
        refine g_aload_n rfl rfl ?_
        refine g_callVO [aO (some Py), aO (some p2)] [aO (some p7), aO (some t6), aO (some t6)] rfl rfl rfl rfl (Nat.le_of_ble_eq_true rfl) (G7.cs.kd 1 (by omega) rfl) (s_quo (by omega) G7.ci (g7.wb (g6.wb (g2.wb (g1.wb wPy)))) (g7.wb (g6.wb wp2)) (by omega) (by omega)) ?_
        rintro _ h8 ⟨p8, rfl, g8, wp8⟩
        have G8 := G7.trans g8
        refine g_aload_n rfl rfl ?_
        refine g_getR rfl (G8.cs.kd 6 (by omega) rfl) (G8.cs.rf 5 (by omega) rfl) ?_
        refine g_aload_n rfl rfl ?_
        refine g_getR rfl (g8.tf (g7.tf (g6.tf (g2.tf (g1.tf fP))))).1.2.2 (g8.tf (g7.tf (g6.tf (g2.tf (g1.tf fP))))).2.2.2 ?_
        refine g_aload_n rfl rfl ?_
        refine g_callVO [aO (some Pw), aO (some p2)] [aO (some p8), aO (some p7), aO (some t6), aO (some t6)] rfl rfl rfl rfl (Nat.le_of_ble_eq_true rfl) (G8.cs.kd 1 (by omega) rfl) (s_quo (by omega) G8.ci (g8.wb (g7.wb (g6.wb (g2.wb (g1.wb wPw))))) (g8.wb (g7.wb (g6.wb wp2))) (by omega) (by omega)) ?_
        rintro _ h9 ⟨p9, rfl, g9, wp9⟩
        have G9 := G8.trans g9
        refine g_callIN [aO (some p7), aO (some p8), aO (some p9)] [aO (some t6)] rfl (by decide) rfl rfl rfl (Nat.le_of_ble_eq_true rfl) (g9.ob (g8.ob (g7.ob ob6))).2.2 (k_Triple (by omega) (g9.ob (g8.ob (g7.ob ob6))).2.2 (g9.ob (g8.ob (g7.ob ob6))).1 p7 p8 p9) ?_
        rintro _ rfl
        have c10 := ct3 (P := (quo P.1 (((Int.gcd (((Int.gcd P.1 P.2.1 : Nat) : Int)) P.2.2 : Nat) : Int)), quo P.2.1 (((Int.gcd (((Int.gcd P.1 P.2.1 : Nat) : Int)) P.2.2 : Nat) : Int)), quo P.2.2 (((Int.gcd (((Int.gcd P.1 P.2.1 : Nat) : Int)) P.2.2 : Nat) : Int)))) (k := k) G9 (g9.ob (g8.ob (g7.ob ob6))) (by have := G2.2.1.1; omega) ((g9.wb (g8.wb wp7)).up (by omega)) ((g9.wb wp8).up (by omega)) (wp9.up (by omega))
        have faP_10 := c10.2.2.2.1 _ _ _ _ (by have := (g2.tf (g1.tf fP)).1.1; omega) (g9.tf (g8.tf (g7.tf (g6.tf (g2.tf (g1.tf fP))))))
        obtain ⟨h10, eh10⟩ : ∃ hq9, hq9 = pt3 h9 t6 p7 p8 p9 := ⟨_, rfl⟩
        refine g_hp (h2 := h10) (by rw [eh10]; rfl) ?_
        rw [← eh10] at c10 faP_10
        have G10 := c10.1
        obtain ⟨q10x, q10y, q10w, f10, wq10x, wq10y, wq10w⟩ := c10.2.1
        refine g_aret rfl ?_
        refine ⟨t6, rfl, G10.mono (by omega), ?_⟩
        have l1 := @lcmp_neg P.1
        have l2 := @lcmp_neg P.2.1
        have l3 := @lcmp_neg P.2.2
        first
          | (have e : lowS P < 0 := by unfold lowS; (repeat' split) <;> omega
             unfold lowT
             rw [if_pos e])
          | (have e : ¬ lowS P < 0 := by unfold lowS; (repeat' split) <;> omega
             unfold lowT
             rw [if_neg e])
        exact ⟨_, _, _, f10, (wq10x.up (by omega)), (wq10y.up (by omega)), (wq10w.up (by omega))⟩
      · skip
        refine g_aload_n rfl rfl ?_
        refine g_getR rfl (G2.cs.kd 6 (by omega) rfl) (G2.cs.rf 5 (by omega) rfl) ?_
        refine g_aload_n rfl rfl ?_
        refine g_callVO [aO (some p2)] [] rfl rfl rfl rfl (Nat.le_of_ble_eq_true rfl) (G2.cs.kd 1 (by omega) rfl) (s_neg (by omega) G2.ci wp2 (by omega)) ?_
        rintro _ h11 ⟨p11, rfl, g11, wp11⟩
        have G11 := G2.trans g11
        refine g_astore_n (l1 := [(2, aO (some p11)), (3, aO (some Py)), (0, aO (some (c + 6))), (1, aO (some aP))]) rfl rfl ?_
        refine g_new rfl ?_
        obtain ⟨g12, ob12⟩ := Gr.mk (k := 19) (m := 3) G11.ci (by decide) (by decide)
        obtain ⟨t12, et12⟩ : ∃ t, t = hz h11 := ⟨_, rfl⟩
        obtain ⟨h12, eh12⟩ : ∃ hq9, hq9 = hnew h11 19 3 := ⟨_, rfl⟩
        rw [← eh12, ← et12] at ob12
        rw [← eh12] at g12
        refine g_hp (h2 := h12) eh12.symm ?_
        refine g_top (v2 := aO (some t12)) (by rw [et12]) ?_
        have G12 := G11.trans g12
        refine g_dup rfl rfl ?_
        refine g_aload_n rfl rfl ?_
        refine g_getR rfl (G12.cs.kd 6 (by omega) rfl) (G12.cs.rf 5 (by omega) rfl) ?_
        refine g_aload_n rfl rfl ?_
        refine g_getR rfl (g12.tf (g11.tf (g2.tf (g1.tf fP)))).1.2.2 (g12.tf (g11.tf (g2.tf (g1.tf fP)))).2.1 ?_
        refine g_aload_n rfl rfl ?_
        refine g_callVO [aO (some Px), aO (some p11)] [aO (some t12), aO (some t12)] rfl rfl rfl rfl (Nat.le_of_ble_eq_true rfl) (G12.cs.kd 1 (by omega) rfl) (s_quo (by omega) G12.ci (g12.wb (g11.wb (g2.wb (g1.wb wPx)))) (g12.wb wp11) (by omega) (by omega)) ?_
        rintro _ h13 ⟨p13, rfl, g13, wp13⟩
        have G13 := G12.trans g13
        refine g_aload_n rfl rfl ?_
        refine g_getR rfl (G13.cs.kd 6 (by omega) rfl) (G13.cs.rf 5 (by omega) rfl) ?_
        refine g_aload_n rfl rfl ?_
        refine g_getR rfl (g13.tf (g12.tf (g11.tf (g2.tf (g1.tf fP))))).1.2.2 (g13.tf (g12.tf (g11.tf (g2.tf (g1.tf fP))))).2.2.1 ?_
        refine g_aload_n rfl rfl ?_
        refine g_callVO [aO (some Py), aO (some p11)] [aO (some p13), aO (some t12), aO (some t12)] rfl rfl rfl rfl (Nat.le_of_ble_eq_true rfl) (G13.cs.kd 1 (by omega) rfl) (s_quo (by omega) G13.ci (g13.wb (g12.wb (g11.wb (g2.wb (g1.wb wPy))))) (g13.wb (g12.wb wp11)) (by omega) (by omega)) ?_
        rintro _ h14 ⟨p14, rfl, g14, wp14⟩
        have G14 := G13.trans g14
        refine g_aload_n rfl rfl ?_
        refine g_getR rfl (G14.cs.kd 6 (by omega) rfl) (G14.cs.rf 5 (by omega) rfl) ?_
        refine g_aload_n rfl rfl ?_
        refine g_getR rfl (g14.tf (g13.tf (g12.tf (g11.tf (g2.tf (g1.tf fP)))))).1.2.2 (g14.tf (g13.tf (g12.tf (g11.tf (g2.tf (g1.tf fP)))))).2.2.2 ?_
        refine g_aload_n rfl rfl ?_
        refine g_callVO [aO (some Pw), aO (some p11)] [aO (some p14), aO (some p13), aO (some t12), aO (some t12)] rfl rfl rfl rfl (Nat.le_of_ble_eq_true rfl) (G14.cs.kd 1 (by omega) rfl) (s_quo (by omega) G14.ci (g14.wb (g13.wb (g12.wb (g11.wb (g2.wb (g1.wb wPw)))))) (g14.wb (g13.wb (g12.wb wp11))) (by omega) (by omega)) ?_
        rintro _ h15 ⟨p15, rfl, g15, wp15⟩
        have G15 := G14.trans g15
        refine g_callIN [aO (some p13), aO (some p14), aO (some p15)] [aO (some t12)] rfl (by decide) rfl rfl rfl (Nat.le_of_ble_eq_true rfl) (g15.ob (g14.ob (g13.ob ob12))).2.2 (k_Triple (by omega) (g15.ob (g14.ob (g13.ob ob12))).2.2 (g15.ob (g14.ob (g13.ob ob12))).1 p13 p14 p15) ?_
        rintro _ rfl
        have c16 := ct3 (P := (quo P.1 (-(((Int.gcd (((Int.gcd P.1 P.2.1 : Nat) : Int)) P.2.2 : Nat) : Int))), quo P.2.1 (-(((Int.gcd (((Int.gcd P.1 P.2.1 : Nat) : Int)) P.2.2 : Nat) : Int))), quo P.2.2 (-(((Int.gcd (((Int.gcd P.1 P.2.1 : Nat) : Int)) P.2.2 : Nat) : Int))))) (k := k) G15 (g15.ob (g14.ob (g13.ob ob12))) (by have := G11.2.1.1; omega) ((g15.wb (g14.wb wp13)).up (by omega)) ((g15.wb wp14).up (by omega)) (wp15.up (by omega))
        have faP_16 := c16.2.2.2.1 _ _ _ _ (by have := (g11.tf (g2.tf (g1.tf fP))).1.1; omega) (g15.tf (g14.tf (g13.tf (g12.tf (g11.tf (g2.tf (g1.tf fP)))))))
        obtain ⟨h16, eh16⟩ : ∃ hq9, hq9 = pt3 h15 t12 p13 p14 p15 := ⟨_, rfl⟩
        refine g_hp (h2 := h16) (by rw [eh16]; rfl) ?_
        rw [← eh16] at c16 faP_16
        have G16 := c16.1
        obtain ⟨q16x, q16y, q16w, f16, wq16x, wq16y, wq16w⟩ := c16.2.1
        refine g_aret rfl ?_
        refine ⟨t12, rfl, G16.mono (by omega), ?_⟩
        have l1 := @lcmp_neg P.1
        have l2 := @lcmp_neg P.2.1
        have l3 := @lcmp_neg P.2.2
        first
          | (have e : lowS P < 0 := by unfold lowS; (repeat' split) <;> omega
             unfold lowT
             rw [if_pos e])
          | (have e : ¬ lowS P < 0 := by unfold lowS; (repeat' split) <;> omega
             unfold lowT
             rw [if_neg e])
        exact ⟨_, _, _, f16, (wq16x.up (by omega)), (wq16y.up (by omega)), (wq16w.up (by omega))⟩
    · skip
      refine g_aload_n rfl rfl ?_
      refine g_goto rfl ?_
      refine g_callVI [aO (some Py)] [] rfl rfl rfl rfl (Nat.le_of_ble_eq_true rfl) (G2.cs.kd 1 (by omega) rfl) (s_sign (by omega) G2.ci (g2.wb (g1.wb wPy))) ?_
      rintro _ hx17 ⟨ehx17, rfl⟩
      rw [ehx17]
      clear ehx17 hx17
      refine g_if_ge rfl (fun c82 => ?_) (fun c82 => ?_)
      · skip
        refine g_new rfl ?_
        obtain ⟨g18, ob18⟩ := Gr.mk (k := 19) (m := 3) G2.ci (by decide) (by decide)
        obtain ⟨t18, et18⟩ : ∃ t, t = hz h2 := ⟨_, rfl⟩
        obtain ⟨h18, eh18⟩ : ∃ hq9, hq9 = hnew h2 19 3 := ⟨_, rfl⟩
        rw [← eh18, ← et18] at ob18
        rw [← eh18] at g18
        refine g_hp (h2 := h18) eh18.symm ?_
        refine g_top (v2 := aO (some t18)) (by rw [et18]) ?_
        have G18 := G2.trans g18
        refine g_dup rfl rfl ?_
        refine g_aload_n rfl rfl ?_
        refine g_getR rfl (G18.cs.kd 6 (by omega) rfl) (G18.cs.rf 5 (by omega) rfl) ?_
        refine g_aload_n rfl rfl ?_
        refine g_getR rfl (g18.tf (g2.tf (g1.tf fP))).1.2.2 (g18.tf (g2.tf (g1.tf fP))).2.1 ?_
        refine g_aload_n rfl rfl ?_
        refine g_callVO [aO (some Px), aO (some p2)] [aO (some t18), aO (some t18)] rfl rfl rfl rfl (Nat.le_of_ble_eq_true rfl) (G18.cs.kd 1 (by omega) rfl) (s_quo (by omega) G18.ci (g18.wb (g2.wb (g1.wb wPx))) (g18.wb wp2) (by omega) (by omega)) ?_
        rintro _ h19 ⟨p19, rfl, g19, wp19⟩
        have G19 := G18.trans g19
        refine g_aload_n rfl rfl ?_
        refine g_getR rfl (G19.cs.kd 6 (by omega) rfl) (G19.cs.rf 5 (by omega) rfl) ?_
        refine g_aload_n rfl rfl ?_
        refine g_getR rfl (g19.tf (g18.tf (g2.tf (g1.tf fP)))).1.2.2 (g19.tf (g18.tf (g2.tf (g1.tf fP)))).2.2.1 ?_
        refine g_aload_n rfl rfl ?_
        refine g_callVO [aO (some Py), aO (some p2)] [aO (some p19), aO (some t18), aO (some t18)] rfl rfl rfl rfl (Nat.le_of_ble_eq_true rfl) (G19.cs.kd 1 (by omega) rfl) (s_quo (by omega) G19.ci (g19.wb (g18.wb (g2.wb (g1.wb wPy)))) (g19.wb (g18.wb wp2)) (by omega) (by omega)) ?_
        rintro _ h20 ⟨p20, rfl, g20, wp20⟩
        have G20 := G19.trans g20
        refine g_aload_n rfl rfl ?_
        refine g_getR rfl (G20.cs.kd 6 (by omega) rfl) (G20.cs.rf 5 (by omega) rfl) ?_
        refine g_aload_n rfl rfl ?_
        refine g_getR rfl (g20.tf (g19.tf (g18.tf (g2.tf (g1.tf fP))))).1.2.2 (g20.tf (g19.tf (g18.tf (g2.tf (g1.tf fP))))).2.2.2 ?_
        refine g_aload_n rfl rfl ?_
        refine g_callVO [aO (some Pw), aO (some p2)] [aO (some p20), aO (some p19), aO (some t18), aO (some t18)] rfl rfl rfl rfl (Nat.le_of_ble_eq_true rfl) (G20.cs.kd 1 (by omega) rfl) (s_quo (by omega) G20.ci (g20.wb (g19.wb (g18.wb (g2.wb (g1.wb wPw))))) (g20.wb (g19.wb (g18.wb wp2))) (by omega) (by omega)) ?_
        rintro _ h21 ⟨p21, rfl, g21, wp21⟩
        have G21 := G20.trans g21
        refine g_callIN [aO (some p19), aO (some p20), aO (some p21)] [aO (some t18)] rfl (by decide) rfl rfl rfl (Nat.le_of_ble_eq_true rfl) (g21.ob (g20.ob (g19.ob ob18))).2.2 (k_Triple (by omega) (g21.ob (g20.ob (g19.ob ob18))).2.2 (g21.ob (g20.ob (g19.ob ob18))).1 p19 p20 p21) ?_
        rintro _ rfl
        have c22 := ct3 (P := (quo P.1 (((Int.gcd (((Int.gcd P.1 P.2.1 : Nat) : Int)) P.2.2 : Nat) : Int)), quo P.2.1 (((Int.gcd (((Int.gcd P.1 P.2.1 : Nat) : Int)) P.2.2 : Nat) : Int)), quo P.2.2 (((Int.gcd (((Int.gcd P.1 P.2.1 : Nat) : Int)) P.2.2 : Nat) : Int)))) (k := k) G21 (g21.ob (g20.ob (g19.ob ob18))) (by have := G2.2.1.1; omega) ((g21.wb (g20.wb wp19)).up (by omega)) ((g21.wb wp20).up (by omega)) (wp21.up (by omega))
        have faP_22 := c22.2.2.2.1 _ _ _ _ (by have := (g2.tf (g1.tf fP)).1.1; omega) (g21.tf (g20.tf (g19.tf (g18.tf (g2.tf (g1.tf fP))))))
        obtain ⟨h22, eh22⟩ : ∃ hq9, hq9 = pt3 h21 t18 p19 p20 p21 := ⟨_, rfl⟩
        refine g_hp (h2 := h22) (by rw [eh22]; rfl) ?_
        rw [← eh22] at c22 faP_22
        have G22 := c22.1
        obtain ⟨q22x, q22y, q22w, f22, wq22x, wq22y, wq22w⟩ := c22.2.1
        refine g_aret rfl ?_
        refine ⟨t18, rfl, G22.mono (by omega), ?_⟩
        have l1 := @lcmp_neg P.1
        have l2 := @lcmp_neg P.2.1
        have l3 := @lcmp_neg P.2.2
        first
          | (have e : lowS P < 0 := by unfold lowS; (repeat' split) <;> omega
             unfold lowT
             rw [if_pos e])
          | (have e : ¬ lowS P < 0 := by unfold lowS; (repeat' split) <;> omega
             unfold lowT
             rw [if_neg e])
        exact ⟨_, _, _, f22, (wq22x.up (by omega)), (wq22y.up (by omega)), (wq22w.up (by omega))⟩
      · skip
        refine g_aload_n rfl rfl ?_
        refine g_getR rfl (G2.cs.kd 6 (by omega) rfl) (G2.cs.rf 5 (by omega) rfl) ?_
        refine g_aload_n rfl rfl ?_
        refine g_callVO [aO (some p2)] [] rfl rfl rfl rfl (Nat.le_of_ble_eq_true rfl) (G2.cs.kd 1 (by omega) rfl) (s_neg (by omega) G2.ci wp2 (by omega)) ?_
        rintro _ h23 ⟨p23, rfl, g23, wp23⟩
        have G23 := G2.trans g23
        refine g_astore_n (l1 := [(2, aO (some p23)), (3, aO (some Py)), (0, aO (some (c + 6))), (1, aO (some aP))]) rfl rfl ?_
        refine g_new rfl ?_
        obtain ⟨g24, ob24⟩ := Gr.mk (k := 19) (m := 3) G23.ci (by decide) (by decide)
        obtain ⟨t24, et24⟩ : ∃ t, t = hz h23 := ⟨_, rfl⟩
        obtain ⟨h24, eh24⟩ : ∃ hq9, hq9 = hnew h23 19 3 := ⟨_, rfl⟩
        rw [← eh24, ← et24] at ob24
        rw [← eh24] at g24
        refine g_hp (h2 := h24) eh24.symm ?_
        refine g_top (v2 := aO (some t24)) (by rw [et24]) ?_
        have G24 := G23.trans g24
        refine g_dup rfl rfl ?_
        refine g_aload_n rfl rfl ?_
        refine g_getR rfl (G24.cs.kd 6 (by omega) rfl) (G24.cs.rf 5 (by omega) rfl) ?_
        refine g_aload_n rfl rfl ?_
        refine g_getR rfl (g24.tf (g23.tf (g2.tf (g1.tf fP)))).1.2.2 (g24.tf (g23.tf (g2.tf (g1.tf fP)))).2.1 ?_
        refine g_aload_n rfl rfl ?_
        refine g_callVO [aO (some Px), aO (some p23)] [aO (some t24), aO (some t24)] rfl rfl rfl rfl (Nat.le_of_ble_eq_true rfl) (G24.cs.kd 1 (by omega) rfl) (s_quo (by omega) G24.ci (g24.wb (g23.wb (g2.wb (g1.wb wPx)))) (g24.wb wp23) (by omega) (by omega)) ?_
        rintro _ h25 ⟨p25, rfl, g25, wp25⟩
        have G25 := G24.trans g25
        refine g_aload_n rfl rfl ?_
        refine g_getR rfl (G25.cs.kd 6 (by omega) rfl) (G25.cs.rf 5 (by omega) rfl) ?_
        refine g_aload_n rfl rfl ?_
        refine g_getR rfl (g25.tf (g24.tf (g23.tf (g2.tf (g1.tf fP))))).1.2.2 (g25.tf (g24.tf (g23.tf (g2.tf (g1.tf fP))))).2.2.1 ?_
        refine g_aload_n rfl rfl ?_
        refine g_callVO [aO (some Py), aO (some p23)] [aO (some p25), aO (some t24), aO (some t24)] rfl rfl rfl rfl (Nat.le_of_ble_eq_true rfl) (G25.cs.kd 1 (by omega) rfl) (s_quo (by omega) G25.ci (g25.wb (g24.wb (g23.wb (g2.wb (g1.wb wPy))))) (g25.wb (g24.wb wp23)) (by omega) (by omega)) ?_
        rintro _ h26 ⟨p26, rfl, g26, wp26⟩
        have G26 := G25.trans g26
        refine g_aload_n rfl rfl ?_
        refine g_getR rfl (G26.cs.kd 6 (by omega) rfl) (G26.cs.rf 5 (by omega) rfl) ?_
        refine g_aload_n rfl rfl ?_
        refine g_getR rfl (g26.tf (g25.tf (g24.tf (g23.tf (g2.tf (g1.tf fP)))))).1.2.2 (g26.tf (g25.tf (g24.tf (g23.tf (g2.tf (g1.tf fP)))))).2.2.2 ?_
        refine g_aload_n rfl rfl ?_
        refine g_callVO [aO (some Pw), aO (some p23)] [aO (some p26), aO (some p25), aO (some t24), aO (some t24)] rfl rfl rfl rfl (Nat.le_of_ble_eq_true rfl) (G26.cs.kd 1 (by omega) rfl) (s_quo (by omega) G26.ci (g26.wb (g25.wb (g24.wb (g23.wb (g2.wb (g1.wb wPw)))))) (g26.wb (g25.wb (g24.wb wp23))) (by omega) (by omega)) ?_
        rintro _ h27 ⟨p27, rfl, g27, wp27⟩
        have G27 := G26.trans g27
        refine g_callIN [aO (some p25), aO (some p26), aO (some p27)] [aO (some t24)] rfl (by decide) rfl rfl rfl (Nat.le_of_ble_eq_true rfl) (g27.ob (g26.ob (g25.ob ob24))).2.2 (k_Triple (by omega) (g27.ob (g26.ob (g25.ob ob24))).2.2 (g27.ob (g26.ob (g25.ob ob24))).1 p25 p26 p27) ?_
        rintro _ rfl
        have c28 := ct3 (P := (quo P.1 (-(((Int.gcd (((Int.gcd P.1 P.2.1 : Nat) : Int)) P.2.2 : Nat) : Int))), quo P.2.1 (-(((Int.gcd (((Int.gcd P.1 P.2.1 : Nat) : Int)) P.2.2 : Nat) : Int))), quo P.2.2 (-(((Int.gcd (((Int.gcd P.1 P.2.1 : Nat) : Int)) P.2.2 : Nat) : Int))))) (k := k) G27 (g27.ob (g26.ob (g25.ob ob24))) (by have := G23.2.1.1; omega) ((g27.wb (g26.wb wp25)).up (by omega)) ((g27.wb wp26).up (by omega)) (wp27.up (by omega))
        have faP_28 := c28.2.2.2.1 _ _ _ _ (by have := (g23.tf (g2.tf (g1.tf fP))).1.1; omega) (g27.tf (g26.tf (g25.tf (g24.tf (g23.tf (g2.tf (g1.tf fP)))))))
        obtain ⟨h28, eh28⟩ : ∃ hq9, hq9 = pt3 h27 t24 p25 p26 p27 := ⟨_, rfl⟩
        refine g_hp (h2 := h28) (by rw [eh28]; rfl) ?_
        rw [← eh28] at c28 faP_28
        have G28 := c28.1
        obtain ⟨q28x, q28y, q28w, f28, wq28x, wq28y, wq28w⟩ := c28.2.1
        refine g_aret rfl ?_
        refine ⟨t24, rfl, G28.mono (by omega), ?_⟩
        have l1 := @lcmp_neg P.1
        have l2 := @lcmp_neg P.2.1
        have l3 := @lcmp_neg P.2.2
        first
          | (have e : lowS P < 0 := by unfold lowS; (repeat' split) <;> omega
             unfold lowT
             rw [if_pos e])
          | (have e : ¬ lowS P < 0 := by unfold lowS; (repeat' split) <;> omega
             unfold lowT
             rw [if_neg e])
        exact ⟨_, _, _, f28, (wq28x.up (by omega)), (wq28y.up (by omega)), (wq28w.up (by omega))⟩
  · skip
    refine g_aload_n rfl rfl ?_
    refine g_getR rfl (g2.tf (g1.tf fP)).1.2.2 (g2.tf (g1.tf fP)).2.1 ?_
    refine g_goto rfl ?_
    refine g_astore_n (l1 := [(3, aO (some Px)), (2, aO (some p2)), (0, aO (some (c + 6))), (1, aO (some aP))]) rfl rfl ?_
    refine g_aload_n rfl rfl ?_
    refine g_getR rfl (G2.cs.kd 6 (by omega) rfl) (G2.cs.rf 5 (by omega) rfl) ?_
    refine g_aload_n rfl rfl ?_
    refine g_getR rfl (G2.cs.kd 6 (by omega) rfl) (G2.cs.rf 5 (by omega) rfl) ?_
    refine g_aload_n rfl rfl ?_
    refine g_getR rfl (g2.tf (g1.tf fP)).1.2.2 (g2.tf (g1.tf fP)).2.2.2 ?_
    refine g_callVI [aO (some Pw)] [aO (some (c + 1))] rfl rfl rfl rfl (Nat.le_of_ble_eq_true rfl) (G2.cs.kd 1 (by omega) rfl) (s_isZero (by omega) G2.ci (g2.wb (g1.wb wPw))) ?_
    rintro _ hx29 ⟨ehx29, rfl⟩
    rw [ehx29]
    clear ehx29 hx29
    refine g_b_eq rfl (fun c68 => ?_) (fun c68 => ?_)
    · skip
      refine g_aload_n rfl rfl ?_
      refine g_getR rfl (g2.tf (g1.tf fP)).1.2.2 (g2.tf (g1.tf fP)).2.2.2 ?_
      refine g_callVI [aO (some Pw)] [] rfl rfl rfl rfl (Nat.le_of_ble_eq_true rfl) (G2.cs.kd 1 (by omega) rfl) (s_sign (by omega) G2.ci (g2.wb (g1.wb wPw))) ?_
      rintro _ hx30 ⟨ehx30, rfl⟩
      rw [ehx30]
      clear ehx30 hx30
      refine g_if_ge rfl (fun c82 => ?_) (fun c82 => ?_)
      · skip
        refine g_new rfl ?_
        obtain ⟨g31, ob31⟩ := Gr.mk (k := 19) (m := 3) G2.ci (by decide) (by decide)
        obtain ⟨t31, et31⟩ : ∃ t, t = hz h2 := ⟨_, rfl⟩
        obtain ⟨h31, eh31⟩ : ∃ hq9, hq9 = hnew h2 19 3 := ⟨_, rfl⟩
        rw [← eh31, ← et31] at ob31
        rw [← eh31] at g31
        refine g_hp (h2 := h31) eh31.symm ?_
        refine g_top (v2 := aO (some t31)) (by rw [et31]) ?_
        have G31 := G2.trans g31
        refine g_dup rfl rfl ?_
        refine g_aload_n rfl rfl ?_
        refine g_getR rfl (G31.cs.kd 6 (by omega) rfl) (G31.cs.rf 5 (by omega) rfl) ?_
        refine g_aload_n rfl rfl ?_
        refine g_getR rfl (g31.tf (g2.tf (g1.tf fP))).1.2.2 (g31.tf (g2.tf (g1.tf fP))).2.1 ?_
        refine g_aload_n rfl rfl ?_
        refine g_callVO [aO (some Px), aO (some p2)] [aO (some t31), aO (some t31)] rfl rfl rfl rfl (Nat.le_of_ble_eq_true rfl) (G31.cs.kd 1 (by omega) rfl) (s_quo (by omega) G31.ci (g31.wb (g2.wb (g1.wb wPx))) (g31.wb wp2) (by omega) (by omega)) ?_
        rintro _ h32 ⟨p32, rfl, g32, wp32⟩
        have G32 := G31.trans g32
        refine g_aload_n rfl rfl ?_
        refine g_getR rfl (G32.cs.kd 6 (by omega) rfl) (G32.cs.rf 5 (by omega) rfl) ?_
        refine g_aload_n rfl rfl ?_
        refine g_getR rfl (g32.tf (g31.tf (g2.tf (g1.tf fP)))).1.2.2 (g32.tf (g31.tf (g2.tf (g1.tf fP)))).2.2.1 ?_
        refine g_aload_n rfl rfl ?_
        refine g_callVO [aO (some Py), aO (some p2)] [aO (some p32), aO (some t31), aO (some t31)] rfl rfl rfl rfl (Nat.le_of_ble_eq_true rfl) (G32.cs.kd 1 (by omega) rfl) (s_quo (by omega) G32.ci (g32.wb (g31.wb (g2.wb (g1.wb wPy)))) (g32.wb (g31.wb wp2)) (by omega) (by omega)) ?_
        rintro _ h33 ⟨p33, rfl, g33, wp33⟩
        have G33 := G32.trans g33
        refine g_aload_n rfl rfl ?_
        refine g_getR rfl (G33.cs.kd 6 (by omega) rfl) (G33.cs.rf 5 (by omega) rfl) ?_
        refine g_aload_n rfl rfl ?_
        refine g_getR rfl (g33.tf (g32.tf (g31.tf (g2.tf (g1.tf fP))))).1.2.2 (g33.tf (g32.tf (g31.tf (g2.tf (g1.tf fP))))).2.2.2 ?_
        refine g_aload_n rfl rfl ?_
        refine g_callVO [aO (some Pw), aO (some p2)] [aO (some p33), aO (some p32), aO (some t31), aO (some t31)] rfl rfl rfl rfl (Nat.le_of_ble_eq_true rfl) (G33.cs.kd 1 (by omega) rfl) (s_quo (by omega) G33.ci (g33.wb (g32.wb (g31.wb (g2.wb (g1.wb wPw))))) (g33.wb (g32.wb (g31.wb wp2))) (by omega) (by omega)) ?_
        rintro _ h34 ⟨p34, rfl, g34, wp34⟩
        have G34 := G33.trans g34
        refine g_callIN [aO (some p32), aO (some p33), aO (some p34)] [aO (some t31)] rfl (by decide) rfl rfl rfl (Nat.le_of_ble_eq_true rfl) (g34.ob (g33.ob (g32.ob ob31))).2.2 (k_Triple (by omega) (g34.ob (g33.ob (g32.ob ob31))).2.2 (g34.ob (g33.ob (g32.ob ob31))).1 p32 p33 p34) ?_
        rintro _ rfl
        have c35 := ct3 (P := (quo P.1 (((Int.gcd (((Int.gcd P.1 P.2.1 : Nat) : Int)) P.2.2 : Nat) : Int)), quo P.2.1 (((Int.gcd (((Int.gcd P.1 P.2.1 : Nat) : Int)) P.2.2 : Nat) : Int)), quo P.2.2 (((Int.gcd (((Int.gcd P.1 P.2.1 : Nat) : Int)) P.2.2 : Nat) : Int)))) (k := k) G34 (g34.ob (g33.ob (g32.ob ob31))) (by have := G2.2.1.1; omega) ((g34.wb (g33.wb wp32)).up (by omega)) ((g34.wb wp33).up (by omega)) (wp34.up (by omega))
        have faP_35 := c35.2.2.2.1 _ _ _ _ (by have := (g2.tf (g1.tf fP)).1.1; omega) (g34.tf (g33.tf (g32.tf (g31.tf (g2.tf (g1.tf fP))))))
        obtain ⟨h35, eh35⟩ : ∃ hq9, hq9 = pt3 h34 t31 p32 p33 p34 := ⟨_, rfl⟩
        refine g_hp (h2 := h35) (by rw [eh35]; rfl) ?_
        rw [← eh35] at c35 faP_35
        have G35 := c35.1
        obtain ⟨q35x, q35y, q35w, f35, wq35x, wq35y, wq35w⟩ := c35.2.1
        refine g_aret rfl ?_
        refine ⟨t31, rfl, G35.mono (by omega), ?_⟩
        have l1 := @lcmp_neg P.1
        have l2 := @lcmp_neg P.2.1
        have l3 := @lcmp_neg P.2.2
        first
          | (have e : lowS P < 0 := by unfold lowS; (repeat' split) <;> omega
             unfold lowT
             rw [if_pos e])
          | (have e : ¬ lowS P < 0 := by unfold lowS; (repeat' split) <;> omega
             unfold lowT
             rw [if_neg e])
        exact ⟨_, _, _, f35, (wq35x.up (by omega)), (wq35y.up (by omega)), (wq35w.up (by omega))⟩
      · skip
        refine g_aload_n rfl rfl ?_
        refine g_getR rfl (G2.cs.kd 6 (by omega) rfl) (G2.cs.rf 5 (by omega) rfl) ?_
        refine g_aload_n rfl rfl ?_
        refine g_callVO [aO (some p2)] [] rfl rfl rfl rfl (Nat.le_of_ble_eq_true rfl) (G2.cs.kd 1 (by omega) rfl) (s_neg (by omega) G2.ci wp2 (by omega)) ?_
        rintro _ h36 ⟨p36, rfl, g36, wp36⟩
        have G36 := G2.trans g36
        refine g_astore_n (l1 := [(2, aO (some p36)), (3, aO (some Px)), (0, aO (some (c + 6))), (1, aO (some aP))]) rfl rfl ?_
        refine g_new rfl ?_
        obtain ⟨g37, ob37⟩ := Gr.mk (k := 19) (m := 3) G36.ci (by decide) (by decide)
        obtain ⟨t37, et37⟩ : ∃ t, t = hz h36 := ⟨_, rfl⟩
        obtain ⟨h37, eh37⟩ : ∃ hq9, hq9 = hnew h36 19 3 := ⟨_, rfl⟩
        rw [← eh37, ← et37] at ob37
        rw [← eh37] at g37
        refine g_hp (h2 := h37) eh37.symm ?_
        refine g_top (v2 := aO (some t37)) (by rw [et37]) ?_
        have G37 := G36.trans g37
        refine g_dup rfl rfl ?_
        refine g_aload_n rfl rfl ?_
        refine g_getR rfl (G37.cs.kd 6 (by omega) rfl) (G37.cs.rf 5 (by omega) rfl) ?_
        refine g_aload_n rfl rfl ?_
        refine g_getR rfl (g37.tf (g36.tf (g2.tf (g1.tf fP)))).1.2.2 (g37.tf (g36.tf (g2.tf (g1.tf fP)))).2.1 ?_
        refine g_aload_n rfl rfl ?_
        refine g_callVO [aO (some Px), aO (some p36)] [aO (some t37), aO (some t37)] rfl rfl rfl rfl (Nat.le_of_ble_eq_true rfl) (G37.cs.kd 1 (by omega) rfl) (s_quo (by omega) G37.ci (g37.wb (g36.wb (g2.wb (g1.wb wPx)))) (g37.wb wp36) (by omega) (by omega)) ?_
        rintro _ h38 ⟨p38, rfl, g38, wp38⟩
        have G38 := G37.trans g38
        refine g_aload_n rfl rfl ?_
        refine g_getR rfl (G38.cs.kd 6 (by omega) rfl) (G38.cs.rf 5 (by omega) rfl) ?_
        refine g_aload_n rfl rfl ?_
        refine g_getR rfl (g38.tf (g37.tf (g36.tf (g2.tf (g1.tf fP))))).1.2.2 (g38.tf (g37.tf (g36.tf (g2.tf (g1.tf fP))))).2.2.1 ?_
        refine g_aload_n rfl rfl ?_
        refine g_callVO [aO (some Py), aO (some p36)] [aO (some p38), aO (some t37), aO (some t37)] rfl rfl rfl rfl (Nat.le_of_ble_eq_true rfl) (G38.cs.kd 1 (by omega) rfl) (s_quo (by omega) G38.ci (g38.wb (g37.wb (g36.wb (g2.wb (g1.wb wPy))))) (g38.wb (g37.wb wp36)) (by omega) (by omega)) ?_
        rintro _ h39 ⟨p39, rfl, g39, wp39⟩
        have G39 := G38.trans g39
        refine g_aload_n rfl rfl ?_
        refine g_getR rfl (G39.cs.kd 6 (by omega) rfl) (G39.cs.rf 5 (by omega) rfl) ?_
        refine g_aload_n rfl rfl ?_
        refine g_getR rfl (g39.tf (g38.tf (g37.tf (g36.tf (g2.tf (g1.tf fP)))))).1.2.2 (g39.tf (g38.tf (g37.tf (g36.tf (g2.tf (g1.tf fP)))))).2.2.2 ?_
        refine g_aload_n rfl rfl ?_
        refine g_callVO [aO (some Pw), aO (some p36)] [aO (some p39), aO (some p38), aO (some t37), aO (some t37)] rfl rfl rfl rfl (Nat.le_of_ble_eq_true rfl) (G39.cs.kd 1 (by omega) rfl) (s_quo (by omega) G39.ci (g39.wb (g38.wb (g37.wb (g36.wb (g2.wb (g1.wb wPw)))))) (g39.wb (g38.wb (g37.wb wp36))) (by omega) (by omega)) ?_
        rintro _ h40 ⟨p40, rfl, g40, wp40⟩
        have G40 := G39.trans g40
        refine g_callIN [aO (some p38), aO (some p39), aO (some p40)] [aO (some t37)] rfl (by decide) rfl rfl rfl (Nat.le_of_ble_eq_true rfl) (g40.ob (g39.ob (g38.ob ob37))).2.2 (k_Triple (by omega) (g40.ob (g39.ob (g38.ob ob37))).2.2 (g40.ob (g39.ob (g38.ob ob37))).1 p38 p39 p40) ?_
        rintro _ rfl
        have c41 := ct3 (P := (quo P.1 (-(((Int.gcd (((Int.gcd P.1 P.2.1 : Nat) : Int)) P.2.2 : Nat) : Int))), quo P.2.1 (-(((Int.gcd (((Int.gcd P.1 P.2.1 : Nat) : Int)) P.2.2 : Nat) : Int))), quo P.2.2 (-(((Int.gcd (((Int.gcd P.1 P.2.1 : Nat) : Int)) P.2.2 : Nat) : Int))))) (k := k) G40 (g40.ob (g39.ob (g38.ob ob37))) (by have := G36.2.1.1; omega) ((g40.wb (g39.wb wp38)).up (by omega)) ((g40.wb wp39).up (by omega)) (wp40.up (by omega))
        have faP_41 := c41.2.2.2.1 _ _ _ _ (by have := (g36.tf (g2.tf (g1.tf fP))).1.1; omega) (g40.tf (g39.tf (g38.tf (g37.tf (g36.tf (g2.tf (g1.tf fP)))))))
        obtain ⟨h41, eh41⟩ : ∃ hq9, hq9 = pt3 h40 t37 p38 p39 p40 := ⟨_, rfl⟩
        refine g_hp (h2 := h41) (by rw [eh41]; rfl) ?_
        rw [← eh41] at c41 faP_41
        have G41 := c41.1
        obtain ⟨q41x, q41y, q41w, f41, wq41x, wq41y, wq41w⟩ := c41.2.1
        refine g_aret rfl ?_
        refine ⟨t37, rfl, G41.mono (by omega), ?_⟩
        have l1 := @lcmp_neg P.1
        have l2 := @lcmp_neg P.2.1
        have l3 := @lcmp_neg P.2.2
        first
          | (have e : lowS P < 0 := by unfold lowS; (repeat' split) <;> omega
             unfold lowT
             rw [if_pos e])
          | (have e : ¬ lowS P < 0 := by unfold lowS; (repeat' split) <;> omega
             unfold lowT
             rw [if_neg e])
        exact ⟨_, _, _, f41, (wq41x.up (by omega)), (wq41y.up (by omega)), (wq41w.up (by omega))⟩
    · skip
      refine g_aload_n rfl rfl ?_
      refine g_goto rfl ?_
      refine g_callVI [aO (some Px)] [] rfl rfl rfl rfl (Nat.le_of_ble_eq_true rfl) (G2.cs.kd 1 (by omega) rfl) (s_sign (by omega) G2.ci (g2.wb (g1.wb wPx))) ?_
      rintro _ hx42 ⟨ehx42, rfl⟩
      rw [ehx42]
      clear ehx42 hx42
      refine g_if_ge rfl (fun c82 => ?_) (fun c82 => ?_)
      · skip
        refine g_new rfl ?_
        obtain ⟨g43, ob43⟩ := Gr.mk (k := 19) (m := 3) G2.ci (by decide) (by decide)
        obtain ⟨t43, et43⟩ : ∃ t, t = hz h2 := ⟨_, rfl⟩
        obtain ⟨h43, eh43⟩ : ∃ hq9, hq9 = hnew h2 19 3 := ⟨_, rfl⟩
        rw [← eh43, ← et43] at ob43
        rw [← eh43] at g43
        refine g_hp (h2 := h43) eh43.symm ?_
        refine g_top (v2 := aO (some t43)) (by rw [et43]) ?_
        have G43 := G2.trans g43
        refine g_dup rfl rfl ?_
        refine g_aload_n rfl rfl ?_
        refine g_getR rfl (G43.cs.kd 6 (by omega) rfl) (G43.cs.rf 5 (by omega) rfl) ?_
        refine g_aload_n rfl rfl ?_
        refine g_getR rfl (g43.tf (g2.tf (g1.tf fP))).1.2.2 (g43.tf (g2.tf (g1.tf fP))).2.1 ?_
        refine g_aload_n rfl rfl ?_
        refine g_callVO [aO (some Px), aO (some p2)] [aO (some t43), aO (some t43)] rfl rfl rfl rfl (Nat.le_of_ble_eq_true rfl) (G43.cs.kd 1 (by omega) rfl) (s_quo (by omega) G43.ci (g43.wb (g2.wb (g1.wb wPx))) (g43.wb wp2) (by omega) (by omega)) ?_
        rintro _ h44 ⟨p44, rfl, g44, wp44⟩
        have G44 := G43.trans g44
        refine g_aload_n rfl rfl ?_
        refine g_getR rfl (G44.cs.kd 6 (by omega) rfl) (G44.cs.rf 5 (by omega) rfl) ?_
        refine g_aload_n rfl rfl ?_
        refine g_getR rfl (g44.tf (g43.tf (g2.tf (g1.tf fP)))).1.2.2 (g44.tf (g43.tf (g2.tf (g1.tf fP)))).2.2.1 ?_
        refine g_aload_n rfl rfl ?_
        refine g_callVO [aO (some Py), aO (some p2)] [aO (some p44), aO (some t43), aO (some t43)] rfl rfl rfl rfl (Nat.le_of_ble_eq_true rfl) (G44.cs.kd 1 (by omega) rfl) (s_quo (by omega) G44.ci (g44.wb (g43.wb (g2.wb (g1.wb wPy)))) (g44.wb (g43.wb wp2)) (by omega) (by omega)) ?_
        rintro _ h45 ⟨p45, rfl, g45, wp45⟩
        have G45 := G44.trans g45
        refine g_aload_n rfl rfl ?_
        refine g_getR rfl (G45.cs.kd 6 (by omega) rfl) (G45.cs.rf 5 (by omega) rfl) ?_
        refine g_aload_n rfl rfl ?_
        refine g_getR rfl (g45.tf (g44.tf (g43.tf (g2.tf (g1.tf fP))))).1.2.2 (g45.tf (g44.tf (g43.tf (g2.tf (g1.tf fP))))).2.2.2 ?_
        refine g_aload_n rfl rfl ?_
        refine g_callVO [aO (some Pw), aO (some p2)] [aO (some p45), aO (some p44), aO (some t43), aO (some t43)] rfl rfl rfl rfl (Nat.le_of_ble_eq_true rfl) (G45.cs.kd 1 (by omega) rfl) (s_quo (by omega) G45.ci (g45.wb (g44.wb (g43.wb (g2.wb (g1.wb wPw))))) (g45.wb (g44.wb (g43.wb wp2))) (by omega) (by omega)) ?_
        rintro _ h46 ⟨p46, rfl, g46, wp46⟩
        have G46 := G45.trans g46
        refine g_callIN [aO (some p44), aO (some p45), aO (some p46)] [aO (some t43)] rfl (by decide) rfl rfl rfl (Nat.le_of_ble_eq_true rfl) (g46.ob (g45.ob (g44.ob ob43))).2.2 (k_Triple (by omega) (g46.ob (g45.ob (g44.ob ob43))).2.2 (g46.ob (g45.ob (g44.ob ob43))).1 p44 p45 p46) ?_
        rintro _ rfl
        have c47 := ct3 (P := (quo P.1 (((Int.gcd (((Int.gcd P.1 P.2.1 : Nat) : Int)) P.2.2 : Nat) : Int)), quo P.2.1 (((Int.gcd (((Int.gcd P.1 P.2.1 : Nat) : Int)) P.2.2 : Nat) : Int)), quo P.2.2 (((Int.gcd (((Int.gcd P.1 P.2.1 : Nat) : Int)) P.2.2 : Nat) : Int)))) (k := k) G46 (g46.ob (g45.ob (g44.ob ob43))) (by have := G2.2.1.1; omega) ((g46.wb (g45.wb wp44)).up (by omega)) ((g46.wb wp45).up (by omega)) (wp46.up (by omega))
        have faP_47 := c47.2.2.2.1 _ _ _ _ (by have := (g2.tf (g1.tf fP)).1.1; omega) (g46.tf (g45.tf (g44.tf (g43.tf (g2.tf (g1.tf fP))))))
        obtain ⟨h47, eh47⟩ : ∃ hq9, hq9 = pt3 h46 t43 p44 p45 p46 := ⟨_, rfl⟩
        refine g_hp (h2 := h47) (by rw [eh47]; rfl) ?_
        rw [← eh47] at c47 faP_47
        have G47 := c47.1
        obtain ⟨q47x, q47y, q47w, f47, wq47x, wq47y, wq47w⟩ := c47.2.1
        refine g_aret rfl ?_
        refine ⟨t43, rfl, G47.mono (by omega), ?_⟩
        have l1 := @lcmp_neg P.1
        have l2 := @lcmp_neg P.2.1
        have l3 := @lcmp_neg P.2.2
        first
          | (have e : lowS P < 0 := by unfold lowS; (repeat' split) <;> omega
             unfold lowT
             rw [if_pos e])
          | (have e : ¬ lowS P < 0 := by unfold lowS; (repeat' split) <;> omega
             unfold lowT
             rw [if_neg e])
        exact ⟨_, _, _, f47, (wq47x.up (by omega)), (wq47y.up (by omega)), (wq47w.up (by omega))⟩
      · skip
        refine g_aload_n rfl rfl ?_
        refine g_getR rfl (G2.cs.kd 6 (by omega) rfl) (G2.cs.rf 5 (by omega) rfl) ?_
        refine g_aload_n rfl rfl ?_
        refine g_callVO [aO (some p2)] [] rfl rfl rfl rfl (Nat.le_of_ble_eq_true rfl) (G2.cs.kd 1 (by omega) rfl) (s_neg (by omega) G2.ci wp2 (by omega)) ?_
        rintro _ h48 ⟨p48, rfl, g48, wp48⟩
        have G48 := G2.trans g48
        refine g_astore_n (l1 := [(2, aO (some p48)), (3, aO (some Px)), (0, aO (some (c + 6))), (1, aO (some aP))]) rfl rfl ?_
        refine g_new rfl ?_
        obtain ⟨g49, ob49⟩ := Gr.mk (k := 19) (m := 3) G48.ci (by decide) (by decide)
        obtain ⟨t49, et49⟩ : ∃ t, t = hz h48 := ⟨_, rfl⟩
        obtain ⟨h49, eh49⟩ : ∃ hq9, hq9 = hnew h48 19 3 := ⟨_, rfl⟩
        rw [← eh49, ← et49] at ob49
        rw [← eh49] at g49
        refine g_hp (h2 := h49) eh49.symm ?_
        refine g_top (v2 := aO (some t49)) (by rw [et49]) ?_
        have G49 := G48.trans g49
        refine g_dup rfl rfl ?_
        refine g_aload_n rfl rfl ?_
        refine g_getR rfl (G49.cs.kd 6 (by omega) rfl) (G49.cs.rf 5 (by omega) rfl) ?_
        refine g_aload_n rfl rfl ?_
        refine g_getR rfl (g49.tf (g48.tf (g2.tf (g1.tf fP)))).1.2.2 (g49.tf (g48.tf (g2.tf (g1.tf fP)))).2.1 ?_
        refine g_aload_n rfl rfl ?_
        refine g_callVO [aO (some Px), aO (some p48)] [aO (some t49), aO (some t49)] rfl rfl rfl rfl (Nat.le_of_ble_eq_true rfl) (G49.cs.kd 1 (by omega) rfl) (s_quo (by omega) G49.ci (g49.wb (g48.wb (g2.wb (g1.wb wPx)))) (g49.wb wp48) (by omega) (by omega)) ?_
        rintro _ h50 ⟨p50, rfl, g50, wp50⟩
        have G50 := G49.trans g50
        refine g_aload_n rfl rfl ?_
        refine g_getR rfl (G50.cs.kd 6 (by omega) rfl) (G50.cs.rf 5 (by omega) rfl) ?_
        refine g_aload_n rfl rfl ?_
        refine g_getR rfl (g50.tf (g49.tf (g48.tf (g2.tf (g1.tf fP))))).1.2.2 (g50.tf (g49.tf (g48.tf (g2.tf (g1.tf fP))))).2.2.1 ?_
        refine g_aload_n rfl rfl ?_
        refine g_callVO [aO (some Py), aO (some p48)] [aO (some p50), aO (some t49), aO (some t49)] rfl rfl rfl rfl (Nat.le_of_ble_eq_true rfl) (G50.cs.kd 1 (by omega) rfl) (s_quo (by omega) G50.ci (g50.wb (g49.wb (g48.wb (g2.wb (g1.wb wPy))))) (g50.wb (g49.wb wp48)) (by omega) (by omega)) ?_
        rintro _ h51 ⟨p51, rfl, g51, wp51⟩
        have G51 := G50.trans g51
        refine g_aload_n rfl rfl ?_
        refine g_getR rfl (G51.cs.kd 6 (by omega) rfl) (G51.cs.rf 5 (by omega) rfl) ?_
        refine g_aload_n rfl rfl ?_
        refine g_getR rfl (g51.tf (g50.tf (g49.tf (g48.tf (g2.tf (g1.tf fP)))))).1.2.2 (g51.tf (g50.tf (g49.tf (g48.tf (g2.tf (g1.tf fP)))))).2.2.2 ?_
        refine g_aload_n rfl rfl ?_
        refine g_callVO [aO (some Pw), aO (some p48)] [aO (some p51), aO (some p50), aO (some t49), aO (some t49)] rfl rfl rfl rfl (Nat.le_of_ble_eq_true rfl) (G51.cs.kd 1 (by omega) rfl) (s_quo (by omega) G51.ci (g51.wb (g50.wb (g49.wb (g48.wb (g2.wb (g1.wb wPw)))))) (g51.wb (g50.wb (g49.wb wp48))) (by omega) (by omega)) ?_
        rintro _ h52 ⟨p52, rfl, g52, wp52⟩
        have G52 := G51.trans g52
        refine g_callIN [aO (some p50), aO (some p51), aO (some p52)] [aO (some t49)] rfl (by decide) rfl rfl rfl (Nat.le_of_ble_eq_true rfl) (g52.ob (g51.ob (g50.ob ob49))).2.2 (k_Triple (by omega) (g52.ob (g51.ob (g50.ob ob49))).2.2 (g52.ob (g51.ob (g50.ob ob49))).1 p50 p51 p52) ?_
        rintro _ rfl
        have c53 := ct3 (P := (quo P.1 (-(((Int.gcd (((Int.gcd P.1 P.2.1 : Nat) : Int)) P.2.2 : Nat) : Int))), quo P.2.1 (-(((Int.gcd (((Int.gcd P.1 P.2.1 : Nat) : Int)) P.2.2 : Nat) : Int))), quo P.2.2 (-(((Int.gcd (((Int.gcd P.1 P.2.1 : Nat) : Int)) P.2.2 : Nat) : Int))))) (k := k) G52 (g52.ob (g51.ob (g50.ob ob49))) (by have := G48.2.1.1; omega) ((g52.wb (g51.wb wp50)).up (by omega)) ((g52.wb wp51).up (by omega)) (wp52.up (by omega))
        have faP_53 := c53.2.2.2.1 _ _ _ _ (by have := (g48.tf (g2.tf (g1.tf fP))).1.1; omega) (g52.tf (g51.tf (g50.tf (g49.tf (g48.tf (g2.tf (g1.tf fP)))))))
        obtain ⟨h53, eh53⟩ : ∃ hq9, hq9 = pt3 h52 t49 p50 p51 p52 := ⟨_, rfl⟩
        refine g_hp (h2 := h53) (by rw [eh53]; rfl) ?_
        rw [← eh53] at c53 faP_53
        have G53 := c53.1
        obtain ⟨q53x, q53y, q53w, f53, wq53x, wq53y, wq53w⟩ := c53.2.1
        refine g_aret rfl ?_
        refine ⟨t49, rfl, G53.mono (by omega), ?_⟩
        have l1 := @lcmp_neg P.1
        have l2 := @lcmp_neg P.2.1
        have l3 := @lcmp_neg P.2.2
        first
          | (have e : lowS P < 0 := by unfold lowS; (repeat' split) <;> omega
             unfold lowT
             rw [if_pos e])
          | (have e : ¬ lowS P < 0 := by unfold lowS; (repeat' split) <;> omega
             unfold lowT
             rw [if_neg e])
        exact ⟨_, _, _, f53, (wq53x.up (by omega)), (wq53y.up (by omega)), (wq53w.up (by omega))⟩
set_option maxHeartbeats 4000000 in
theorem p_lowestR {w : aW} {d : Nat} (hd : 5 ≤ d) {k : Nat} {h : aH} {c : Nat} (ci : CI h c) {aR : Nat} {R : T4} (tR : QB h c aR R (k))  (hk : k ≤ 382) : WP w d 49 [aO (some (c + 6)), aO (some aR)] h (RO (fun r h1 => ∃ p, r = some p ∧ Gr h h1 c 24 ∧ QB h1 c p (lowR R) (k))) := by
  obtain ⟨d, rfl⟩ : ∃ d1, d = d1 + 1 := ⟨d - 1, by omega⟩
  refine WP.enter (cd := cd_X2_lowestRing) rfl ?_
  have G0 := Gr.refl ci
  obtain ⟨Rk, Ra, Rb, Re, fR, wRk, wRa, wRb, wRe⟩ := tR
  have hls : largs 0 [aO (some (c + 6)), aO (some aR)] = [(0, aO (some (c + 6))), (1, aO (some aR))] := rfl
  rw [hls]
  clear hls
  refine g_aload_n rfl rfl ?_
  refine g_getR rfl (G0.cs.kd 6 (by omega) rfl) (G0.cs.rf 5 (by omega) rfl) ?_
  refine g_aload_n rfl rfl ?_
  refine g_getR rfl (G0.cs.kd 6 (by omega) rfl) (G0.cs.rf 5 (by omega) rfl) ?_
  refine g_aload_n rfl rfl ?_
  refine g_getR rfl fR.1.2.2 fR.2.1 ?_
  refine g_aload_n rfl rfl ?_
  refine g_getR rfl fR.1.2.2 fR.2.2.1 ?_
  refine g_callVO [aO (some Rk), aO (some Ra)] [aO (some (c + 1))] rfl rfl rfl rfl (Nat.le_of_ble_eq_true rfl) (G0.cs.kd 1 (by omega) rfl) (s_gcd (by omega) G0.ci wRk wRa (k) (by omega) (by omega) (by omega)) ?_
  rintro _ h1 ⟨p1, rfl, g1, wp1⟩
  have G1 := G0.trans g1
  refine g_aload_n rfl rfl ?_
  refine g_getR rfl (G1.cs.kd 6 (by omega) rfl) (G1.cs.rf 5 (by omega) rfl) ?_
  refine g_aload_n rfl rfl ?_
  refine g_getR rfl (g1.rf fR).1.2.2 (g1.rf fR).2.2.2.1 ?_
  refine g_aload_n rfl rfl ?_
  refine g_getR rfl (g1.rf fR).1.2.2 (g1.rf fR).2.2.2.2 ?_
  refine g_callVO [aO (some Rb), aO (some Re)] [aO (some p1), aO (some (c + 1))] rfl rfl rfl rfl (Nat.le_of_ble_eq_true rfl) (G1.cs.kd 1 (by omega) rfl) (s_gcd (by omega) G1.ci (g1.wb wRb) (g1.wb wRe) (k) (by omega) (by omega) (by omega)) ?_
  rintro _ h2 ⟨p2, rfl, g2, wp2⟩
  have G2 := G1.trans g2
  refine g_callVO [aO (some p1), aO (some p2)] [] rfl rfl rfl rfl (Nat.le_of_ble_eq_true rfl) (G2.cs.kd 1 (by omega) rfl) (s_gcd (by omega) G2.ci (g2.wb wp1) wp2 (k) (by omega) (by omega) (by omega)) ?_
  rintro _ h3 ⟨p3, rfl, g3, wp3⟩
  have G3 := G2.trans g3
  refine g_astore_n (l1 := [(2, aO (some p3)), (0, aO (some (c + 6))), (1, aO (some aR))]) rfl rfl ?_
  refine g_aload_n rfl rfl ?_
  refine g_getR rfl (G3.cs.kd 6 (by omega) rfl) (G3.cs.rf 5 (by omega) rfl) ?_
  refine g_aload_n rfl rfl ?_
  refine g_getR rfl (g3.rf (g2.rf (g1.rf fR))).1.2.2 (g3.rf (g2.rf (g1.rf fR))).2.1 ?_
  refine g_callVI [aO (some Rk)] [] rfl rfl rfl rfl (Nat.le_of_ble_eq_true rfl) (G3.cs.kd 1 (by omega) rfl) (s_sign (by omega) G3.ci (g3.wb (g2.wb (g1.wb wRk)))) ?_
  rintro _ hx4 ⟨ehx4, rfl⟩
  rw [ehx4]
  clear ehx4 hx4
  refine g_if_ge rfl (fun c49 => ?_) (fun c49 => ?_)
  · skip
    refine g_new rfl ?_
    obtain ⟨g5, ob5⟩ := Gr.mk (k := 15) (m := 4) G3.ci (by decide) (by decide)
    obtain ⟨t5, et5⟩ : ∃ t, t = hz h3 := ⟨_, rfl⟩
    obtain ⟨h5, eh5⟩ : ∃ hq9, hq9 = hnew h3 15 4 := ⟨_, rfl⟩
    rw [← eh5, ← et5] at ob5
    rw [← eh5] at g5
    refine g_hp (h2 := h5) eh5.symm ?_
    refine g_top (v2 := aO (some t5)) (by rw [et5]) ?_
    have G5 := G3.trans g5
    refine g_dup rfl rfl ?_
    refine g_aload_n rfl rfl ?_
    refine g_getR rfl (G5.cs.kd 6 (by omega) rfl) (G5.cs.rf 5 (by omega) rfl) ?_
    refine g_aload_n rfl rfl ?_
    refine g_getR rfl (g5.rf (g3.rf (g2.rf (g1.rf fR)))).1.2.2 (g5.rf (g3.rf (g2.rf (g1.rf fR)))).2.1 ?_
    refine g_aload_n rfl rfl ?_
    refine g_callVO [aO (some Rk), aO (some p3)] [aO (some t5), aO (some t5)] rfl rfl rfl rfl (Nat.le_of_ble_eq_true rfl) (G5.cs.kd 1 (by omega) rfl) (s_quo (by omega) G5.ci (g5.wb (g3.wb (g2.wb (g1.wb wRk)))) (g5.wb wp3) (by omega) (by omega)) ?_
    rintro _ h6 ⟨p6, rfl, g6, wp6⟩
    have G6 := G5.trans g6
    refine g_aload_n rfl rfl ?_
    refine g_getR rfl (G6.cs.kd 6 (by omega) rfl) (G6.cs.rf 5 (by omega) rfl) ?_
    refine g_aload_n rfl rfl ?_
    refine g_getR rfl (g6.rf (g5.rf (g3.rf (g2.rf (g1.rf fR))))).1.2.2 (g6.rf (g5.rf (g3.rf (g2.rf (g1.rf fR))))).2.2.1 ?_
    refine g_aload_n rfl rfl ?_
    refine g_callVO [aO (some Ra), aO (some p3)] [aO (some p6), aO (some t5), aO (some t5)] rfl rfl rfl rfl (Nat.le_of_ble_eq_true rfl) (G6.cs.kd 1 (by omega) rfl) (s_quo (by omega) G6.ci (g6.wb (g5.wb (g3.wb (g2.wb (g1.wb wRa))))) (g6.wb (g5.wb wp3)) (by omega) (by omega)) ?_
    rintro _ h7 ⟨p7, rfl, g7, wp7⟩
    have G7 := G6.trans g7
    refine g_aload_n rfl rfl ?_
    refine g_getR rfl (G7.cs.kd 6 (by omega) rfl) (G7.cs.rf 5 (by omega) rfl) ?_
    refine g_aload_n rfl rfl ?_
    refine g_getR rfl (g7.rf (g6.rf (g5.rf (g3.rf (g2.rf (g1.rf fR)))))).1.2.2 (g7.rf (g6.rf (g5.rf (g3.rf (g2.rf (g1.rf fR)))))).2.2.2.1 ?_
    refine g_aload_n rfl rfl ?_
    refine g_callVO [aO (some Rb), aO (some p3)] [aO (some p7), aO (some p6), aO (some t5), aO (some t5)] rfl rfl rfl rfl (Nat.le_of_ble_eq_true rfl) (G7.cs.kd 1 (by omega) rfl) (s_quo (by omega) G7.ci (g7.wb (g6.wb (g5.wb (g3.wb (g2.wb (g1.wb wRb)))))) (g7.wb (g6.wb (g5.wb wp3))) (by omega) (by omega)) ?_
    rintro _ h8 ⟨p8, rfl, g8, wp8⟩
    have G8 := G7.trans g8
    refine g_aload_n rfl rfl ?_
    refine g_getR rfl (G8.cs.kd 6 (by omega) rfl) (G8.cs.rf 5 (by omega) rfl) ?_
    refine g_aload_n rfl rfl ?_
    refine g_getR rfl (g8.rf (g7.rf (g6.rf (g5.rf (g3.rf (g2.rf (g1.rf fR))))))).1.2.2 (g8.rf (g7.rf (g6.rf (g5.rf (g3.rf (g2.rf (g1.rf fR))))))).2.2.2.2 ?_
    refine g_aload_n rfl rfl ?_
    refine g_callVO [aO (some Re), aO (some p3)] [aO (some p8), aO (some p7), aO (some p6), aO (some t5), aO (some t5)] rfl rfl rfl rfl (Nat.le_of_ble_eq_true rfl) (G8.cs.kd 1 (by omega) rfl) (s_quo (by omega) G8.ci (g8.wb (g7.wb (g6.wb (g5.wb (g3.wb (g2.wb (g1.wb wRe))))))) (g8.wb (g7.wb (g6.wb (g5.wb wp3)))) (by omega) (by omega)) ?_
    rintro _ h9 ⟨p9, rfl, g9, wp9⟩
    have G9 := G8.trans g9
    refine g_callIN [aO (some p6), aO (some p7), aO (some p8), aO (some p9)] [aO (some t5)] rfl (by decide) rfl rfl rfl (Nat.le_of_ble_eq_true rfl) (g9.ob (g8.ob (g7.ob (g6.ob ob5)))).2.2 (k_Ring (by omega) (g9.ob (g8.ob (g7.ob (g6.ob ob5)))).2.2 (g9.ob (g8.ob (g7.ob (g6.ob ob5)))).1 p6 p7 p8 p9) ?_
    rintro _ rfl
    have c10 := ct4 (R := (quo R.1 (((Int.gcd (((Int.gcd R.1 R.2.1 : Nat) : Int)) (((Int.gcd R.2.2.1 R.2.2.2 : Nat) : Int)) : Nat) : Int)), quo R.2.1 (((Int.gcd (((Int.gcd R.1 R.2.1 : Nat) : Int)) (((Int.gcd R.2.2.1 R.2.2.2 : Nat) : Int)) : Nat) : Int)), quo R.2.2.1 (((Int.gcd (((Int.gcd R.1 R.2.1 : Nat) : Int)) (((Int.gcd R.2.2.1 R.2.2.2 : Nat) : Int)) : Nat) : Int)), quo R.2.2.2 (((Int.gcd (((Int.gcd R.1 R.2.1 : Nat) : Int)) (((Int.gcd R.2.2.1 R.2.2.2 : Nat) : Int)) : Nat) : Int)))) (k := k) G9 (g9.ob (g8.ob (g7.ob (g6.ob ob5)))) (by have := G3.2.1.1; omega) ((g9.wb (g8.wb (g7.wb wp6))).up (by omega)) ((g9.wb (g8.wb wp7)).up (by omega)) ((g9.wb wp8).up (by omega)) (wp9.up (by omega))
    have faR_10 := c10.2.2.2.2 _ _ _ _ _ (by have := (g3.rf (g2.rf (g1.rf fR))).1.1; omega) (g9.rf (g8.rf (g7.rf (g6.rf (g5.rf (g3.rf (g2.rf (g1.rf fR))))))))
    obtain ⟨h10, eh10⟩ : ∃ hq9, hq9 = pt4 h9 t5 p6 p7 p8 p9 := ⟨_, rfl⟩
    refine g_hp (h2 := h10) (by rw [eh10]; rfl) ?_
    rw [← eh10] at c10 faR_10
    have G10 := c10.1
    obtain ⟨q10k, q10a, q10b, q10e, f10, wq10k, wq10a, wq10b, wq10e⟩ := c10.2.1
    refine g_aret rfl ?_
    refine ⟨t5, rfl, G10.mono (by omega), ?_⟩
    have l1 := @lcmp_neg R.1
    first
      | (unfold lowR
         rw [if_pos (by omega)])
      | (unfold lowR
         rw [if_neg (by omega)])
    exact ⟨_, _, _, _, f10, (wq10k.up (by omega)), (wq10a.up (by omega)), (wq10b.up (by omega)), (wq10e.up (by omega))⟩
  · skip
    refine g_aload_n rfl rfl ?_
    refine g_getR rfl (G3.cs.kd 6 (by omega) rfl) (G3.cs.rf 5 (by omega) rfl) ?_
    refine g_aload_n rfl rfl ?_
    refine g_callVO [aO (some p3)] [] rfl rfl rfl rfl (Nat.le_of_ble_eq_true rfl) (G3.cs.kd 1 (by omega) rfl) (s_neg (by omega) G3.ci wp3 (by omega)) ?_
    rintro _ h11 ⟨p11, rfl, g11, wp11⟩
    have G11 := G3.trans g11
    refine g_astore_n (l1 := [(2, aO (some p11)), (0, aO (some (c + 6))), (1, aO (some aR))]) rfl rfl ?_
    refine g_new rfl ?_
    obtain ⟨g12, ob12⟩ := Gr.mk (k := 15) (m := 4) G11.ci (by decide) (by decide)
    obtain ⟨t12, et12⟩ : ∃ t, t = hz h11 := ⟨_, rfl⟩
    obtain ⟨h12, eh12⟩ : ∃ hq9, hq9 = hnew h11 15 4 := ⟨_, rfl⟩
    rw [← eh12, ← et12] at ob12
    rw [← eh12] at g12
    refine g_hp (h2 := h12) eh12.symm ?_
    refine g_top (v2 := aO (some t12)) (by rw [et12]) ?_
    have G12 := G11.trans g12
    refine g_dup rfl rfl ?_
    refine g_aload_n rfl rfl ?_
    refine g_getR rfl (G12.cs.kd 6 (by omega) rfl) (G12.cs.rf 5 (by omega) rfl) ?_
    refine g_aload_n rfl rfl ?_
    refine g_getR rfl (g12.rf (g11.rf (g3.rf (g2.rf (g1.rf fR))))).1.2.2 (g12.rf (g11.rf (g3.rf (g2.rf (g1.rf fR))))).2.1 ?_
    refine g_aload_n rfl rfl ?_
    refine g_callVO [aO (some Rk), aO (some p11)] [aO (some t12), aO (some t12)] rfl rfl rfl rfl (Nat.le_of_ble_eq_true rfl) (G12.cs.kd 1 (by omega) rfl) (s_quo (by omega) G12.ci (g12.wb (g11.wb (g3.wb (g2.wb (g1.wb wRk))))) (g12.wb wp11) (by omega) (by omega)) ?_
    rintro _ h13 ⟨p13, rfl, g13, wp13⟩
    have G13 := G12.trans g13
    refine g_aload_n rfl rfl ?_
    refine g_getR rfl (G13.cs.kd 6 (by omega) rfl) (G13.cs.rf 5 (by omega) rfl) ?_
    refine g_aload_n rfl rfl ?_
    refine g_getR rfl (g13.rf (g12.rf (g11.rf (g3.rf (g2.rf (g1.rf fR)))))).1.2.2 (g13.rf (g12.rf (g11.rf (g3.rf (g2.rf (g1.rf fR)))))).2.2.1 ?_
    refine g_aload_n rfl rfl ?_
    refine g_callVO [aO (some Ra), aO (some p11)] [aO (some p13), aO (some t12), aO (some t12)] rfl rfl rfl rfl (Nat.le_of_ble_eq_true rfl) (G13.cs.kd 1 (by omega) rfl) (s_quo (by omega) G13.ci (g13.wb (g12.wb (g11.wb (g3.wb (g2.wb (g1.wb wRa)))))) (g13.wb (g12.wb wp11)) (by omega) (by omega)) ?_
    rintro _ h14 ⟨p14, rfl, g14, wp14⟩
    have G14 := G13.trans g14
    refine g_aload_n rfl rfl ?_
    refine g_getR rfl (G14.cs.kd 6 (by omega) rfl) (G14.cs.rf 5 (by omega) rfl) ?_
    refine g_aload_n rfl rfl ?_
    refine g_getR rfl (g14.rf (g13.rf (g12.rf (g11.rf (g3.rf (g2.rf (g1.rf fR))))))).1.2.2 (g14.rf (g13.rf (g12.rf (g11.rf (g3.rf (g2.rf (g1.rf fR))))))).2.2.2.1 ?_
    refine g_aload_n rfl rfl ?_
    refine g_callVO [aO (some Rb), aO (some p11)] [aO (some p14), aO (some p13), aO (some t12), aO (some t12)] rfl rfl rfl rfl (Nat.le_of_ble_eq_true rfl) (G14.cs.kd 1 (by omega) rfl) (s_quo (by omega) G14.ci (g14.wb (g13.wb (g12.wb (g11.wb (g3.wb (g2.wb (g1.wb wRb))))))) (g14.wb (g13.wb (g12.wb wp11))) (by omega) (by omega)) ?_
    rintro _ h15 ⟨p15, rfl, g15, wp15⟩
    have G15 := G14.trans g15
    refine g_aload_n rfl rfl ?_
    refine g_getR rfl (G15.cs.kd 6 (by omega) rfl) (G15.cs.rf 5 (by omega) rfl) ?_
    refine g_aload_n rfl rfl ?_
    refine g_getR rfl (g15.rf (g14.rf (g13.rf (g12.rf (g11.rf (g3.rf (g2.rf (g1.rf fR)))))))).1.2.2 (g15.rf (g14.rf (g13.rf (g12.rf (g11.rf (g3.rf (g2.rf (g1.rf fR)))))))).2.2.2.2 ?_
    refine g_aload_n rfl rfl ?_
    refine g_callVO [aO (some Re), aO (some p11)] [aO (some p15), aO (some p14), aO (some p13), aO (some t12), aO (some t12)] rfl rfl rfl rfl (Nat.le_of_ble_eq_true rfl) (G15.cs.kd 1 (by omega) rfl) (s_quo (by omega) G15.ci (g15.wb (g14.wb (g13.wb (g12.wb (g11.wb (g3.wb (g2.wb (g1.wb wRe)))))))) (g15.wb (g14.wb (g13.wb (g12.wb wp11)))) (by omega) (by omega)) ?_
    rintro _ h16 ⟨p16, rfl, g16, wp16⟩
    have G16 := G15.trans g16
    refine g_callIN [aO (some p13), aO (some p14), aO (some p15), aO (some p16)] [aO (some t12)] rfl (by decide) rfl rfl rfl (Nat.le_of_ble_eq_true rfl) (g16.ob (g15.ob (g14.ob (g13.ob ob12)))).2.2 (k_Ring (by omega) (g16.ob (g15.ob (g14.ob (g13.ob ob12)))).2.2 (g16.ob (g15.ob (g14.ob (g13.ob ob12)))).1 p13 p14 p15 p16) ?_
    rintro _ rfl
    have c17 := ct4 (R := (quo R.1 (-(((Int.gcd (((Int.gcd R.1 R.2.1 : Nat) : Int)) (((Int.gcd R.2.2.1 R.2.2.2 : Nat) : Int)) : Nat) : Int))), quo R.2.1 (-(((Int.gcd (((Int.gcd R.1 R.2.1 : Nat) : Int)) (((Int.gcd R.2.2.1 R.2.2.2 : Nat) : Int)) : Nat) : Int))), quo R.2.2.1 (-(((Int.gcd (((Int.gcd R.1 R.2.1 : Nat) : Int)) (((Int.gcd R.2.2.1 R.2.2.2 : Nat) : Int)) : Nat) : Int))), quo R.2.2.2 (-(((Int.gcd (((Int.gcd R.1 R.2.1 : Nat) : Int)) (((Int.gcd R.2.2.1 R.2.2.2 : Nat) : Int)) : Nat) : Int))))) (k := k) G16 (g16.ob (g15.ob (g14.ob (g13.ob ob12)))) (by have := G11.2.1.1; omega) ((g16.wb (g15.wb (g14.wb wp13))).up (by omega)) ((g16.wb (g15.wb wp14)).up (by omega)) ((g16.wb wp15).up (by omega)) (wp16.up (by omega))
    have faR_17 := c17.2.2.2.2 _ _ _ _ _ (by have := (g11.rf (g3.rf (g2.rf (g1.rf fR)))).1.1; omega) (g16.rf (g15.rf (g14.rf (g13.rf (g12.rf (g11.rf (g3.rf (g2.rf (g1.rf fR)))))))))
    obtain ⟨h17, eh17⟩ : ∃ hq9, hq9 = pt4 h16 t12 p13 p14 p15 p16 := ⟨_, rfl⟩
    refine g_hp (h2 := h17) (by rw [eh17]; rfl) ?_
    rw [← eh17] at c17 faR_17
    have G17 := c17.1
    obtain ⟨q17k, q17a, q17b, q17e, f17, wq17k, wq17a, wq17b, wq17e⟩ := c17.2.1
    refine g_aret rfl ?_
    refine ⟨t12, rfl, G17.mono (by omega), ?_⟩
    have l1 := @lcmp_neg R.1
    first
      | (unfold lowR
         rw [if_pos (by omega)])
      | (unfold lowR
         rw [if_neg (by omega)])
    exact ⟨_, _, _, _, f17, (wq17k.up (by omega)), (wq17a.up (by omega)), (wq17b.up (by omega)), (wq17e.up (by omega))⟩
set_option maxHeartbeats 4000000 in
theorem p_order {w : aW} {d : Nat} (hd : 2 ≤ d) {k : Nat} {h : aH} {c : Nat} (ci : CI h c) {aP : Nat} {P : T3} (tP : TB h c aP P (k)) {aQ : Nat} {Q : T3} (tQ : TB h c aQ Q (k))  : WP w d 67 [aO (some (c + 6)), aO (some aP), aO (some aQ)] h (RI (fun r h1 => h1 = h ∧ r = ordT P Q)) := by
  obtain ⟨d, rfl⟩ : ∃ d1, d = d1 + 1 := ⟨d - 1, by omega⟩
  refine WP.enter (cd := cd_X2_order) rfl ?_
  have G0 := Gr.refl ci
  obtain ⟨Px, Py, Pw, fP, wPx, wPy, wPw⟩ := tP
  obtain ⟨Qx, Qy, Qw, fQ, wQx, wQy, wQw⟩ := tQ
  have hls : largs 0 [aO (some (c + 6)), aO (some aP), aO (some aQ)] = [(0, aO (some (c + 6))), (1, aO (some aP)), (2, aO (some aQ))] := rfl
  rw [hls]
  clear hls
  refine g_aload_n rfl rfl ?_
  refine g_getR rfl (G0.cs.kd 6 (by omega) rfl) (G0.cs.rf 5 (by omega) rfl) ?_
  refine g_aload_n rfl rfl ?_
  refine g_getR rfl fP.1.2.2 fP.2.1 ?_
  refine g_aload_n rfl rfl ?_
  refine g_getR rfl fQ.1.2.2 fQ.2.1 ?_
  refine g_callVI [aO (some Px), aO (some Qx)] [] rfl rfl rfl rfl (Nat.le_of_ble_eq_true rfl) (G0.cs.kd 1 (by omega) rfl) (s_order (by omega) G0.ci wPx wQx) ?_
  rintro _ hx1 ⟨ehx1, rfl⟩
  rw [ehx1]
  clear ehx1 hx1
  refine g_istore_n (l1 := [(3, aI (lcmp P.1 Q.1)), (0, aO (some (c + 6))), (1, aO (some aP)), (2, aO (some aQ))]) rfl rfl ?_
  refine g_aload_n rfl rfl ?_
  refine g_getR rfl (G0.cs.kd 6 (by omega) rfl) (G0.cs.rf 5 (by omega) rfl) ?_
  refine g_aload_n rfl rfl ?_
  refine g_getR rfl fP.1.2.2 fP.2.2.1 ?_
  refine g_aload_n rfl rfl ?_
  refine g_getR rfl fQ.1.2.2 fQ.2.2.1 ?_
  refine g_callVI [aO (some Py), aO (some Qy)] [] rfl rfl rfl rfl (Nat.le_of_ble_eq_true rfl) (G0.cs.kd 1 (by omega) rfl) (s_order (by omega) G0.ci wPy wQy) ?_
  rintro _ hx2 ⟨ehx2, rfl⟩
  rw [ehx2]
  clear ehx2 hx2
  refine g_istore (l1 := [(4, aI (lcmp P.2.1 Q.2.1)), (3, aI (lcmp P.1 Q.1)), (0, aO (some (c + 6))), (1, aO (some aP)), (2, aO (some aQ))]) rfl rfl ?_
  refine g_iload_n rfl rfl ?_
  refine g_if_eq rfl (fun c34 => ?_) (fun c34 => ?_)
  · skip
    refine g_iload rfl rfl ?_
    refine g_if_eq rfl (fun c41 => ?_) (fun c41 => ?_)
    · skip
      refine g_aload_n rfl rfl ?_
      refine g_getR rfl (G0.cs.kd 6 (by omega) rfl) (G0.cs.rf 5 (by omega) rfl) ?_
      refine g_aload_n rfl rfl ?_
      refine g_getR rfl fP.1.2.2 fP.2.2.2 ?_
      refine g_aload_n rfl rfl ?_
      refine g_getR rfl fQ.1.2.2 fQ.2.2.2 ?_
      refine g_callVI [aO (some Pw), aO (some Qw)] [] rfl rfl rfl rfl (Nat.le_of_ble_eq_true rfl) (G0.cs.kd 1 (by omega) rfl) (s_order (by omega) G0.ci wPw wQw) ?_
      rintro _ hx3 ⟨ehx3, rfl⟩
      rw [ehx3]
      clear ehx3 hx3
      refine g_iret rfl ?_
      refine ⟨rfl, ?_⟩
      unfold ordT
      first
        | rw [if_pos (by omega)]
        | rw [if_neg (by omega), if_pos (by omega)]
        | rw [if_neg (by omega), if_neg (by omega)]
    · skip
      refine g_iload rfl rfl ?_
      refine g_goto rfl ?_
      refine g_iret rfl ?_
      refine ⟨rfl, ?_⟩
      unfold ordT
      first
        | rw [if_pos (by omega)]
        | rw [if_neg (by omega), if_pos (by omega)]
        | rw [if_neg (by omega), if_neg (by omega)]
  · skip
    refine g_iload_n rfl rfl ?_
    refine g_iret rfl ?_
    refine ⟨rfl, ?_⟩
    unfold ordT
    first
      | rw [if_pos (by omega)]
      | rw [if_neg (by omega), if_pos (by omega)]
      | rw [if_neg (by omega), if_neg (by omega)]
noncomputable def p_rc_O (b : Bool) (R U : T4) : Option T3 := match p_power_O R U with
  | none => none
  | some L => p_cro_O b L R
def p_tan_S (b : Bool) (A B : T3) (R : T4) : T3 := if ordT (lowT (p_polar_S A R)) (lowT (p_polar_S B R)) ≤ 0 then (if b then lowT (p_polar_S B R) else lowT (p_polar_S A R)) else (if b then lowT (p_polar_S A R) else lowT (p_polar_S B R))
noncomputable def p_tan_O (b : Bool) (P : T3) (R : T4) : Option T3 := if P.2.2 = 0 then none else match p_cro_O false (p_polar_S P R) R with
  | none => none
  | some A => match p_cro_O true (p_polar_S P R) R with
    | none => none
    | some B => some (p_tan_S b A B R)
theorem p_tan_n0 {b : Bool} {P : T3} {R : T4} (h : P.2.2 = 0) : p_tan_O b P R = none := by unfold p_tan_O; rw [if_pos h]
theorem p_tan_n1 {b : Bool} {P : T3} {R : T4} (h : ¬ P.2.2 = 0) (e : p_cro_O false (p_polar_S P R) R = none) : p_tan_O b P R = none := by unfold p_tan_O; rw [if_neg h, e]
theorem p_tan_n2 {b : Bool} {P A : T3} {R : T4} (h : ¬ P.2.2 = 0) (e : p_cro_O false (p_polar_S P R) R = some A) (e2 : p_cro_O true (p_polar_S P R) R = none) : p_tan_O b P R = none := by unfold p_tan_O; rw [if_neg h, e]; simp only [e2]
theorem p_tan_s {b : Bool} {P A B : T3} {R : T4} (h : ¬ P.2.2 = 0) (e : p_cro_O false (p_polar_S P R) R = some A) (e2 : p_cro_O true (p_polar_S P R) R = some B) : p_tan_O b P R = some (p_tan_S b A B R) := by unfold p_tan_O; rw [if_neg h, e]; simp only [e2]
set_option maxHeartbeats 4000000 in
theorem p_rc0 {w : aW} {d : Nat} (hd : 7 ≤ d) {h : aH} {c : Nat} (ci : CI h c) {aR : Nat} {R : T4} (tR : QB h c aR R (20)) {aU : Nat} {U : T4} (tU : QB h c aU U (20)) (ht : hV h (c + 1) 1 ≤ 250) : WP w d 65 [aO (some (c + 6)), aO (some aR), aO (some aU), aI 0] h (RO (fun r h1 => Gr h h1 c 39 ∧ OT h1 c r (p_rc_O false R U) (272))) := by
  obtain ⟨d, rfl⟩ : ∃ d1, d = d1 + 1 := ⟨d - 1, by omega⟩
  refine WP.enter (cd := cd_X2_ringCrossing) rfl ?_
  have G0 := Gr.refl ci
  obtain ⟨Rk, Ra, Rb, Re, fR, wRk, wRa, wRb, wRe⟩ := tR
  obtain ⟨Uk, Ua, Ub, Ue, fU, wUk, wUa, wUb, wUe⟩ := tU
  have hls : largs 0 [aO (some (c + 6)), aO (some aR), aO (some aU), aI 0] = [(0, aO (some (c + 6))), (1, aO (some aR)), (2, aO (some aU)), (3, aI 0)] := rfl
  rw [hls]
  clear hls
  refine g_aload_n rfl rfl ?_
  refine g_aload_n rfl rfl ?_
  refine g_aload_n rfl rfl ?_
  refine g_callVO [aO (some aR), aO (some aU)] [] rfl rfl rfl rfl (Nat.le_of_ble_eq_true rfl) (G0.cs.kd 6 (by omega) rfl) (p_power (by omega) G0.ci (show QB h c aR R (20) from ⟨_, _, _, _, fR, (wRk.up (by omega)), (wRa.up (by omega)), (wRb.up (by omega)), (wRe.up (by omega))⟩) (show QB h c aU U (20) from ⟨_, _, _, _, fU, (wUk.up (by omega)), (wUa.up (by omega)), (wUb.up (by omega)), (wUe.up (by omega))⟩)) ?_
  rintro r1 h1 ⟨g1, q1⟩
  have G1 := G0.trans g1
  cases eS1 : p_power_O R U with
  | none =>
    rw [eS1] at q1
    obtain rfl : r1 = none := q1
    refine g_astore (l1 := [(4, aO none), (0, aO (some (c + 6))), (1, aO (some aR)), (2, aO (some aU)), (3, aI 0)]) rfl rfl ?_
    refine g_aload rfl rfl ?_
    refine g_ifnonnull_f rfl ?_
    refine g_null rfl ?_
    refine g_goto rfl ?_
    refine g_aret rfl ?_
    refine ⟨G1.mono (by omega), ?_⟩
    unfold p_rc_O
    simp only [eS1]
    rfl
  | some P1 =>
    rw [eS1] at q1
    obtain ⟨p1, rfl, p1x, p1y, p1w, f1, wp1x, wp1y, wp1w⟩ := q1
    refine g_astore (l1 := [(4, aO (some p1)), (0, aO (some (c + 6))), (1, aO (some aR)), (2, aO (some aU)), (3, aI 0)]) rfl rfl ?_
    refine g_aload rfl rfl ?_
    refine g_ifnonnull_t rfl ?_
    refine g_aload_n rfl rfl ?_
    refine g_aload rfl rfl ?_
    refine g_aload_n rfl rfl ?_
    refine g_iload_n rfl rfl ?_
    refine g_callVO [aO (some p1), aO (some aR), aI 0] [] rfl rfl rfl rfl (Nat.le_of_ble_eq_true rfl) (G1.cs.kd 6 (by omega) rfl) (p_cro0 (by omega) G1.ci (show TB h1 c p1 P1 (41) from ⟨_, _, _, f1, (wp1x.up (by omega)), (wp1y.up (by omega)), (wp1w.up (by omega))⟩) (show QB h1 c aR R (20) from ⟨_, _, _, _, (g1.rf fR), ((g1.wb wRk).up (by omega)), ((g1.wb wRa).up (by omega)), ((g1.wb wRb).up (by omega)), ((g1.wb wRe).up (by omega))⟩) (by have := G1.2.2.2.2.2.2.1; omega) (by omega)) ?_
    rintro r2 h2 ⟨g2, q2⟩
    have G2 := G1.trans g2
    cases eS2 : p_cro_O false P1 R with
    | none =>
      rw [eS2] at q2
      obtain rfl : r2 = none := q2
      refine g_aret rfl ?_
      refine ⟨G2.mono (by omega), ?_⟩
      unfold p_rc_O
      simp only [eS1, eS2]
      rfl
    | some P2 =>
      rw [eS2] at q2
      obtain ⟨p2, rfl, p2x, p2y, p2w, f2, wp2x, wp2y, wp2w⟩ := q2
      refine g_aret rfl ?_
      refine ⟨G2.mono (by omega), ?_⟩
      unfold p_rc_O
      simp only [eS1, eS2]
      exact ⟨p2, rfl, _, _, _, f2, (wp2x.up (by omega)), (wp2y.up (by omega)), (wp2w.up (by omega))⟩
set_option maxHeartbeats 4000000 in
theorem p_rc1 {w : aW} {d : Nat} (hd : 7 ≤ d) {h : aH} {c : Nat} (ci : CI h c) {aR : Nat} {R : T4} (tR : QB h c aR R (20)) {aU : Nat} {U : T4} (tU : QB h c aU U (20)) (ht : hV h (c + 1) 1 ≤ 250) : WP w d 65 [aO (some (c + 6)), aO (some aR), aO (some aU), aI 1] h (RO (fun r h1 => Gr h h1 c 39 ∧ OT h1 c r (p_rc_O true R U) (272))) := by
  obtain ⟨d, rfl⟩ : ∃ d1, d = d1 + 1 := ⟨d - 1, by omega⟩
  refine WP.enter (cd := cd_X2_ringCrossing) rfl ?_
  have G0 := Gr.refl ci
  obtain ⟨Rk, Ra, Rb, Re, fR, wRk, wRa, wRb, wRe⟩ := tR
  obtain ⟨Uk, Ua, Ub, Ue, fU, wUk, wUa, wUb, wUe⟩ := tU
  have hls : largs 0 [aO (some (c + 6)), aO (some aR), aO (some aU), aI 1] = [(0, aO (some (c + 6))), (1, aO (some aR)), (2, aO (some aU)), (3, aI 1)] := rfl
  rw [hls]
  clear hls
  refine g_aload_n rfl rfl ?_
  refine g_aload_n rfl rfl ?_
  refine g_aload_n rfl rfl ?_
  refine g_callVO [aO (some aR), aO (some aU)] [] rfl rfl rfl rfl (Nat.le_of_ble_eq_true rfl) (G0.cs.kd 6 (by omega) rfl) (p_power (by omega) G0.ci (show QB h c aR R (20) from ⟨_, _, _, _, fR, (wRk.up (by omega)), (wRa.up (by omega)), (wRb.up (by omega)), (wRe.up (by omega))⟩) (show QB h c aU U (20) from ⟨_, _, _, _, fU, (wUk.up (by omega)), (wUa.up (by omega)), (wUb.up (by omega)), (wUe.up (by omega))⟩)) ?_
  rintro r1 h1 ⟨g1, q1⟩
  have G1 := G0.trans g1
  cases eS1 : p_power_O R U with
  | none =>
    rw [eS1] at q1
    obtain rfl : r1 = none := q1
    refine g_astore (l1 := [(4, aO none), (0, aO (some (c + 6))), (1, aO (some aR)), (2, aO (some aU)), (3, aI 1)]) rfl rfl ?_
    refine g_aload rfl rfl ?_
    refine g_ifnonnull_f rfl ?_
    refine g_null rfl ?_
    refine g_goto rfl ?_
    refine g_aret rfl ?_
    refine ⟨G1.mono (by omega), ?_⟩
    unfold p_rc_O
    simp only [eS1]
    rfl
  | some P1 =>
    rw [eS1] at q1
    obtain ⟨p1, rfl, p1x, p1y, p1w, f1, wp1x, wp1y, wp1w⟩ := q1
    refine g_astore (l1 := [(4, aO (some p1)), (0, aO (some (c + 6))), (1, aO (some aR)), (2, aO (some aU)), (3, aI 1)]) rfl rfl ?_
    refine g_aload rfl rfl ?_
    refine g_ifnonnull_t rfl ?_
    refine g_aload_n rfl rfl ?_
    refine g_aload rfl rfl ?_
    refine g_aload_n rfl rfl ?_
    refine g_iload_n rfl rfl ?_
    refine g_callVO [aO (some p1), aO (some aR), aI 1] [] rfl rfl rfl rfl (Nat.le_of_ble_eq_true rfl) (G1.cs.kd 6 (by omega) rfl) (p_cro1 (by omega) G1.ci (show TB h1 c p1 P1 (41) from ⟨_, _, _, f1, (wp1x.up (by omega)), (wp1y.up (by omega)), (wp1w.up (by omega))⟩) (show QB h1 c aR R (20) from ⟨_, _, _, _, (g1.rf fR), ((g1.wb wRk).up (by omega)), ((g1.wb wRa).up (by omega)), ((g1.wb wRb).up (by omega)), ((g1.wb wRe).up (by omega))⟩) (by have := G1.2.2.2.2.2.2.1; omega) (by omega)) ?_
    rintro r2 h2 ⟨g2, q2⟩
    have G2 := G1.trans g2
    cases eS2 : p_cro_O true P1 R with
    | none =>
      rw [eS2] at q2
      obtain rfl : r2 = none := q2
      refine g_aret rfl ?_
      refine ⟨G2.mono (by omega), ?_⟩
      unfold p_rc_O
      simp only [eS1, eS2]
      rfl
    | some P2 =>
      rw [eS2] at q2
      obtain ⟨p2, rfl, p2x, p2y, p2w, f2, wp2x, wp2y, wp2w⟩ := q2
      refine g_aret rfl ?_
      refine ⟨G2.mono (by omega), ?_⟩
      unfold p_rc_O
      simp only [eS1, eS2]
      exact ⟨p2, rfl, _, _, _, f2, (wp2x.up (by omega)), (wp2y.up (by omega)), (wp2w.up (by omega))⟩
set_option maxHeartbeats 4000000 in
theorem p_tan0 {w : aW} {d : Nat} (hd : 7 ≤ d) {h : aH} {c : Nat} (ci : CI h c) {aP : Nat} {P : T3} (tP : TB h c aP P (20)) {aR : Nat} {R : T4} (tR : QB h c aR R (20)) (ht : hV h (c + 1) 1 ≤ 100) : WP w d 66 [aO (some (c + 6)), aO (some aP), aO (some aR), aI 0] h (RO (fun r h1 => Gr h h1 c 124 ∧ OT h1 c r (p_tan_O false P R) (296))) := by
  obtain ⟨d, rfl⟩ : ∃ d1, d = d1 + 1 := ⟨d - 1, by omega⟩
  refine WP.enter (cd := cd_X2_tangent) rfl ?_
  have G0 := Gr.refl ci
  obtain ⟨Px, Py, Pw, fP, wPx, wPy, wPw⟩ := tP
  obtain ⟨Rk, Ra, Rb, Re, fR, wRk, wRa, wRb, wRe⟩ := tR
  have hls : largs 0 [aO (some (c + 6)), aO (some aP), aO (some aR), aI 0] = [(0, aO (some (c + 6))), (1, aO (some aP)), (2, aO (some aR)), (3, aI 0)] := rfl
  rw [hls]
  clear hls
  refine g_aload_n rfl rfl ?_
  refine g_aload_n rfl rfl ?_
  refine g_callVI [aO (some aP)] [] rfl rfl rfl rfl (Nat.le_of_ble_eq_true rfl) (G0.cs.kd 6 (by omega) rfl) (p_isFar (by omega) G0.ci (show TB h c aP P (20) from ⟨_, _, _, fP, (wPx.up (by omega)), (wPy.up (by omega)), (wPw.up (by omega))⟩)) ?_
  rintro _ hx1 ⟨ehx1, rfl⟩
  rw [ehx1]
  clear ehx1 hx1
  refine g_b_eq rfl (fun c5 => ?_) (fun c5 => ?_)
  · skip
    refine g_aload_n rfl rfl ?_
    refine g_aload_n rfl rfl ?_
    refine g_aload_n rfl rfl ?_
    refine g_callVO [aO (some aP), aO (some aR)] [] rfl rfl rfl rfl (Nat.le_of_ble_eq_true rfl) (G0.cs.kd 6 (by omega) rfl) (p_polar (by omega) G0.ci (show TB h c aP P (20) from ⟨_, _, _, fP, (wPx.up (by omega)), (wPy.up (by omega)), (wPw.up (by omega))⟩) (show QB h c aR R (20) from ⟨_, _, _, _, fR, (wRk.up (by omega)), (wRa.up (by omega)), (wRb.up (by omega)), (wRe.up (by omega))⟩) (by omega)) ?_
    rintro _ h2 ⟨p2, rfl, g2, p2x, p2y, p2w, f2, wp2x, wp2y, wp2w⟩
    have G2 := G0.trans g2
    refine g_astore (l1 := [(4, aO (some p2)), (0, aO (some (c + 6))), (1, aO (some aP)), (2, aO (some aR)), (3, aI 0)]) rfl rfl ?_
    refine g_aload_n rfl rfl ?_
    refine g_aload rfl rfl ?_
    refine g_aload_n rfl rfl ?_
    refine g_iconst rfl ?_
    refine g_callVO [aO (some p2), aO (some aR), aI 0] [] rfl rfl rfl rfl (Nat.le_of_ble_eq_true rfl) (G2.cs.kd 6 (by omega) rfl) (p_cro0 (by omega) G2.ci (show TB h2 c p2 (p_polar_S P R) (42) from ⟨_, _, _, f2, (wp2x.up (by omega)), (wp2y.up (by omega)), (wp2w.up (by omega))⟩) (show QB h2 c aR R (20) from ⟨_, _, _, _, (g2.rf fR), ((g2.wb wRk).up (by omega)), ((g2.wb wRa).up (by omega)), ((g2.wb wRb).up (by omega)), ((g2.wb wRe).up (by omega))⟩) (by have := G2.2.2.2.2.2.2.1; omega) (by omega)) ?_
    rintro r3 h3 ⟨g3, q3⟩
    have G3 := G2.trans g3
    cases eS3 : p_cro_O false (p_polar_S P R) R with
    | none =>
      rw [eS3] at q3
      obtain rfl : r3 = none := q3
      refine g_astore (l1 := [(5, aO none), (4, aO (some p2)), (0, aO (some (c + 6))), (1, aO (some aP)), (2, aO (some aR)), (3, aI 0)]) rfl rfl ?_
      refine g_aload_n rfl rfl ?_
      refine g_aload rfl rfl ?_
      refine g_aload_n rfl rfl ?_
      refine g_iconst rfl ?_
      refine g_callVO [aO (some p2), aO (some aR), aI 1] [] rfl rfl rfl rfl (Nat.le_of_ble_eq_true rfl) (G3.cs.kd 6 (by omega) rfl) (p_cro1 (by omega) G3.ci (show TB h3 c p2 (p_polar_S P R) (42) from ⟨_, _, _, (g3.tf f2), ((g3.wb wp2x).up (by omega)), ((g3.wb wp2y).up (by omega)), ((g3.wb wp2w).up (by omega))⟩) (show QB h3 c aR R (20) from ⟨_, _, _, _, (g3.rf (g2.rf fR)), ((g3.wb (g2.wb wRk)).up (by omega)), ((g3.wb (g2.wb wRa)).up (by omega)), ((g3.wb (g2.wb wRb)).up (by omega)), ((g3.wb (g2.wb wRe)).up (by omega))⟩) (by have := G3.2.2.2.2.2.2.1; omega) (by omega)) ?_
      rintro r4 h4 ⟨g4, q4⟩
      have G4 := G3.trans g4
      cases eS4 : p_cro_O true (p_polar_S P R) R with
      | none =>
        rw [eS4] at q4
        obtain rfl : r4 = none := q4
        refine g_astore (l1 := [(6, aO none), (5, aO none), (4, aO (some p2)), (0, aO (some (c + 6))), (1, aO (some aP)), (2, aO (some aR)), (3, aI 0)]) rfl rfl ?_
        refine g_aload rfl rfl ?_
        refine g_ifnull_t rfl ?_
        refine g_null rfl ?_
        refine g_aret rfl ?_
        refine ⟨G4.mono (by omega), ?_⟩
        first
          | (rw [p_tan_n0 (by omega)]; rfl)
          | (rw [p_tan_n1 (by omega) eS4]; rfl)
          | (rw [p_tan_n1 (by omega) eS3]; rfl)
          | (rw [p_tan_n2 (by omega) eS3 eS4]; rfl)
      | some P4 =>
        rw [eS4] at q4
        obtain ⟨p4, rfl, p4x, p4y, p4w, f4, wp4x, wp4y, wp4w⟩ := q4
        refine g_astore (l1 := [(6, aO (some p4)), (5, aO none), (4, aO (some p2)), (0, aO (some (c + 6))), (1, aO (some aP)), (2, aO (some aR)), (3, aI 0)]) rfl rfl ?_
        refine g_aload rfl rfl ?_
        refine g_ifnull_t rfl ?_
        refine g_null rfl ?_
        refine g_aret rfl ?_
        refine ⟨G4.mono (by omega), ?_⟩
        first
          | (rw [p_tan_n0 (by omega)]; rfl)
          | (rw [p_tan_n1 (by omega) eS4]; rfl)
          | (rw [p_tan_n1 (by omega) eS3]; rfl)
          | (rw [p_tan_n2 (by omega) eS3 eS4]; rfl)
    | some P3 =>
      rw [eS3] at q3
      obtain ⟨p3, rfl, p3x, p3y, p3w, f3, wp3x, wp3y, wp3w⟩ := q3
      refine g_astore (l1 := [(5, aO (some p3)), (4, aO (some p2)), (0, aO (some (c + 6))), (1, aO (some aP)), (2, aO (some aR)), (3, aI 0)]) rfl rfl ?_
      refine g_aload_n rfl rfl ?_
      refine g_aload rfl rfl ?_
      refine g_aload_n rfl rfl ?_
      refine g_iconst rfl ?_
      refine g_callVO [aO (some p2), aO (some aR), aI 1] [] rfl rfl rfl rfl (Nat.le_of_ble_eq_true rfl) (G3.cs.kd 6 (by omega) rfl) (p_cro1 (by omega) G3.ci (show TB h3 c p2 (p_polar_S P R) (42) from ⟨_, _, _, (g3.tf f2), ((g3.wb wp2x).up (by omega)), ((g3.wb wp2y).up (by omega)), ((g3.wb wp2w).up (by omega))⟩) (show QB h3 c aR R (20) from ⟨_, _, _, _, (g3.rf (g2.rf fR)), ((g3.wb (g2.wb wRk)).up (by omega)), ((g3.wb (g2.wb wRa)).up (by omega)), ((g3.wb (g2.wb wRb)).up (by omega)), ((g3.wb (g2.wb wRe)).up (by omega))⟩) (by have := G3.2.2.2.2.2.2.1; omega) (by omega)) ?_
      rintro r5 h5 ⟨g5, q5⟩
      have G5 := G3.trans g5
      cases eS5 : p_cro_O true (p_polar_S P R) R with
      | none =>
        rw [eS5] at q5
        obtain rfl : r5 = none := q5
        refine g_astore (l1 := [(6, aO none), (5, aO (some p3)), (4, aO (some p2)), (0, aO (some (c + 6))), (1, aO (some aP)), (2, aO (some aR)), (3, aI 0)]) rfl rfl ?_
        refine g_aload rfl rfl ?_
        refine g_ifnull_f rfl ?_
        refine g_aload rfl rfl ?_
        refine g_ifnonnull_f rfl ?_
        refine g_null rfl ?_
        refine g_aret rfl ?_
        refine ⟨G5.mono (by omega), ?_⟩
        first
          | (rw [p_tan_n0 (by omega)]; rfl)
          | (rw [p_tan_n1 (by omega) eS5]; rfl)
          | (rw [p_tan_n1 (by omega) eS3]; rfl)
          | (rw [p_tan_n2 (by omega) eS3 eS5]; rfl)
      | some P5 =>
        rw [eS5] at q5
        obtain ⟨p5, rfl, p5x, p5y, p5w, f5, wp5x, wp5y, wp5w⟩ := q5
        refine g_astore (l1 := [(6, aO (some p5)), (5, aO (some p3)), (4, aO (some p2)), (0, aO (some (c + 6))), (1, aO (some aP)), (2, aO (some aR)), (3, aI 0)]) rfl rfl ?_
        refine g_aload rfl rfl ?_
        refine g_ifnull_f rfl ?_
        refine g_aload rfl rfl ?_
        refine g_ifnonnull_t rfl ?_
        refine g_aload_n rfl rfl ?_
        refine g_aload_n rfl rfl ?_
        refine g_aload rfl rfl ?_
        refine g_aload_n rfl rfl ?_
        refine g_callVO [aO (some p3), aO (some aR)] [aO (some (c + 6))] rfl rfl rfl rfl (Nat.le_of_ble_eq_true rfl) (G5.cs.kd 6 (by omega) rfl) (p_polar (by omega) G5.ci (show TB h5 c p3 P3 (274) from ⟨_, _, _, (g5.tf f3), ((g5.wb wp3x).up (by omega)), ((g5.wb wp3y).up (by omega)), ((g5.wb wp3w).up (by omega))⟩) (show QB h5 c aR R (20) from ⟨_, _, _, _, (g5.rf (g3.rf (g2.rf fR))), ((g5.wb (g3.wb (g2.wb wRk))).up (by omega)), ((g5.wb (g3.wb (g2.wb wRa))).up (by omega)), ((g5.wb (g3.wb (g2.wb wRb))).up (by omega)), ((g5.wb (g3.wb (g2.wb wRe))).up (by omega))⟩) (by omega)) ?_
        rintro _ h6 ⟨p6, rfl, g6, p6x, p6y, p6w, f6, wp6x, wp6y, wp6w⟩
        have G6 := G5.trans g6
        refine g_callVO [aO (some p6)] [] rfl rfl rfl rfl (Nat.le_of_ble_eq_true rfl) (G6.cs.kd 6 (by omega) rfl) (p_lowest (by omega) G6.ci (show TB h6 c p6 (p_polar_S P3 R) (296) from ⟨_, _, _, f6, (wp6x.up (by omega)), (wp6y.up (by omega)), (wp6w.up (by omega))⟩) (by omega)) ?_
        rintro _ h7 ⟨p7, rfl, g7, p7x, p7y, p7w, f7, wp7x, wp7y, wp7w⟩
        have G7 := G6.trans g7
        refine g_astore (l1 := [(7, aO (some p7)), (6, aO (some p5)), (5, aO (some p3)), (4, aO (some p2)), (0, aO (some (c + 6))), (1, aO (some aP)), (2, aO (some aR)), (3, aI 0)]) rfl rfl ?_
        refine g_aload_n rfl rfl ?_
        refine g_aload_n rfl rfl ?_
        refine g_aload rfl rfl ?_
        refine g_aload_n rfl rfl ?_
        refine g_callVO [aO (some p5), aO (some aR)] [aO (some (c + 6))] rfl rfl rfl rfl (Nat.le_of_ble_eq_true rfl) (G7.cs.kd 6 (by omega) rfl) (p_polar (by omega) G7.ci (show TB h7 c p5 P5 (274) from ⟨_, _, _, (g7.tf (g6.tf f5)), ((g7.wb (g6.wb wp5x)).up (by omega)), ((g7.wb (g6.wb wp5y)).up (by omega)), ((g7.wb (g6.wb wp5w)).up (by omega))⟩) (show QB h7 c aR R (20) from ⟨_, _, _, _, (g7.rf (g6.rf (g5.rf (g3.rf (g2.rf fR))))), ((g7.wb (g6.wb (g5.wb (g3.wb (g2.wb wRk))))).up (by omega)), ((g7.wb (g6.wb (g5.wb (g3.wb (g2.wb wRa))))).up (by omega)), ((g7.wb (g6.wb (g5.wb (g3.wb (g2.wb wRb))))).up (by omega)), ((g7.wb (g6.wb (g5.wb (g3.wb (g2.wb wRe))))).up (by omega))⟩) (by omega)) ?_
        rintro _ h8 ⟨p8, rfl, g8, p8x, p8y, p8w, f8, wp8x, wp8y, wp8w⟩
        have G8 := G7.trans g8
        refine g_callVO [aO (some p8)] [] rfl rfl rfl rfl (Nat.le_of_ble_eq_true rfl) (G8.cs.kd 6 (by omega) rfl) (p_lowest (by omega) G8.ci (show TB h8 c p8 (p_polar_S P5 R) (296) from ⟨_, _, _, f8, (wp8x.up (by omega)), (wp8y.up (by omega)), (wp8w.up (by omega))⟩) (by omega)) ?_
        rintro _ h9 ⟨p9, rfl, g9, p9x, p9y, p9w, f9, wp9x, wp9y, wp9w⟩
        have G9 := G8.trans g9
        refine g_astore (l1 := [(8, aO (some p9)), (7, aO (some p7)), (6, aO (some p5)), (5, aO (some p3)), (4, aO (some p2)), (0, aO (some (c + 6))), (1, aO (some aP)), (2, aO (some aR)), (3, aI 0)]) rfl rfl ?_
        refine g_aload_n rfl rfl ?_
        refine g_aload rfl rfl ?_
        refine g_aload rfl rfl ?_
        refine g_callVI [aO (some p7), aO (some p9)] [] rfl rfl rfl rfl (Nat.le_of_ble_eq_true rfl) (G9.cs.kd 6 (by omega) rfl) (p_order (by omega) G9.ci (show TB h9 c p7 (lowT (p_polar_S P3 R)) (296) from ⟨_, _, _, (g9.tf (g8.tf f7)), ((g9.wb (g8.wb wp7x)).up (by omega)), ((g9.wb (g8.wb wp7y)).up (by omega)), ((g9.wb (g8.wb wp7w)).up (by omega))⟩) (show TB h9 c p9 (lowT (p_polar_S P5 R)) (296) from ⟨_, _, _, f9, (wp9x.up (by omega)), (wp9y.up (by omega)), (wp9w.up (by omega))⟩)) ?_
        rintro _ hx10 ⟨ehx10, rfl⟩
        rw [ehx10]
        clear ehx10 hx10
        refine g_if_gt rfl (fun c84 => ?_) (fun c84 => ?_)
        · skip
          refine g_iconst rfl ?_
          refine g_istore (l1 := [(9, aI 0), (8, aO (some p9)), (7, aO (some p7)), (6, aO (some p5)), (5, aO (some p3)), (4, aO (some p2)), (0, aO (some (c + 6))), (1, aO (some aP)), (2, aO (some aR)), (3, aI 0)]) rfl rfl ?_
          refine g_iload rfl rfl ?_
          refine g_iload_n rfl rfl ?_
          refine g_icmp_ne_f rfl (by omega) ?_
          refine g_aload rfl rfl ?_
          refine g_goto rfl ?_
          refine g_aret rfl ?_
          refine ⟨G9.mono (by omega), ?_⟩
          rw [p_tan_s (by omega) eS3 eS5]
          unfold p_tan_S
          first
            | rw [if_pos (by omega)]
            | rw [if_neg (by omega)]
          exact ⟨p9, rfl, _, _, _, f9, (wp9x.up (by omega)), (wp9y.up (by omega)), (wp9w.up (by omega))⟩
        · skip
          refine g_iconst rfl ?_
          refine g_goto rfl ?_
          refine g_istore (l1 := [(9, aI 1), (8, aO (some p9)), (7, aO (some p7)), (6, aO (some p5)), (5, aO (some p3)), (4, aO (some p2)), (0, aO (some (c + 6))), (1, aO (some aP)), (2, aO (some aR)), (3, aI 0)]) rfl rfl ?_
          refine g_iload rfl rfl ?_
          refine g_iload_n rfl rfl ?_
          refine g_icmp_ne_t rfl (by omega) ?_
          refine g_aload rfl rfl ?_
          refine g_aret rfl ?_
          refine ⟨G9.mono (by omega), ?_⟩
          rw [p_tan_s (by omega) eS3 eS5]
          unfold p_tan_S
          first
            | rw [if_pos (by omega)]
            | rw [if_neg (by omega)]
          exact ⟨p7, rfl, _, _, _, (g9.tf (g8.tf f7)), ((g9.wb (g8.wb wp7x)).up (by omega)), ((g9.wb (g8.wb wp7y)).up (by omega)), ((g9.wb (g8.wb wp7w)).up (by omega))⟩
  · skip
    refine g_null rfl ?_
    refine g_aret rfl ?_
    refine ⟨G0.mono (by omega), ?_⟩
    first
      | (rw [p_tan_n0 (by omega)]; rfl)
      | (rw [p_tan_n1 (by omega) rfl]; rfl)
      | (rw [p_tan_n1 (by omega) rfl]; rfl)
      | (rw [p_tan_n2 (by omega) rfl rfl]; rfl)
set_option maxHeartbeats 4000000 in
theorem p_tan1 {w : aW} {d : Nat} (hd : 7 ≤ d) {h : aH} {c : Nat} (ci : CI h c) {aP : Nat} {P : T3} (tP : TB h c aP P (20)) {aR : Nat} {R : T4} (tR : QB h c aR R (20)) (ht : hV h (c + 1) 1 ≤ 100) : WP w d 66 [aO (some (c + 6)), aO (some aP), aO (some aR), aI 1] h (RO (fun r h1 => Gr h h1 c 124 ∧ OT h1 c r (p_tan_O true P R) (296))) := by
  obtain ⟨d, rfl⟩ : ∃ d1, d = d1 + 1 := ⟨d - 1, by omega⟩
  refine WP.enter (cd := cd_X2_tangent) rfl ?_
  have G0 := Gr.refl ci
  obtain ⟨Px, Py, Pw, fP, wPx, wPy, wPw⟩ := tP
  obtain ⟨Rk, Ra, Rb, Re, fR, wRk, wRa, wRb, wRe⟩ := tR
  have hls : largs 0 [aO (some (c + 6)), aO (some aP), aO (some aR), aI 1] = [(0, aO (some (c + 6))), (1, aO (some aP)), (2, aO (some aR)), (3, aI 1)] := rfl
  rw [hls]
  clear hls
  refine g_aload_n rfl rfl ?_
  refine g_aload_n rfl rfl ?_
  refine g_callVI [aO (some aP)] [] rfl rfl rfl rfl (Nat.le_of_ble_eq_true rfl) (G0.cs.kd 6 (by omega) rfl) (p_isFar (by omega) G0.ci (show TB h c aP P (20) from ⟨_, _, _, fP, (wPx.up (by omega)), (wPy.up (by omega)), (wPw.up (by omega))⟩)) ?_
  rintro _ hx1 ⟨ehx1, rfl⟩
  rw [ehx1]
  clear ehx1 hx1
  refine g_b_eq rfl (fun c5 => ?_) (fun c5 => ?_)
  · skip
    refine g_aload_n rfl rfl ?_
    refine g_aload_n rfl rfl ?_
    refine g_aload_n rfl rfl ?_
    refine g_callVO [aO (some aP), aO (some aR)] [] rfl rfl rfl rfl (Nat.le_of_ble_eq_true rfl) (G0.cs.kd 6 (by omega) rfl) (p_polar (by omega) G0.ci (show TB h c aP P (20) from ⟨_, _, _, fP, (wPx.up (by omega)), (wPy.up (by omega)), (wPw.up (by omega))⟩) (show QB h c aR R (20) from ⟨_, _, _, _, fR, (wRk.up (by omega)), (wRa.up (by omega)), (wRb.up (by omega)), (wRe.up (by omega))⟩) (by omega)) ?_
    rintro _ h2 ⟨p2, rfl, g2, p2x, p2y, p2w, f2, wp2x, wp2y, wp2w⟩
    have G2 := G0.trans g2
    refine g_astore (l1 := [(4, aO (some p2)), (0, aO (some (c + 6))), (1, aO (some aP)), (2, aO (some aR)), (3, aI 1)]) rfl rfl ?_
    refine g_aload_n rfl rfl ?_
    refine g_aload rfl rfl ?_
    refine g_aload_n rfl rfl ?_
    refine g_iconst rfl ?_
    refine g_callVO [aO (some p2), aO (some aR), aI 0] [] rfl rfl rfl rfl (Nat.le_of_ble_eq_true rfl) (G2.cs.kd 6 (by omega) rfl) (p_cro0 (by omega) G2.ci (show TB h2 c p2 (p_polar_S P R) (42) from ⟨_, _, _, f2, (wp2x.up (by omega)), (wp2y.up (by omega)), (wp2w.up (by omega))⟩) (show QB h2 c aR R (20) from ⟨_, _, _, _, (g2.rf fR), ((g2.wb wRk).up (by omega)), ((g2.wb wRa).up (by omega)), ((g2.wb wRb).up (by omega)), ((g2.wb wRe).up (by omega))⟩) (by have := G2.2.2.2.2.2.2.1; omega) (by omega)) ?_
    rintro r3 h3 ⟨g3, q3⟩
    have G3 := G2.trans g3
    cases eS3 : p_cro_O false (p_polar_S P R) R with
    | none =>
      rw [eS3] at q3
      obtain rfl : r3 = none := q3
      refine g_astore (l1 := [(5, aO none), (4, aO (some p2)), (0, aO (some (c + 6))), (1, aO (some aP)), (2, aO (some aR)), (3, aI 1)]) rfl rfl ?_
      refine g_aload_n rfl rfl ?_
      refine g_aload rfl rfl ?_
      refine g_aload_n rfl rfl ?_
      refine g_iconst rfl ?_
      refine g_callVO [aO (some p2), aO (some aR), aI 1] [] rfl rfl rfl rfl (Nat.le_of_ble_eq_true rfl) (G3.cs.kd 6 (by omega) rfl) (p_cro1 (by omega) G3.ci (show TB h3 c p2 (p_polar_S P R) (42) from ⟨_, _, _, (g3.tf f2), ((g3.wb wp2x).up (by omega)), ((g3.wb wp2y).up (by omega)), ((g3.wb wp2w).up (by omega))⟩) (show QB h3 c aR R (20) from ⟨_, _, _, _, (g3.rf (g2.rf fR)), ((g3.wb (g2.wb wRk)).up (by omega)), ((g3.wb (g2.wb wRa)).up (by omega)), ((g3.wb (g2.wb wRb)).up (by omega)), ((g3.wb (g2.wb wRe)).up (by omega))⟩) (by have := G3.2.2.2.2.2.2.1; omega) (by omega)) ?_
      rintro r4 h4 ⟨g4, q4⟩
      have G4 := G3.trans g4
      cases eS4 : p_cro_O true (p_polar_S P R) R with
      | none =>
        rw [eS4] at q4
        obtain rfl : r4 = none := q4
        refine g_astore (l1 := [(6, aO none), (5, aO none), (4, aO (some p2)), (0, aO (some (c + 6))), (1, aO (some aP)), (2, aO (some aR)), (3, aI 1)]) rfl rfl ?_
        refine g_aload rfl rfl ?_
        refine g_ifnull_t rfl ?_
        refine g_null rfl ?_
        refine g_aret rfl ?_
        refine ⟨G4.mono (by omega), ?_⟩
        first
          | (rw [p_tan_n0 (by omega)]; rfl)
          | (rw [p_tan_n1 (by omega) eS4]; rfl)
          | (rw [p_tan_n1 (by omega) eS3]; rfl)
          | (rw [p_tan_n2 (by omega) eS3 eS4]; rfl)
      | some P4 =>
        rw [eS4] at q4
        obtain ⟨p4, rfl, p4x, p4y, p4w, f4, wp4x, wp4y, wp4w⟩ := q4
        refine g_astore (l1 := [(6, aO (some p4)), (5, aO none), (4, aO (some p2)), (0, aO (some (c + 6))), (1, aO (some aP)), (2, aO (some aR)), (3, aI 1)]) rfl rfl ?_
        refine g_aload rfl rfl ?_
        refine g_ifnull_t rfl ?_
        refine g_null rfl ?_
        refine g_aret rfl ?_
        refine ⟨G4.mono (by omega), ?_⟩
        first
          | (rw [p_tan_n0 (by omega)]; rfl)
          | (rw [p_tan_n1 (by omega) eS4]; rfl)
          | (rw [p_tan_n1 (by omega) eS3]; rfl)
          | (rw [p_tan_n2 (by omega) eS3 eS4]; rfl)
    | some P3 =>
      rw [eS3] at q3
      obtain ⟨p3, rfl, p3x, p3y, p3w, f3, wp3x, wp3y, wp3w⟩ := q3
      refine g_astore (l1 := [(5, aO (some p3)), (4, aO (some p2)), (0, aO (some (c + 6))), (1, aO (some aP)), (2, aO (some aR)), (3, aI 1)]) rfl rfl ?_
      refine g_aload_n rfl rfl ?_
      refine g_aload rfl rfl ?_
      refine g_aload_n rfl rfl ?_
      refine g_iconst rfl ?_
      refine g_callVO [aO (some p2), aO (some aR), aI 1] [] rfl rfl rfl rfl (Nat.le_of_ble_eq_true rfl) (G3.cs.kd 6 (by omega) rfl) (p_cro1 (by omega) G3.ci (show TB h3 c p2 (p_polar_S P R) (42) from ⟨_, _, _, (g3.tf f2), ((g3.wb wp2x).up (by omega)), ((g3.wb wp2y).up (by omega)), ((g3.wb wp2w).up (by omega))⟩) (show QB h3 c aR R (20) from ⟨_, _, _, _, (g3.rf (g2.rf fR)), ((g3.wb (g2.wb wRk)).up (by omega)), ((g3.wb (g2.wb wRa)).up (by omega)), ((g3.wb (g2.wb wRb)).up (by omega)), ((g3.wb (g2.wb wRe)).up (by omega))⟩) (by have := G3.2.2.2.2.2.2.1; omega) (by omega)) ?_
      rintro r5 h5 ⟨g5, q5⟩
      have G5 := G3.trans g5
      cases eS5 : p_cro_O true (p_polar_S P R) R with
      | none =>
        rw [eS5] at q5
        obtain rfl : r5 = none := q5
        refine g_astore (l1 := [(6, aO none), (5, aO (some p3)), (4, aO (some p2)), (0, aO (some (c + 6))), (1, aO (some aP)), (2, aO (some aR)), (3, aI 1)]) rfl rfl ?_
        refine g_aload rfl rfl ?_
        refine g_ifnull_f rfl ?_
        refine g_aload rfl rfl ?_
        refine g_ifnonnull_f rfl ?_
        refine g_null rfl ?_
        refine g_aret rfl ?_
        refine ⟨G5.mono (by omega), ?_⟩
        first
          | (rw [p_tan_n0 (by omega)]; rfl)
          | (rw [p_tan_n1 (by omega) eS5]; rfl)
          | (rw [p_tan_n1 (by omega) eS3]; rfl)
          | (rw [p_tan_n2 (by omega) eS3 eS5]; rfl)
      | some P5 =>
        rw [eS5] at q5
        obtain ⟨p5, rfl, p5x, p5y, p5w, f5, wp5x, wp5y, wp5w⟩ := q5
        refine g_astore (l1 := [(6, aO (some p5)), (5, aO (some p3)), (4, aO (some p2)), (0, aO (some (c + 6))), (1, aO (some aP)), (2, aO (some aR)), (3, aI 1)]) rfl rfl ?_
        refine g_aload rfl rfl ?_
        refine g_ifnull_f rfl ?_
        refine g_aload rfl rfl ?_
        refine g_ifnonnull_t rfl ?_
        refine g_aload_n rfl rfl ?_
        refine g_aload_n rfl rfl ?_
        refine g_aload rfl rfl ?_
        refine g_aload_n rfl rfl ?_
        refine g_callVO [aO (some p3), aO (some aR)] [aO (some (c + 6))] rfl rfl rfl rfl (Nat.le_of_ble_eq_true rfl) (G5.cs.kd 6 (by omega) rfl) (p_polar (by omega) G5.ci (show TB h5 c p3 P3 (274) from ⟨_, _, _, (g5.tf f3), ((g5.wb wp3x).up (by omega)), ((g5.wb wp3y).up (by omega)), ((g5.wb wp3w).up (by omega))⟩) (show QB h5 c aR R (20) from ⟨_, _, _, _, (g5.rf (g3.rf (g2.rf fR))), ((g5.wb (g3.wb (g2.wb wRk))).up (by omega)), ((g5.wb (g3.wb (g2.wb wRa))).up (by omega)), ((g5.wb (g3.wb (g2.wb wRb))).up (by omega)), ((g5.wb (g3.wb (g2.wb wRe))).up (by omega))⟩) (by omega)) ?_
        rintro _ h6 ⟨p6, rfl, g6, p6x, p6y, p6w, f6, wp6x, wp6y, wp6w⟩
        have G6 := G5.trans g6
        refine g_callVO [aO (some p6)] [] rfl rfl rfl rfl (Nat.le_of_ble_eq_true rfl) (G6.cs.kd 6 (by omega) rfl) (p_lowest (by omega) G6.ci (show TB h6 c p6 (p_polar_S P3 R) (296) from ⟨_, _, _, f6, (wp6x.up (by omega)), (wp6y.up (by omega)), (wp6w.up (by omega))⟩) (by omega)) ?_
        rintro _ h7 ⟨p7, rfl, g7, p7x, p7y, p7w, f7, wp7x, wp7y, wp7w⟩
        have G7 := G6.trans g7
        refine g_astore (l1 := [(7, aO (some p7)), (6, aO (some p5)), (5, aO (some p3)), (4, aO (some p2)), (0, aO (some (c + 6))), (1, aO (some aP)), (2, aO (some aR)), (3, aI 1)]) rfl rfl ?_
        refine g_aload_n rfl rfl ?_
        refine g_aload_n rfl rfl ?_
        refine g_aload rfl rfl ?_
        refine g_aload_n rfl rfl ?_
        refine g_callVO [aO (some p5), aO (some aR)] [aO (some (c + 6))] rfl rfl rfl rfl (Nat.le_of_ble_eq_true rfl) (G7.cs.kd 6 (by omega) rfl) (p_polar (by omega) G7.ci (show TB h7 c p5 P5 (274) from ⟨_, _, _, (g7.tf (g6.tf f5)), ((g7.wb (g6.wb wp5x)).up (by omega)), ((g7.wb (g6.wb wp5y)).up (by omega)), ((g7.wb (g6.wb wp5w)).up (by omega))⟩) (show QB h7 c aR R (20) from ⟨_, _, _, _, (g7.rf (g6.rf (g5.rf (g3.rf (g2.rf fR))))), ((g7.wb (g6.wb (g5.wb (g3.wb (g2.wb wRk))))).up (by omega)), ((g7.wb (g6.wb (g5.wb (g3.wb (g2.wb wRa))))).up (by omega)), ((g7.wb (g6.wb (g5.wb (g3.wb (g2.wb wRb))))).up (by omega)), ((g7.wb (g6.wb (g5.wb (g3.wb (g2.wb wRe))))).up (by omega))⟩) (by omega)) ?_
        rintro _ h8 ⟨p8, rfl, g8, p8x, p8y, p8w, f8, wp8x, wp8y, wp8w⟩
        have G8 := G7.trans g8
        refine g_callVO [aO (some p8)] [] rfl rfl rfl rfl (Nat.le_of_ble_eq_true rfl) (G8.cs.kd 6 (by omega) rfl) (p_lowest (by omega) G8.ci (show TB h8 c p8 (p_polar_S P5 R) (296) from ⟨_, _, _, f8, (wp8x.up (by omega)), (wp8y.up (by omega)), (wp8w.up (by omega))⟩) (by omega)) ?_
        rintro _ h9 ⟨p9, rfl, g9, p9x, p9y, p9w, f9, wp9x, wp9y, wp9w⟩
        have G9 := G8.trans g9
        refine g_astore (l1 := [(8, aO (some p9)), (7, aO (some p7)), (6, aO (some p5)), (5, aO (some p3)), (4, aO (some p2)), (0, aO (some (c + 6))), (1, aO (some aP)), (2, aO (some aR)), (3, aI 1)]) rfl rfl ?_
        refine g_aload_n rfl rfl ?_
        refine g_aload rfl rfl ?_
        refine g_aload rfl rfl ?_
        refine g_callVI [aO (some p7), aO (some p9)] [] rfl rfl rfl rfl (Nat.le_of_ble_eq_true rfl) (G9.cs.kd 6 (by omega) rfl) (p_order (by omega) G9.ci (show TB h9 c p7 (lowT (p_polar_S P3 R)) (296) from ⟨_, _, _, (g9.tf (g8.tf f7)), ((g9.wb (g8.wb wp7x)).up (by omega)), ((g9.wb (g8.wb wp7y)).up (by omega)), ((g9.wb (g8.wb wp7w)).up (by omega))⟩) (show TB h9 c p9 (lowT (p_polar_S P5 R)) (296) from ⟨_, _, _, f9, (wp9x.up (by omega)), (wp9y.up (by omega)), (wp9w.up (by omega))⟩)) ?_
        rintro _ hx10 ⟨ehx10, rfl⟩
        rw [ehx10]
        clear ehx10 hx10
        refine g_if_gt rfl (fun c84 => ?_) (fun c84 => ?_)
        · skip
          refine g_iconst rfl ?_
          refine g_istore (l1 := [(9, aI 0), (8, aO (some p9)), (7, aO (some p7)), (6, aO (some p5)), (5, aO (some p3)), (4, aO (some p2)), (0, aO (some (c + 6))), (1, aO (some aP)), (2, aO (some aR)), (3, aI 1)]) rfl rfl ?_
          refine g_iload rfl rfl ?_
          refine g_iload_n rfl rfl ?_
          refine g_icmp_ne_t rfl (by omega) ?_
          refine g_aload rfl rfl ?_
          refine g_aret rfl ?_
          refine ⟨G9.mono (by omega), ?_⟩
          rw [p_tan_s (by omega) eS3 eS5]
          unfold p_tan_S
          first
            | rw [if_pos (by omega)]
            | rw [if_neg (by omega)]
          exact ⟨p7, rfl, _, _, _, (g9.tf (g8.tf f7)), ((g9.wb (g8.wb wp7x)).up (by omega)), ((g9.wb (g8.wb wp7y)).up (by omega)), ((g9.wb (g8.wb wp7w)).up (by omega))⟩
        · skip
          refine g_iconst rfl ?_
          refine g_goto rfl ?_
          refine g_istore (l1 := [(9, aI 1), (8, aO (some p9)), (7, aO (some p7)), (6, aO (some p5)), (5, aO (some p3)), (4, aO (some p2)), (0, aO (some (c + 6))), (1, aO (some aP)), (2, aO (some aR)), (3, aI 1)]) rfl rfl ?_
          refine g_iload rfl rfl ?_
          refine g_iload_n rfl rfl ?_
          refine g_icmp_ne_f rfl (by omega) ?_
          refine g_aload rfl rfl ?_
          refine g_goto rfl ?_
          refine g_aret rfl ?_
          refine ⟨G9.mono (by omega), ?_⟩
          rw [p_tan_s (by omega) eS3 eS5]
          unfold p_tan_S
          first
            | rw [if_pos (by omega)]
            | rw [if_neg (by omega)]
          exact ⟨p9, rfl, _, _, _, f9, (wp9x.up (by omega)), (wp9y.up (by omega)), (wp9w.up (by omega))⟩
  · skip
    refine g_null rfl ?_
    refine g_aret rfl ?_
    refine ⟨G0.mono (by omega), ?_⟩
    first
      | (rw [p_tan_n0 (by omega)]; rfl)
      | (rw [p_tan_n1 (by omega) rfl]; rfl)
      | (rw [p_tan_n1 (by omega) rfl]; rfl)
      | (rw [p_tan_n2 (by omega) rfl rfl]; rfl)
