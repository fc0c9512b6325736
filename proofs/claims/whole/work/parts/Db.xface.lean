/-! the class's faces of things: kept, sorts told: printed by wip/whole/db.py -/
def keepP (S : aS) (s : Int) (O : Option T3) : Int × aS := match O with
  | none => (-3, S)
  | some P => keepT S s ((lowT P).1, (lowT P).2.1, (lowT P).2.2, 0)
def keepC (S : aS) (O : Option T4) : Int × aS := match O with
  | none => (-3, S)
  | some R => keepT S 2 ((lowR R).1, (lowR R).2.1, (lowR R).2.2.1, (lowR R).2.2.2)
theorem KT.gr {h h0 h1 : aH} {c n m : Nat} (g : Gr h h0 c n) (k : KT h0 h1 c m) : KT h h1 c (n + m) := by
  obtain ⟨h2, V, g2, e, f⟩ := k
  exact ⟨h2, V, g.trans g2, e, f⟩
theorem KT.mono {h h1 : aH} {c n m : Nat} (k : KT h h1 c n) (hm : n ≤ m) : KT h h1 c m := by
  obtain ⟨h2, V, g2, e, f⟩ := k
  exact ⟨h2, V, g2.mono hm, e, f⟩
theorem KT.refl {h : aH} {c : Nat} (ci : CI h c) : KT h h c 0 := ⟨h, hV h, Gr.refl ci, rfl, fun _ _ _ _ => rfl⟩
set_option maxHeartbeats 4000000 in
theorem t_keepT {w : aW} {d : Nat} (hd : 6 ≤ d) {h : aH} {c : Nat} (ci : CI h c) {S : aS} (xt : XT h c S) (ok : OkT S) (s : Int) {aP : Nat} {P : T3} {k : Nat} (tP : TB h c aP P k) (hk : k ≤ 382) : WP w d 194 [aO (some (c + 7)), aI s, aO (some aP)] h (RI (fun r h1 => KT h h1 c 40 ∧ r = (keepP S s (some P)).1 ∧ XT h1 c (keepP S s (some P)).2)) := by
  obtain ⟨d, rfl⟩ : ∃ d1, d = d1 + 1 := ⟨d - 1, by omega⟩
  refine WP.enter (cd := cd_X8_keepTriple) rfl ?_
  have G0 := Gr.refl ci
  obtain ⟨Px, Py, Pw, fP, wPx, wPy, wPw⟩ := tP
  have hls : largs 0 [aO (some (c + 7)), aI s, aO (some aP)] = [(0, aO (some (c + 7))), (1, aI s), (2, aO (some aP))] := rfl
  rw [hls]
  clear hls
  refine g_aload_n rfl rfl ?_
  refine g_ifnonnull_t rfl ?_
  refine g_aload_n rfl rfl ?_
  refine g_getR rfl (G0.cs.kd 7 (by omega) rfl) (G0.cs.rf 8 (by omega) rfl) ?_
  refine g_aload_n rfl rfl ?_
  refine g_callVO [aO (some aP)] [] rfl rfl rfl rfl (Nat.le_of_ble_eq_true rfl) (G0.cs.kd 6 (by omega) rfl) (p_lowest (by omega) G0.ci (show TB h c aP P (k) from ⟨_, _, _, fP, (wPx.up (by omega)), (wPy.up (by omega)), (wPw.up (by omega))⟩) (by omega)) ?_
  rintro _ h1 ⟨p1, rfl, g1, p1x, p1y, p1w, f1, wp1x, wp1y, wp1w⟩
  have G1 := G0.trans g1
  refine g_astore_n (l1 := [(3, aO (some p1)), (0, aO (some (c + 7))), (1, aI s), (2, aO (some aP))]) rfl rfl ?_
  refine g_aload_n rfl rfl ?_
  refine g_iload_n rfl rfl ?_
  refine g_aload_n rfl rfl ?_
  refine g_getR rfl f1.1.2.2 f1.2.1 ?_
  refine g_aload_n rfl rfl ?_
  refine g_getR rfl f1.1.2.2 f1.2.2.1 ?_
  refine g_aload_n rfl rfl ?_
  refine g_getR rfl f1.1.2.2 f1.2.2.2 ?_
  refine g_aload_n rfl rfl ?_
  refine g_getR rfl (G1.cs.kd 7 (by omega) rfl) (G1.cs.rf 7 (by omega) rfl) ?_
  refine g_lconst0 rfl ?_
  refine g_callVO [aJ 0] [aO (some p1w), aO (some p1y), aO (some p1x), aI s, aO (some (c + 7))] rfl rfl rfl rfl (Nat.le_of_ble_eq_true rfl) (G1.cs.kd 1 (by omega) rfl) (s_of (by omega) G1.ci 0 (by unfold r64; omega) 0 (by omega) (by omega)) ?_
  rintro _ h2 ⟨p2, rfl, g2, wp2⟩
  have G2 := G1.trans g2
  refine g_callVI [aI s, aO (some p1x), aO (some p1y), aO (some p1w), aO (some p2)] [] rfl rfl rfl rfl (Nat.le_of_ble_eq_true rfl) (G2.cs.kd 7 (by omega) rfl) (t_keep (by omega) G2.ci (g2.xt G1.ci (g1.xt G0.ci xt)) ok s (g2.wb wp1x) (by omega) (g2.wb wp1y) (by omega) (g2.wb wp1w) (by omega) wp2 (by omega)) ?_
  rintro r9 h9 ⟨kt9, er9, xt9⟩
  refine g_iret rfl ?_
  exact ⟨(kt9.gr G2).mono (by omega), er9, xt9⟩
set_option maxHeartbeats 4000000 in
theorem t_keepR {w : aW} {d : Nat} (hd : 6 ≤ d) {h : aH} {c : Nat} (ci : CI h c) {S : aS} (xt : XT h c S) (ok : OkT S) {aR : Nat} {R : T4} {k : Nat} (tR : QB h c aR R k) (hk : k ≤ 382) : WP w d 195 [aO (some (c + 7)), aO (some aR)] h (RI (fun r h1 => KT h h1 c 40 ∧ r = (keepC S (some R)).1 ∧ XT h1 c (keepC S (some R)).2)) := by
  obtain ⟨d, rfl⟩ : ∃ d1, d = d1 + 1 := ⟨d - 1, by omega⟩
  refine WP.enter (cd := cd_X8_keepRing) rfl ?_
  have G0 := Gr.refl ci
  obtain ⟨Rk, Ra, Rb, Re, fR, wRk, wRa, wRb, wRe⟩ := tR
  have hls : largs 0 [aO (some (c + 7)), aO (some aR)] = [(0, aO (some (c + 7))), (1, aO (some aR))] := rfl
  rw [hls]
  clear hls
  refine g_aload_n rfl rfl ?_
  refine g_ifnonnull_t rfl ?_
  refine g_aload_n rfl rfl ?_
  refine g_getR rfl (G0.cs.kd 7 (by omega) rfl) (G0.cs.rf 8 (by omega) rfl) ?_
  refine g_aload_n rfl rfl ?_
  refine g_callVO [aO (some aR)] [] rfl rfl rfl rfl (Nat.le_of_ble_eq_true rfl) (G0.cs.kd 6 (by omega) rfl) (p_lowestR (by omega) G0.ci (show QB h c aR R (k) from ⟨_, _, _, _, fR, (wRk.up (by omega)), (wRa.up (by omega)), (wRb.up (by omega)), (wRe.up (by omega))⟩) (by omega)) ?_
  rintro _ h1 ⟨p1, rfl, g1, p1k, p1a, p1b, p1e, f1, wp1k, wp1a, wp1b, wp1e⟩
  have G1 := G0.trans g1
  refine g_astore_n (l1 := [(2, aO (some p1)), (0, aO (some (c + 7))), (1, aO (some aR))]) rfl rfl ?_
  refine g_aload_n rfl rfl ?_
  refine g_iconst rfl ?_
  refine g_aload_n rfl rfl ?_
  refine g_getR rfl f1.1.2.2 f1.2.1 ?_
  refine g_aload_n rfl rfl ?_
  refine g_getR rfl f1.1.2.2 f1.2.2.1 ?_
  refine g_aload_n rfl rfl ?_
  refine g_getR rfl f1.1.2.2 f1.2.2.2.1 ?_
  refine g_aload_n rfl rfl ?_
  refine g_getR rfl f1.1.2.2 f1.2.2.2.2 ?_
  refine g_callVI [aI 2, aO (some p1k), aO (some p1a), aO (some p1b), aO (some p1e)] [] rfl rfl rfl rfl (Nat.le_of_ble_eq_true rfl) (G1.cs.kd 7 (by omega) rfl) (t_keep (by omega) G1.ci (g1.xt G0.ci xt) ok 2 wp1k (by omega) wp1a (by omega) wp1b (by omega) wp1e (by omega)) ?_
  rintro r9 h9 ⟨kt9, er9, xt9⟩
  refine g_iret rfl ?_
  exact ⟨(kt9.gr G1).mono (by omega), er9, xt9⟩
theorem t_keepT0 {w : aW} {d : Nat} (hd : 1 ≤ d) {h : aH} {c : Nat} (s : Int) : WP w d 194 [aO (some (c + 7)), aI s, aO none] h (RI (fun r h1 => h1 = h ∧ r = -3)) := by
  obtain ⟨d, rfl⟩ : ∃ d1, d = d1 + 1 := ⟨d - 1, by omega⟩
  refine WP.enter (cd := cd_X8_keepTriple) rfl ?_
  have hls : largs 0 [aO (some (c + 7)), aI s, aO none] = [(0, aO (some (c + 7))), (1, aI s), (2, aO none)] := rfl
  rw [hls]
  clear hls
  refine g_aload_n rfl rfl ?_
  refine g_ifnonnull_f rfl ?_
  refine g_bipush rfl ?_
  refine g_iret rfl ?_
  exact ⟨rfl, rfl⟩
theorem t_keepR0 {w : aW} {d : Nat} (hd : 1 ≤ d) {h : aH} {c : Nat}  : WP w d 195 [aO (some (c + 7)), aO none] h (RI (fun r h1 => h1 = h ∧ r = -3)) := by
  obtain ⟨d, rfl⟩ : ∃ d1, d = d1 + 1 := ⟨d - 1, by omega⟩
  refine WP.enter (cd := cd_X8_keepRing) rfl ?_
  have hls : largs 0 [aO (some (c + 7)), aO none] = [(0, aO (some (c + 7))), (1, aO none)] := rfl
  rw [hls]
  clear hls
  refine g_aload_n rfl rfl ?_
  refine g_ifnonnull_f rfl ?_
  refine g_bipush rfl ?_
  refine g_iret rfl ?_
  exact ⟨rfl, rfl⟩
theorem t_keepO {w : aW} {d : Nat} (hd : 6 ≤ d) {h : aH} {c : Nat} (ci : CI h c) {S : aS} (xt : XT h c S) (ok : OkT S) (s : Int) {r : Option Nat} {P : Option T3} {k : Nat} (q : OT h c r P k) (hk : k ≤ 382) : WP w d 194 [aO (some (c + 7)), aI s, aO r] h (RI (fun x h1 => KT h h1 c 40 ∧ x = (keepP S s P).1 ∧ XT h1 c (keepP S s P).2)) := by
  cases P with
  | none =>
    obtain rfl : r = none := q
    refine (t_keepT0 (by omega) s).imp ?_
    rintro _ h1 ⟨x, rfl, e, rfl⟩
    rw [e]
    exact ⟨_, rfl, (KT.refl ci).mono (by omega), rfl, xt⟩
  | some P =>
    obtain ⟨t, rfl, tb⟩ := q
    exact t_keepT hd ci xt ok s tb hk
theorem t_keepCO {w : aW} {d : Nat} (hd : 6 ≤ d) {h : aH} {c : Nat} (ci : CI h c) {S : aS} (xt : XT h c S) (ok : OkT S) {r : Option Nat} {R : Option T4} {k : Nat} (q : OQ h c r R k) (hk : k ≤ 382) : WP w d 195 [aO (some (c + 7)), aO r] h (RI (fun x h1 => KT h h1 c 40 ∧ x = (keepC S R).1 ∧ XT h1 c (keepC S R).2)) := by
  cases R with
  | none =>
    obtain rfl : r = none := q
    refine (t_keepR0 (by omega)).imp ?_
    rintro _ h1 ⟨x, rfl, e, rfl⟩
    rw [e]
    exact ⟨_, rfl, (KT.refl ci).mono (by omega), rfl, xt⟩
  | some R =>
    obtain ⟨t, rfl, tb⟩ := q
    exact t_keepR hd ci xt ok tb hk
/-- text constants -/
theorem w_len {w : aW} {d : Nat} (hd : 1 ≤ d) {h : aH} {x i : Nat} (hx : hT h x = (8, i)) : WP w d 900 [aO (some x)] h (RI (fun r h1 => h1 = h ∧ r = ((txtAt i).length : Int))) := by
  obtain ⟨d, rfl⟩ : ∃ d1, d = d1 + 1 := ⟨d - 1, by omega⟩
  exact ⟨_, h, Or.inl (Or.inl ⟨rfl, x, rfl, by rw [hx], rfl, rfl⟩), _, rfl, rfl, by rw [hx]⟩
theorem w_at {w : aW} {d : Nat} (hd : 1 ≤ d) {h : aH} {x i : Nat} (hx : hT h x = (8, i)) (k : Int) (hk : 0 ≤ k ∧ k < ((txtAt i).length : Int)) : WP w d 901 [aO (some x), aI k] h (RI (fun r h1 => h1 = h ∧ r = (((txtAt i).getD k.toNat 0 : Nat) : Int))) := by
  obtain ⟨d, rfl⟩ : ∃ d1, d = d1 + 1 := ⟨d - 1, by omega⟩
  exact ⟨_, h, Or.inl (Or.inr (Or.inl ⟨rfl, x, k, rfl, by rw [hx], hk.1, by rw [hx]; exact hk.2, rfl, rfl⟩)), _, rfl, rfl, by rw [hx]⟩
def chAt (i : Nat) (k : Int) : Int := if 0 ≤ k ∧ k < ((txtAt i).length : Int) then (((txtAt i).getD k.toNat 0 : Nat) : Int) else 63
theorem txt_small : ∀ i < 12, ∀ x ∈ txtAt i, x < 65536 := by decide +kernel
theorem getD_small {l : List Nat} (h : ∀ x ∈ l, x < 65536) (k : Nat) : l.getD k 0 < 65536 := by
  rw [List.getD_eq_getElem?_getD]
  cases e : l[k]? with
  | none => decide
  | some x => exact h x (List.mem_of_getElem? e)
abbrev isAS (S : aS) (ch t : Int) : Prop := (ch = 110 ∧ 0 ≤ t ∧ t < sN S) ∨ (ch = 112 ∧ 0 ≤ t ∧ t < sT S ∧ sTs S t.toNat = 0) ∨ (ch = 108 ∧ 0 ≤ t ∧ t < sT S ∧ sTs S t.toNat = 1) ∨ (ch = 99 ∧ 0 ≤ t ∧ t < sT S ∧ sTs S t.toNat = 2) ∨ (ch = 116 ∧ 0 ≤ t ∧ t < sT S) ∨ ch = 45
theorem x_sortAt {w : aW} {d : Nat} (hd : 2 ≤ d) {h : aH} {x i : Nat} (hx : hT h x = (8, i)) (hi : i < 12) (k : Int) : WP w d 225 [aO (some x), aI k] h (RI (fun r h1 => h1 = h ∧ r = chAt i k)) := by
  obtain ⟨d, rfl⟩ : ∃ d1, d = d1 + 1 := ⟨d - 1, by omega⟩
  refine WP.enter (cd := cd_X11_sortAt) rfl ?_
  have hs := getD_small (txt_small i hi) k.toNat
  have hls : largs 0 [aO (some x), aI k] = [(0, aO (some x)), (1, aI k)] := rfl
  rw [hls]
  clear hls
  refine g_iload_n rfl rfl ?_
  refine g_if_lt rfl (fun c1 => ?_) (fun c1 => ?_)
  · skip
    refine g_bipush rfl ?_
    refine g_goto rfl ?_
    refine g_cret rfl (by omega) ?_
    refine ⟨rfl, ?_⟩
    unfold chAt
    first
      | rw [if_neg (by omega)]
      | rw [if_pos (by omega)]
  · skip
    refine g_iload_n rfl rfl ?_
    refine g_aload_n rfl rfl ?_
    refine g_callVI [] [aI k] rfl rfl rfl rfl (Nat.le_of_ble_eq_true rfl) (by rw [hx]) (w_len (by omega) hx) ?_
    rintro _ hq ⟨ehq, rfl⟩
    rw [ehq]
    clear ehq hq
    refine g_icmp_lt rfl (fun c9 => ?_) (fun c9 => ?_)
    · skip
      refine g_aload_n rfl rfl ?_
      refine g_iload_n rfl rfl ?_
      refine g_callVI [aI k] [] rfl rfl rfl rfl (Nat.le_of_ble_eq_true rfl) (by rw [hx]) (w_at (by omega) hx k (by omega)) ?_
      rintro _ hq ⟨ehq, rfl⟩
      rw [ehq]
      clear ehq hq
      refine g_cret rfl (by omega) ?_
      refine ⟨rfl, ?_⟩
      unfold chAt
      first
        | rw [if_neg (by omega)]
        | rw [if_pos (by omega)]
    · skip
      refine g_bipush rfl ?_
      refine g_goto rfl ?_
      refine g_cret rfl (by omega) ?_
      refine ⟨rfl, ?_⟩
      unfold chAt
      first
        | rw [if_neg (by omega)]
        | rw [if_pos (by omega)]
theorem x_isA {w : aW} {d : Nat} (hd : 3 ≤ d) {h : aH} {c : Nat} (ci : CI h c) {S : aS} (xt : XT h c S) (ok : OkT S) (xn : XN (hV h) c S) (okn : OkN S) (ch t : Int) : WP w d 226 [aO (some c), aI ch, aI t] h (RI (fun r h1 => h1 = h ∧ r = if isAS S ch t then 1 else 0)) := by
  obtain ⟨d, rfl⟩ : ∃ d1, d = d1 + 1 := ⟨d - 1, by omega⟩
  refine WP.enter (cd := cd_X11_isA) rfl ?_
  have G0 := Gr.refl ci
  have hst : 0 ≤ t → t < sT S → (sTs S t.toNat = 0 ∨ sTs S t.toNat = 1 ∨ sTs S t.toNat = 2) := fun q1 q2 => (ok.2 t.toNat (by omega)).1
  obtain ⟨z, hz0⟩ : ∃ z, z = sTs S t.toNat := ⟨_, rfl⟩
  rw [← hz0] at hst
  have hls : largs 0 [aO (some c), aI ch, aI t] = [(0, aO (some c)), (1, aI ch), (2, aI t)] := rfl
  rw [hls]
  clear hls
  refine g_iload_n rfl rfl ?_
  refine g_bipush rfl ?_
  refine g_icmp_ne rfl (fun c3 => ?_) (fun c3 => ?_)
  · skip
    refine g_iload_n rfl rfl ?_
    refine g_bipush rfl ?_
    refine g_icmp_ne rfl (fun c18 => ?_) (fun c18 => ?_)
    · skip
      refine g_iload_n rfl rfl ?_
      refine g_bipush rfl ?_
      refine g_icmp_ne rfl (fun c41 => ?_) (fun c41 => ?_)
      · skip
        refine g_iload_n rfl rfl ?_
        refine g_bipush rfl ?_
        refine g_icmp_ne rfl (fun c65 => ?_) (fun c65 => ?_)
        · skip
          refine g_iload_n rfl rfl ?_
          refine g_bipush rfl ?_
          refine g_icmp_ne rfl (fun c89 => ?_) (fun c89 => ?_)
          · skip
            refine g_iload_n rfl rfl ?_
            refine g_bipush rfl ?_
            refine g_icmp_ne rfl (fun c112 => ?_) (fun c112 => ?_)
            · skip
              refine g_iconst rfl ?_
              refine g_zret rfl (by first | omega | (split <;> omega)) ?_
              refine ⟨rfl, ?_⟩
              unfold isAS
              rw [← hz0] at *
              first
                | rw [if_pos (by omega)]
                | rw [if_neg (by omega)]
                | (by_cases q : 0 ≤ t ∧ t < sN S
                   · rw [if_pos q, if_pos (by omega)]
                   · rw [if_neg q, if_neg (by omega)])
            · skip
              refine g_iconst rfl ?_
              refine g_goto rfl ?_
              refine g_zret rfl (by first | omega | (split <;> omega)) ?_
              refine ⟨rfl, ?_⟩
              unfold isAS
              rw [← hz0] at *
              first
                | rw [if_pos (by omega)]
                | rw [if_neg (by omega)]
                | (by_cases q : 0 ≤ t ∧ t < sN S
                   · rw [if_pos q, if_pos (by omega)]
                   · rw [if_neg q, if_neg (by omega)])
          · skip
            refine g_aload_n rfl rfl ?_
            refine g_getR rfl (G0.cs.kd 0 (by omega) rfl) (G0.cs.rf 11 (by omega) rfl) ?_
            refine g_iload_n rfl rfl ?_
            refine g_callVI [aI t] [] rfl rfl rfl rfl (Nat.le_of_ble_eq_true rfl) (G0.cs.kd 7 (by omega) rfl) (t_sortOf (by omega) ci xt ok t) ?_
            rintro _ hq ⟨ehq, rfl⟩
            rw [ehq]
            clear ehq hq
            refine g_if_lt rfl (fun c100 => ?_) (fun c100 => ?_)
            · skip
              refine g_iconst rfl ?_
              refine g_zret rfl (by first | omega | (split <;> omega)) ?_
              refine ⟨rfl, ?_⟩
              unfold isAS
              rw [← hz0] at *
              first
                | rw [if_pos (by omega)]
                | rw [if_neg (by omega)]
                | (by_cases q : 0 ≤ t ∧ t < sN S
                   · rw [if_pos q, if_pos (by omega)]
                   · rw [if_neg q, if_neg (by omega)])
            · skip
              refine g_iconst rfl ?_
              refine g_goto rfl ?_
              refine g_zret rfl (by first | omega | (split <;> omega)) ?_
              refine ⟨rfl, ?_⟩
              unfold isAS
              rw [← hz0] at *
              first
                | rw [if_pos (by omega)]
                | rw [if_neg (by omega)]
                | (by_cases q : 0 ≤ t ∧ t < sN S
                   · rw [if_pos q, if_pos (by omega)]
                   · rw [if_neg q, if_neg (by omega)])
        · skip
          refine g_aload_n rfl rfl ?_
          refine g_getR rfl (G0.cs.kd 0 (by omega) rfl) (G0.cs.rf 11 (by omega) rfl) ?_
          refine g_iload_n rfl rfl ?_
          refine g_callVI [aI t] [] rfl rfl rfl rfl (Nat.le_of_ble_eq_true rfl) (G0.cs.kd 7 (by omega) rfl) (t_sortOf (by omega) ci xt ok t) ?_
          rintro _ hq ⟨ehq, rfl⟩
          rw [ehq]
          clear ehq hq
          refine g_iconst rfl ?_
          refine g_icmp_ne rfl (fun c77 => ?_) (fun c77 => ?_)
          · skip
            refine g_iconst rfl ?_
            refine g_zret rfl (by first | omega | (split <;> omega)) ?_
            refine ⟨rfl, ?_⟩
            unfold isAS
            rw [← hz0] at *
            first
              | rw [if_pos (by omega)]
              | rw [if_neg (by omega)]
              | (by_cases q : 0 ≤ t ∧ t < sN S
                 · rw [if_pos q, if_pos (by omega)]
                 · rw [if_neg q, if_neg (by omega)])
          · skip
            refine g_iconst rfl ?_
            refine g_goto rfl ?_
            refine g_zret rfl (by first | omega | (split <;> omega)) ?_
            refine ⟨rfl, ?_⟩
            unfold isAS
            rw [← hz0] at *
            first
              | rw [if_pos (by omega)]
              | rw [if_neg (by omega)]
              | (by_cases q : 0 ≤ t ∧ t < sN S
                 · rw [if_pos q, if_pos (by omega)]
                 · rw [if_neg q, if_neg (by omega)])
      · skip
        refine g_aload_n rfl rfl ?_
        refine g_getR rfl (G0.cs.kd 0 (by omega) rfl) (G0.cs.rf 11 (by omega) rfl) ?_
        refine g_iload_n rfl rfl ?_
        refine g_callVI [aI t] [] rfl rfl rfl rfl (Nat.le_of_ble_eq_true rfl) (G0.cs.kd 7 (by omega) rfl) (t_sortOf (by omega) ci xt ok t) ?_
        rintro _ hq ⟨ehq, rfl⟩
        rw [ehq]
        clear ehq hq
        refine g_iconst rfl ?_
        refine g_icmp_ne rfl (fun c53 => ?_) (fun c53 => ?_)
        · skip
          refine g_iconst rfl ?_
          refine g_zret rfl (by first | omega | (split <;> omega)) ?_
          refine ⟨rfl, ?_⟩
          unfold isAS
          rw [← hz0] at *
          first
            | rw [if_pos (by omega)]
            | rw [if_neg (by omega)]
            | (by_cases q : 0 ≤ t ∧ t < sN S
               · rw [if_pos q, if_pos (by omega)]
               · rw [if_neg q, if_neg (by omega)])
        · skip
          refine g_iconst rfl ?_
          refine g_goto rfl ?_
          refine g_zret rfl (by first | omega | (split <;> omega)) ?_
          refine ⟨rfl, ?_⟩
          unfold isAS
          rw [← hz0] at *
          first
            | rw [if_pos (by omega)]
            | rw [if_neg (by omega)]
            | (by_cases q : 0 ≤ t ∧ t < sN S
               · rw [if_pos q, if_pos (by omega)]
               · rw [if_neg q, if_neg (by omega)])
    · skip
      refine g_aload_n rfl rfl ?_
      refine g_getR rfl (G0.cs.kd 0 (by omega) rfl) (G0.cs.rf 11 (by omega) rfl) ?_
      refine g_iload_n rfl rfl ?_
      refine g_callVI [aI t] [] rfl rfl rfl rfl (Nat.le_of_ble_eq_true rfl) (G0.cs.kd 7 (by omega) rfl) (t_sortOf (by omega) ci xt ok t) ?_
      rintro _ hq ⟨ehq, rfl⟩
      rw [ehq]
      clear ehq hq
      refine g_if_ne rfl (fun c29 => ?_) (fun c29 => ?_)
      · skip
        refine g_iconst rfl ?_
        refine g_zret rfl (by first | omega | (split <;> omega)) ?_
        refine ⟨rfl, ?_⟩
        unfold isAS
        rw [← hz0] at *
        first
          | rw [if_pos (by omega)]
          | rw [if_neg (by omega)]
          | (by_cases q : 0 ≤ t ∧ t < sN S
             · rw [if_pos q, if_pos (by omega)]
             · rw [if_neg q, if_neg (by omega)])
      · skip
        refine g_iconst rfl ?_
        refine g_goto rfl ?_
        refine g_zret rfl (by first | omega | (split <;> omega)) ?_
        refine ⟨rfl, ?_⟩
        unfold isAS
        rw [← hz0] at *
        first
          | rw [if_pos (by omega)]
          | rw [if_neg (by omega)]
          | (by_cases q : 0 ≤ t ∧ t < sN S
             · rw [if_pos q, if_pos (by omega)]
             · rw [if_neg q, if_neg (by omega)])
  · skip
    refine g_aload_n rfl rfl ?_
    refine g_getR rfl (G0.cs.kd 0 (by omega) rfl) (G0.cs.rf 4 (by omega) rfl) ?_
    refine g_iload_n rfl rfl ?_
    refine g_callVI [aI t] [] rfl rfl rfl rfl (Nat.le_of_ble_eq_true rfl) (G0.cs.kd 3 (by omega) rfl) (x_has (by omega) ci.cs (hV h) (sN S) xn.1 okn.1 t) ?_
    rintro _ hq ⟨ehq, rfl⟩
    rw [ehq]
    clear ehq hq
    refine g_hp (h2 := h) rfl ?_
    refine g_zret rfl (by first | omega | (split <;> omega)) ?_
    refine ⟨rfl, ?_⟩
    unfold isAS
    rw [← hz0] at *
    first
      | rw [if_pos (by omega)]
      | rw [if_neg (by omega)]
      | (by_cases q : 0 ≤ t ∧ t < sN S
         · rw [if_pos q, if_pos (by omega)]
         · rw [if_neg q, if_neg (by omega)])
