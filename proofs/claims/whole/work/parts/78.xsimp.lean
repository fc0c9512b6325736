/-! the class's simplest fraction: printed by wip/whole/s78.py -/
def SmX (k : Nat) (R : Nat × Nat) (dn xa xb xc xf xp xq u1 u2 : Int) : Prop := (dn = 0 ∧ ∃ a b u f p0 q0 p1 q1 : Nat, xa = a ∧ xb = b ∧ xc = u ∧ xf = f ∧ xp = p0 ∧ xq = q0 ∧ u1 = p1 ∧ u2 = q1 ∧ SmI a b u f p0 q0 p1 q1 ∧ SmT k a b u f ∧ smW a b u f p0 q0 p1 q1 = R) ∨ (dn = 1 ∧ u1 = R.1 ∧ u2 = R.2)
theorem SmX.a {k : Nat} {R : Nat × Nat} {a b u f p0 q0 p1 q1 : Nat} {xa xb xc xf xp xq : Int} (i : SmI a b u f p0 q0 p1 q1) (e : smW a b u f p0 q0 p1 q1 = R) {t : Nat} (ht : t = a / b) (h : t * b = a) : SmX k R 1 xa xb xc xf xp xq ((t * p1 + p0 : Nat) : Int) ((t * q1 + q0 : Nat) : Int) := by
  subst ht
  rw [smW, dif_pos (Or.inr (Or.inr (Or.inl h))), if_pos h] at e
  rw [← e]
  exact Or.inr ⟨rfl, rfl, rfl⟩
theorem SmX.b {k : Nat} {R : Nat × Nat} {a b u f p0 q0 p1 q1 : Nat} {xa xb xc xf xp xq : Int} (i : SmI a b u f p0 q0 p1 q1) (e : smW a b u f p0 q0 p1 q1 = R) {t : Nat} (ht : t = a / b) (h : ¬ t * b = a) (h2 : (t + 1) * f ≤ u) : SmX k R 1 xa xb xc xf xp xq (((t + 1) * p1 + p0 : Nat) : Int) (((t + 1) * q1 + q0 : Nat) : Int) := by
  subst ht
  rw [smW, dif_pos (Or.inr (Or.inr (Or.inr h2))), if_neg h] at e
  rw [← e]
  exact Or.inr ⟨rfl, rfl, rfl⟩
theorem SmX.c {k : Nat} {R : Nat × Nat} {a b u f p0 q0 p1 q1 : Nat} (i : SmI a b u f p0 q0 p1 q1) (s : SmT k a b u f) (e : smW a b u f p0 q0 p1 q1 = R) {t : Nat} (ht : t = a / b) (h : ¬ t * b = a) (h2 : ¬ (t + 1) * f ≤ u) : SmX (k + 1) R 0 (f : Int) ((u - t * f : Nat) : Int) (b : Int) ((a - t * b : Nat) : Int) (p1 : Int) (q1 : Int) ((t * p1 + p0 : Nat) : Int) ((t * q1 + q0 : Nat) : Int) := by
  subst ht
  have hb := i.hb
  have hf := i.hf
  rw [smW, dif_neg (by rintro (q | q | q | q); · omega
                       · omega
                       · exact h q
                       · exact h2 q)] at e
  exact Or.inl ⟨rfl, _, _, _, _, _, _, _, _, rfl, rfl, rfl, rfl, rfl, rfl, rfl, rfl, i.next h h2, SmT.next i s h2, e⟩
theorem c_wholeN {w : aW} {d : Nat} (hd : 2 ≤ d) (x y : Nat) (hx : x < 9223372036854775808) (hy : y < 9223372036854775808) (h : aH) : WP w d 30 [aJ (x : Int), aJ (y : Int)] h (RJ (fun v h1 => h1 = h ∧ v = ((x / y : Nat) : Int))) := c_wholeBelow hd (x : Int) (y : Int) (by omega) (by omega) h
theorem div_lt {t u f : Nat} (hf : 0 < f) : t < u / f ↔ (t + 1) * f ≤ u := by
  rw [← Nat.le_div_iff_mul_le hf]
  omega
set_option maxRecDepth 100000 in
theorem x_simplest {w : aW} {d : Nat} (hd : 3 ≤ d) {h : aH} {c : Nat} (cs : CS h c) (V : Nat → Nat → Int)  (n dd m e : Nat) (iS : SmI n dd m e 0 1 1 0) : WP w d 34 [aO (some (c + 3)), aJ ((n : Int)), aJ ((dd : Int)), aJ ((m : Int)), aJ ((e : Int))] (hw h V) (RN (fun h1 => ∃ V1, h1 = hw h V1 ∧ (∀ a i, ¬(a = c + 3 ∧ (i = 3 ∨ i = 4)) → V1 a i = V a i) ∧ V1 (c + 3) 3 = ((smW n dd m e 0 1 1 0).1 : Int) ∧ V1 (c + 3) 4 = ((smW n dd m e 0 1 1 0).2 : Int))) := by
  obtain ⟨d, rfl⟩ : ∃ d1, d = d1 + 1 := ⟨d - 1, by omega⟩
  refine WP.enter (cd := cd_X1_simplest) rfl ?_
  have hls : largs 0 [aO (some (c + 3)), aJ ((n : Int)), aJ ((dd : Int)), aJ ((m : Int)), aJ ((e : Int))] = [(0, aO (some (c + 3))), (1, aJ ((n : Int))), (3, aJ ((dd : Int))), (5, aJ ((m : Int))), (7, aJ ((e : Int)))] := rfl
  rw [hls]
  clear hls
  have l36 : ∀ (fuel : Nat) (k : Nat) (dn xa xb xc xf xp xq : Int) (V1 : Nat → Nat → Int), (k ≤ 64) → (∀ a i, ¬(a = c + 3 ∧ (i = 3 ∨ i = 4)) → V1 a i = V a i) → (SmX k (smW n dd m e 0 1 1 0) dn xa xb xc xf xp xq (V1 (c + 3) 3) (V1 (c + 3) 4)) → 64 - k < fuel → Wk w d cd_X1_simplest 36 [(22, aI ((k : Int))), (21, aI dn), (9, aJ xa), (11, aJ xb), (13, aJ xc), (15, aJ xf), (17, aJ xp), (19, aJ xq), (0, aO (some (c + 3))), (1, aJ ((n : Int))), (3, aJ ((dd : Int))), (5, aJ ((m : Int))), (7, aJ ((e : Int)))] [] (hw h V1) (RN (fun h1 => ∃ V1, h1 = hw h V1 ∧ (∀ a i, ¬(a = c + 3 ∧ (i = 3 ∨ i = 4)) → V1 a i = V a i) ∧ V1 (c + 3) 3 = ((smW n dd m e 0 1 1 0).1 : Int) ∧ V1 (c + 3) 4 = ((smW n dd m e 0 1 1 0).2 : Int))) := by
    intro fuel
    induction fuel with
    | zero => intros; omega
    | succ fuel ih36 =>
      intro k dn xa xb xc xf xp xq V1 hk hF hX hfuel
      refine g_iload rfl rfl ?_
      refine g_bipush rfl ?_
      refine g_icmp_ge rfl (fun c40 => ?_) (fun c40 => ?_)
      · skip
        refine g_vret rfl ?_
        rcases hX with ⟨hdn, a, b, u, f, p0, q0, p1, q1, -, -, -, -, -, -, -, -, iI, iT, iE⟩ | ⟨hdn, h3, h4⟩
        · have gk := SmT.lt iI iT
          omega
        · exact ⟨V1, rfl, hF, h3, h4⟩
      · skip
        refine g_iload rfl rfl ?_
        refine g_if_ne rfl (fun c45 => ?_) (fun c45 => ?_)
        · skip
          refine g_vret rfl ?_
          rcases hX with ⟨hdn, a, b, u, f, p0, q0, p1, q1, -, -, -, -, -, -, -, -, iI, iT, iE⟩ | ⟨hdn, h3, h4⟩
          · have gk := SmT.lt iI iT
            omega
          · exact ⟨V1, rfl, hF, h3, h4⟩
        · skip
          rcases hX with ⟨hdn, a, b, u, f, p0, q0, p1, q1, rfl, rfl, rfl, rfl, rfl, rfl, hp1, hq1, iI, iT, iE⟩ | ⟨hdn, -⟩
          rotate_left
          · omega
          subst hdn
          have g1 := iI.hb
          have g2 := iI.hf
          have g3 := iI.ha
          have g4 := iI.hb2
          have g5 := iI.hc
          have g6 := iI.hf2
          have gk := SmT.lt iI iT
          refine g_lload rfl rfl ?_
          refine g_lload rfl rfl ?_
          refine g_callSJ [aJ ((a : Int)), aJ ((b : Int))] [] rfl rfl rfl rfl (Nat.le_of_ble_eq_true rfl) (c_wholeN (by omega) a b (by omega) (by omega) _) ?_
          rintro _ _ ⟨rfl, rfl⟩
          have hs := sm_div (a := a) iI.hb
          have htw := iI.tw
          have htf := iI.tf
          have htu := iI.tu
          have hdl := div_lt (t := a / b) (u := u) iI.hf
          obtain ⟨t, ht⟩ : ∃ t, t = a / b := ⟨_, rfl⟩
          rw [← ht] at hs htw htf htu hdl ⊢
          have mB : t * f ≤ 1073741824 := by omega
          have tB : t ≤ t * b := Nat.le_mul_of_pos_right t iI.hb
          refine g_lstore (l1 := [(23, aJ ((t : Int))), (22, aI ((k : Int))), (21, aI 0), (9, aJ ((a : Int))), (11, aJ ((b : Int))), (13, aJ ((u : Int))), (15, aJ ((f : Int))), (17, aJ ((p0 : Int))), (19, aJ ((q0 : Int))), (0, aO (some (c + 3))), (1, aJ ((n : Int))), (3, aJ ((dd : Int))), (5, aJ ((m : Int))), (7, aJ ((e : Int)))]) rfl rfl ?_
          refine g_lload rfl rfl ?_
          refine g_lload rfl rfl ?_
          refine g_lmul rfl (by omega) (by omega) ?_
          refine g_lload rfl rfl ?_
          refine g_lc_ne rfl rfl (fun c64 => ?_) (fun c64 => ?_)
          · skip
            refine g_iconst rfl ?_
            refine g_istore (l1 := [(25, aI 0), (23, aJ ((t : Int))), (22, aI ((k : Int))), (21, aI 0), (9, aJ ((a : Int))), (11, aJ ((b : Int))), (13, aJ ((u : Int))), (15, aJ ((f : Int))), (17, aJ ((p0 : Int))), (19, aJ ((q0 : Int))), (0, aO (some (c + 3))), (1, aJ ((n : Int))), (3, aJ ((dd : Int))), (5, aJ ((m : Int))), (7, aJ ((e : Int)))]) rfl rfl ?_
            refine g_iload rfl rfl ?_
            refine g_if_ne_f rfl (by omega) ?_
            refine g_lload rfl rfl ?_
            refine g_lload rfl rfl ?_
            refine g_callSJ [aJ ((u : Int)), aJ ((f : Int))] [] rfl rfl rfl rfl (Nat.le_of_ble_eq_true rfl) (c_wholeN (by omega) u f (by omega) (by omega) _) ?_
            rintro _ _ ⟨rfl, rfl⟩
            refine g_lload rfl rfl ?_
            refine g_lc_le rfl rfl (fun c89 => ?_) (fun c89 => ?_)
            · skip
              refine g_iconst rfl ?_
              refine g_istore (l1 := [(21, aI 0), (25, aI 0), (23, aJ ((t : Int))), (22, aI ((k : Int))), (9, aJ ((a : Int))), (11, aJ ((b : Int))), (13, aJ ((u : Int))), (15, aJ ((f : Int))), (17, aJ ((p0 : Int))), (19, aJ ((q0 : Int))), (0, aO (some (c + 3))), (1, aJ ((n : Int))), (3, aJ ((dd : Int))), (5, aJ ((m : Int))), (7, aJ ((e : Int)))]) rfl rfl ?_
              refine g_iload rfl rfl ?_
              refine g_if_eq_t rfl (by omega) ?_
              refine g_lload rfl rfl ?_
              have htv := htu
              refine g_top (v2 := aJ ((t : Int))) (congrArg aJ (by first | rfl | omega)) ?_
              refine g_lstore (l1 := [(26, aJ ((t : Int))), (21, aI 0), (25, aI 0), (23, aJ ((t : Int))), (22, aI ((k : Int))), (9, aJ ((a : Int))), (11, aJ ((b : Int))), (13, aJ ((u : Int))), (15, aJ ((f : Int))), (17, aJ ((p0 : Int))), (19, aJ ((q0 : Int))), (0, aO (some (c + 3))), (1, aJ ((n : Int))), (3, aJ ((dd : Int))), (5, aJ ((m : Int))), (7, aJ ((e : Int)))]) rfl rfl ?_
              refine g_lload rfl rfl ?_
              refine g_aload_n rfl rfl ?_
              refine g_getJ rfl (cs.kd 3 (by omega) rfl) ?_
              refine g_top (v2 := aJ ((p1 : Int))) (congrArg aJ (by show V1 (c + 3) 3 = ((p1 : Int)); rw [hp1])) ?_
              refine g_lmul rfl (by omega) (by omega) ?_
              refine g_lload rfl rfl ?_
              refine g_ladd rfl (by omega) (by omega) ?_
              refine g_top (v2 := aJ ((((t : Int)) * ((p1 : Int))) + ((p0 : Int)))) (congrArg aJ (by first | omega | (unfold w64; omega) | (unfold w32; omega))) ?_
              refine g_lstore (l1 := [(28, aJ ((((t : Int)) * ((p1 : Int))) + ((p0 : Int)))), (26, aJ ((t : Int))), (21, aI 0), (25, aI 0), (23, aJ ((t : Int))), (22, aI ((k : Int))), (9, aJ ((a : Int))), (11, aJ ((b : Int))), (13, aJ ((u : Int))), (15, aJ ((f : Int))), (17, aJ ((p0 : Int))), (19, aJ ((q0 : Int))), (0, aO (some (c + 3))), (1, aJ ((n : Int))), (3, aJ ((dd : Int))), (5, aJ ((m : Int))), (7, aJ ((e : Int)))]) rfl rfl ?_
              refine g_lload rfl rfl ?_
              refine g_aload_n rfl rfl ?_
              refine g_getJ rfl (cs.kd 3 (by omega) rfl) ?_
              refine g_top (v2 := aJ ((q1 : Int))) (congrArg aJ (by show V1 (c + 3) 4 = ((q1 : Int)); rw [hq1])) ?_
              refine g_lmul rfl (by omega) (by omega) ?_
              refine g_lload rfl rfl ?_
              refine g_ladd rfl (by omega) (by omega) ?_
              refine g_lstore (l1 := [(30, aJ ((((t : Int)) * ((q1 : Int))) + ((q0 : Int)))), (28, aJ ((((t : Int)) * ((p1 : Int))) + ((p0 : Int)))), (26, aJ ((t : Int))), (21, aI 0), (25, aI 0), (23, aJ ((t : Int))), (22, aI ((k : Int))), (9, aJ ((a : Int))), (11, aJ ((b : Int))), (13, aJ ((u : Int))), (15, aJ ((f : Int))), (17, aJ ((p0 : Int))), (19, aJ ((q0 : Int))), (0, aO (some (c + 3))), (1, aJ ((n : Int))), (3, aJ ((dd : Int))), (5, aJ ((m : Int))), (7, aJ ((e : Int)))]) rfl rfl ?_
              refine g_aload_n rfl rfl ?_
              refine g_getJ rfl (cs.kd 3 (by omega) rfl) ?_
              refine g_top (v2 := aJ ((p1 : Int))) (congrArg aJ (by show V1 (c + 3) 3 = ((p1 : Int)); rw [hp1])) ?_
              refine g_lstore (l1 := [(17, aJ ((p1 : Int))), (30, aJ ((((t : Int)) * ((q1 : Int))) + ((q0 : Int)))), (28, aJ ((((t : Int)) * ((p1 : Int))) + ((p0 : Int)))), (26, aJ ((t : Int))), (21, aI 0), (25, aI 0), (23, aJ ((t : Int))), (22, aI ((k : Int))), (9, aJ ((a : Int))), (11, aJ ((b : Int))), (13, aJ ((u : Int))), (15, aJ ((f : Int))), (19, aJ ((q0 : Int))), (0, aO (some (c + 3))), (1, aJ ((n : Int))), (3, aJ ((dd : Int))), (5, aJ ((m : Int))), (7, aJ ((e : Int)))]) rfl rfl ?_
              refine g_aload_n rfl rfl ?_
              refine g_getJ rfl (cs.kd 3 (by omega) rfl) ?_
              refine g_top (v2 := aJ ((q1 : Int))) (congrArg aJ (by show V1 (c + 3) 4 = ((q1 : Int)); rw [hq1])) ?_
              refine g_lstore (l1 := [(19, aJ ((q1 : Int))), (17, aJ ((p1 : Int))), (30, aJ ((((t : Int)) * ((q1 : Int))) + ((q0 : Int)))), (28, aJ ((((t : Int)) * ((p1 : Int))) + ((p0 : Int)))), (26, aJ ((t : Int))), (21, aI 0), (25, aI 0), (23, aJ ((t : Int))), (22, aI ((k : Int))), (9, aJ ((a : Int))), (11, aJ ((b : Int))), (13, aJ ((u : Int))), (15, aJ ((f : Int))), (0, aO (some (c + 3))), (1, aJ ((n : Int))), (3, aJ ((dd : Int))), (5, aJ ((m : Int))), (7, aJ ((e : Int)))]) rfl rfl ?_
              refine g_aload_n rfl rfl ?_
              refine g_lload rfl rfl ?_
              refine g_putJ rfl (cs.kd 3 (by omega) rfl) ?_
              refine g_aload_n rfl rfl ?_
              refine g_lload rfl rfl ?_
              refine g_putJ rfl (cs.kd 3 (by omega) rfl) ?_
              refine g_lload rfl rfl ?_
              refine g_lload rfl rfl ?_
              refine g_lload rfl rfl ?_
              refine g_lmul rfl (by omega) (by omega) ?_
              refine g_lsub rfl (by omega) (by omega) ?_
              refine g_top (v2 := aJ (((a - t * b : Nat) : Int))) (congrArg aJ (by omega)) ?_
              refine g_lstore (l1 := [(32, aJ (((a - t * b : Nat) : Int))), (19, aJ ((q1 : Int))), (17, aJ ((p1 : Int))), (30, aJ ((((t : Int)) * ((q1 : Int))) + ((q0 : Int)))), (28, aJ ((((t : Int)) * ((p1 : Int))) + ((p0 : Int)))), (26, aJ ((t : Int))), (21, aI 0), (25, aI 0), (23, aJ ((t : Int))), (22, aI ((k : Int))), (9, aJ ((a : Int))), (11, aJ ((b : Int))), (13, aJ ((u : Int))), (15, aJ ((f : Int))), (0, aO (some (c + 3))), (1, aJ ((n : Int))), (3, aJ ((dd : Int))), (5, aJ ((m : Int))), (7, aJ ((e : Int)))]) rfl rfl ?_
              refine g_lload rfl rfl ?_
              refine g_lload rfl rfl ?_
              refine g_lload rfl rfl ?_
              refine g_lmul rfl (by omega) (by omega) ?_
              refine g_lsub rfl (by omega) (by omega) ?_
              refine g_top (v2 := aJ (((u - t * f : Nat) : Int))) (congrArg aJ (by omega)) ?_
              refine g_lstore (l1 := [(34, aJ (((u - t * f : Nat) : Int))), (32, aJ (((a - t * b : Nat) : Int))), (19, aJ ((q1 : Int))), (17, aJ ((p1 : Int))), (30, aJ ((((t : Int)) * ((q1 : Int))) + ((q0 : Int)))), (28, aJ ((((t : Int)) * ((p1 : Int))) + ((p0 : Int)))), (26, aJ ((t : Int))), (21, aI 0), (25, aI 0), (23, aJ ((t : Int))), (22, aI ((k : Int))), (9, aJ ((a : Int))), (11, aJ ((b : Int))), (13, aJ ((u : Int))), (15, aJ ((f : Int))), (0, aO (some (c + 3))), (1, aJ ((n : Int))), (3, aJ ((dd : Int))), (5, aJ ((m : Int))), (7, aJ ((e : Int)))]) rfl rfl ?_
              refine g_lload rfl rfl ?_
              refine g_lstore (l1 := [(9, aJ ((f : Int))), (34, aJ (((u - t * f : Nat) : Int))), (32, aJ (((a - t * b : Nat) : Int))), (19, aJ ((q1 : Int))), (17, aJ ((p1 : Int))), (30, aJ ((((t : Int)) * ((q1 : Int))) + ((q0 : Int)))), (28, aJ ((((t : Int)) * ((p1 : Int))) + ((p0 : Int)))), (26, aJ ((t : Int))), (21, aI 0), (25, aI 0), (23, aJ ((t : Int))), (22, aI ((k : Int))), (11, aJ ((b : Int))), (13, aJ ((u : Int))), (15, aJ ((f : Int))), (0, aO (some (c + 3))), (1, aJ ((n : Int))), (3, aJ ((dd : Int))), (5, aJ ((m : Int))), (7, aJ ((e : Int)))]) rfl rfl ?_
              refine g_lload rfl rfl ?_
              refine g_lstore (l1 := [(13, aJ ((b : Int))), (9, aJ ((f : Int))), (34, aJ (((u - t * f : Nat) : Int))), (32, aJ (((a - t * b : Nat) : Int))), (19, aJ ((q1 : Int))), (17, aJ ((p1 : Int))), (30, aJ ((((t : Int)) * ((q1 : Int))) + ((q0 : Int)))), (28, aJ ((((t : Int)) * ((p1 : Int))) + ((p0 : Int)))), (26, aJ ((t : Int))), (21, aI 0), (25, aI 0), (23, aJ ((t : Int))), (22, aI ((k : Int))), (11, aJ ((b : Int))), (15, aJ ((f : Int))), (0, aO (some (c + 3))), (1, aJ ((n : Int))), (3, aJ ((dd : Int))), (5, aJ ((m : Int))), (7, aJ ((e : Int)))]) rfl rfl ?_
              refine g_lload rfl rfl ?_
              refine g_lstore (l1 := [(11, aJ (((u - t * f : Nat) : Int))), (13, aJ ((b : Int))), (9, aJ ((f : Int))), (34, aJ (((u - t * f : Nat) : Int))), (32, aJ (((a - t * b : Nat) : Int))), (19, aJ ((q1 : Int))), (17, aJ ((p1 : Int))), (30, aJ ((((t : Int)) * ((q1 : Int))) + ((q0 : Int)))), (28, aJ ((((t : Int)) * ((p1 : Int))) + ((p0 : Int)))), (26, aJ ((t : Int))), (21, aI 0), (25, aI 0), (23, aJ ((t : Int))), (22, aI ((k : Int))), (15, aJ ((f : Int))), (0, aO (some (c + 3))), (1, aJ ((n : Int))), (3, aJ ((dd : Int))), (5, aJ ((m : Int))), (7, aJ ((e : Int)))]) rfl rfl ?_
              refine g_lload rfl rfl ?_
              refine g_lstore (l1 := [(15, aJ (((a - t * b : Nat) : Int))), (11, aJ (((u - t * f : Nat) : Int))), (13, aJ ((b : Int))), (9, aJ ((f : Int))), (34, aJ (((u - t * f : Nat) : Int))), (32, aJ (((a - t * b : Nat) : Int))), (19, aJ ((q1 : Int))), (17, aJ ((p1 : Int))), (30, aJ ((((t : Int)) * ((q1 : Int))) + ((q0 : Int)))), (28, aJ ((((t : Int)) * ((p1 : Int))) + ((p0 : Int)))), (26, aJ ((t : Int))), (21, aI 0), (25, aI 0), (23, aJ ((t : Int))), (22, aI ((k : Int))), (0, aO (some (c + 3))), (1, aJ ((n : Int))), (3, aJ ((dd : Int))), (5, aJ ((m : Int))), (7, aJ ((e : Int)))]) rfl rfl ?_
              refine g_iinc (l1 := [(22, aI ((k : Int) + 1)), (15, aJ (((a - t * b : Nat) : Int))), (11, aJ (((u - t * f : Nat) : Int))), (13, aJ ((b : Int))), (9, aJ ((f : Int))), (34, aJ (((u - t * f : Nat) : Int))), (32, aJ (((a - t * b : Nat) : Int))), (19, aJ ((q1 : Int))), (17, aJ ((p1 : Int))), (30, aJ ((((t : Int)) * ((q1 : Int))) + ((q0 : Int)))), (28, aJ ((((t : Int)) * ((p1 : Int))) + ((p0 : Int)))), (26, aJ ((t : Int))), (21, aI 0), (25, aI 0), (23, aJ ((t : Int))), (0, aO (some (c + 3))), (1, aJ ((n : Int))), (3, aJ ((dd : Int))), (5, aJ ((m : Int))), (7, aJ ((e : Int)))]) rfl rfl (by omega) (by omega) rfl ?_
              refine g_goto rfl ?_
              refine g_ls [0, 12, 4, 2, 3, 1, 8, 7, 15, 16, 17, 18, 19] rfl rfl ?_
              exact ih36 (k + 1) _ _ _ _ _ _ _ _ (by omega) (by intro a i hne; have n3 : ¬(a = c + 3 ∧ i = 3) := fun q => hne ⟨q.1, Or.inl q.2⟩; have n4 : ¬(a = c + 3 ∧ i = 4) := fun q => hne ⟨q.1, Or.inr q.2⟩; show vset (vset V1 (c + 3) 3 _) (c + 3) 4 _ a i = _; rw [vset_ne _ _ _ _ n4, vset_ne _ _ _ _ n3, hF a i hne]) (by show SmX _ _ _ _ _ _ _ _ _ (vset (vset V1 (c + 3) 3 _) (c + 3) 4 _ (c + 3) 3) (vset (vset V1 (c + 3) 3 _) (c + 3) 4 _ (c + 3) 4); rw [vset_eq, vset_ne _ _ _ _ (by omega), vset_eq]; first | exact SmX.a iI iE ht (by omega) | exact SmX.b iI iE ht (by omega) (hdl.mp (by omega)) | exact SmX.c iI iT iE ht (by omega) (fun u => absurd (hdl.mpr u) (by omega))) (by omega)
            · skip
              refine g_iconst rfl ?_
              refine g_goto rfl ?_
              refine g_istore (l1 := [(21, aI 1), (25, aI 0), (23, aJ ((t : Int))), (22, aI ((k : Int))), (9, aJ ((a : Int))), (11, aJ ((b : Int))), (13, aJ ((u : Int))), (15, aJ ((f : Int))), (17, aJ ((p0 : Int))), (19, aJ ((q0 : Int))), (0, aO (some (c + 3))), (1, aJ ((n : Int))), (3, aJ ((dd : Int))), (5, aJ ((m : Int))), (7, aJ ((e : Int)))]) rfl rfl ?_
              refine g_iload rfl rfl ?_
              refine g_if_eq_f rfl (by omega) ?_
              refine g_iload rfl rfl ?_
              refine g_if_ne_f rfl (by omega) ?_
              refine g_lload rfl rfl ?_
              refine g_lconst1 rfl ?_
              refine g_ladd rfl (by omega) (by omega) ?_
              refine g_goto rfl ?_
              have htv := htu
              refine g_top (v2 := aJ (((t + 1 : Nat) : Int))) (congrArg aJ (by first | rfl | omega)) ?_
              refine g_lstore (l1 := [(26, aJ (((t + 1 : Nat) : Int))), (21, aI 1), (25, aI 0), (23, aJ ((t : Int))), (22, aI ((k : Int))), (9, aJ ((a : Int))), (11, aJ ((b : Int))), (13, aJ ((u : Int))), (15, aJ ((f : Int))), (17, aJ ((p0 : Int))), (19, aJ ((q0 : Int))), (0, aO (some (c + 3))), (1, aJ ((n : Int))), (3, aJ ((dd : Int))), (5, aJ ((m : Int))), (7, aJ ((e : Int)))]) rfl rfl ?_
              refine g_lload rfl rfl ?_
              refine g_aload_n rfl rfl ?_
              refine g_getJ rfl (cs.kd 3 (by omega) rfl) ?_
              refine g_top (v2 := aJ ((p1 : Int))) (congrArg aJ (by show V1 (c + 3) 3 = ((p1 : Int)); rw [hp1])) ?_
              refine g_lmul rfl (by omega) (by omega) ?_
              refine g_lload rfl rfl ?_
              refine g_ladd rfl (by omega) (by omega) ?_
              refine g_top (v2 := aJ (((((t + 1 : Nat) : Int)) * ((p1 : Int))) + ((p0 : Int)))) (congrArg aJ (by first | omega | (unfold w64; omega) | (unfold w32; omega))) ?_
              refine g_lstore (l1 := [(28, aJ (((((t + 1 : Nat) : Int)) * ((p1 : Int))) + ((p0 : Int)))), (26, aJ (((t + 1 : Nat) : Int))), (21, aI 1), (25, aI 0), (23, aJ ((t : Int))), (22, aI ((k : Int))), (9, aJ ((a : Int))), (11, aJ ((b : Int))), (13, aJ ((u : Int))), (15, aJ ((f : Int))), (17, aJ ((p0 : Int))), (19, aJ ((q0 : Int))), (0, aO (some (c + 3))), (1, aJ ((n : Int))), (3, aJ ((dd : Int))), (5, aJ ((m : Int))), (7, aJ ((e : Int)))]) rfl rfl ?_
              refine g_lload rfl rfl ?_
              refine g_aload_n rfl rfl ?_
              refine g_getJ rfl (cs.kd 3 (by omega) rfl) ?_
              refine g_top (v2 := aJ ((q1 : Int))) (congrArg aJ (by show V1 (c + 3) 4 = ((q1 : Int)); rw [hq1])) ?_
              refine g_lmul rfl (by omega) (by omega) ?_
              refine g_lload rfl rfl ?_
              refine g_ladd rfl (by omega) (by omega) ?_
              refine g_lstore (l1 := [(30, aJ (((((t + 1 : Nat) : Int)) * ((q1 : Int))) + ((q0 : Int)))), (28, aJ (((((t + 1 : Nat) : Int)) * ((p1 : Int))) + ((p0 : Int)))), (26, aJ (((t + 1 : Nat) : Int))), (21, aI 1), (25, aI 0), (23, aJ ((t : Int))), (22, aI ((k : Int))), (9, aJ ((a : Int))), (11, aJ ((b : Int))), (13, aJ ((u : Int))), (15, aJ ((f : Int))), (17, aJ ((p0 : Int))), (19, aJ ((q0 : Int))), (0, aO (some (c + 3))), (1, aJ ((n : Int))), (3, aJ ((dd : Int))), (5, aJ ((m : Int))), (7, aJ ((e : Int)))]) rfl rfl ?_
              refine g_aload_n rfl rfl ?_
              refine g_getJ rfl (cs.kd 3 (by omega) rfl) ?_
              refine g_top (v2 := aJ ((p1 : Int))) (congrArg aJ (by show V1 (c + 3) 3 = ((p1 : Int)); rw [hp1])) ?_
              refine g_lstore (l1 := [(17, aJ ((p1 : Int))), (30, aJ (((((t + 1 : Nat) : Int)) * ((q1 : Int))) + ((q0 : Int)))), (28, aJ (((((t + 1 : Nat) : Int)) * ((p1 : Int))) + ((p0 : Int)))), (26, aJ (((t + 1 : Nat) : Int))), (21, aI 1), (25, aI 0), (23, aJ ((t : Int))), (22, aI ((k : Int))), (9, aJ ((a : Int))), (11, aJ ((b : Int))), (13, aJ ((u : Int))), (15, aJ ((f : Int))), (19, aJ ((q0 : Int))), (0, aO (some (c + 3))), (1, aJ ((n : Int))), (3, aJ ((dd : Int))), (5, aJ ((m : Int))), (7, aJ ((e : Int)))]) rfl rfl ?_
              refine g_aload_n rfl rfl ?_
              refine g_getJ rfl (cs.kd 3 (by omega) rfl) ?_
              refine g_top (v2 := aJ ((q1 : Int))) (congrArg aJ (by show V1 (c + 3) 4 = ((q1 : Int)); rw [hq1])) ?_
              refine g_lstore (l1 := [(19, aJ ((q1 : Int))), (17, aJ ((p1 : Int))), (30, aJ (((((t + 1 : Nat) : Int)) * ((q1 : Int))) + ((q0 : Int)))), (28, aJ (((((t + 1 : Nat) : Int)) * ((p1 : Int))) + ((p0 : Int)))), (26, aJ (((t + 1 : Nat) : Int))), (21, aI 1), (25, aI 0), (23, aJ ((t : Int))), (22, aI ((k : Int))), (9, aJ ((a : Int))), (11, aJ ((b : Int))), (13, aJ ((u : Int))), (15, aJ ((f : Int))), (0, aO (some (c + 3))), (1, aJ ((n : Int))), (3, aJ ((dd : Int))), (5, aJ ((m : Int))), (7, aJ ((e : Int)))]) rfl rfl ?_
              refine g_aload_n rfl rfl ?_
              refine g_lload rfl rfl ?_
              refine g_putJ rfl (cs.kd 3 (by omega) rfl) ?_
              refine g_aload_n rfl rfl ?_
              refine g_lload rfl rfl ?_
              refine g_putJ rfl (cs.kd 3 (by omega) rfl) ?_
              refine g_lload rfl rfl ?_
              refine g_lload rfl rfl ?_
              refine g_lload rfl rfl ?_
              refine g_lmul rfl (by omega) (by omega) ?_
              refine g_lsub rfl (by omega) (by omega) ?_
              refine g_top (v2 := aJ (((a - t * b : Nat) : Int))) (congrArg aJ (by omega)) ?_
              refine g_lstore (l1 := [(32, aJ (((a - t * b : Nat) : Int))), (19, aJ ((q1 : Int))), (17, aJ ((p1 : Int))), (30, aJ (((((t + 1 : Nat) : Int)) * ((q1 : Int))) + ((q0 : Int)))), (28, aJ (((((t + 1 : Nat) : Int)) * ((p1 : Int))) + ((p0 : Int)))), (26, aJ (((t + 1 : Nat) : Int))), (21, aI 1), (25, aI 0), (23, aJ ((t : Int))), (22, aI ((k : Int))), (9, aJ ((a : Int))), (11, aJ ((b : Int))), (13, aJ ((u : Int))), (15, aJ ((f : Int))), (0, aO (some (c + 3))), (1, aJ ((n : Int))), (3, aJ ((dd : Int))), (5, aJ ((m : Int))), (7, aJ ((e : Int)))]) rfl rfl ?_
              refine g_lload rfl rfl ?_
              refine g_lload rfl rfl ?_
              refine g_lload rfl rfl ?_
              refine g_lmul rfl (by omega) (by omega) ?_
              refine g_lsub rfl (by omega) (by omega) ?_
              refine g_top (v2 := aJ (((u - t * f : Nat) : Int))) (congrArg aJ (by omega)) ?_
              refine g_lstore (l1 := [(34, aJ (((u - t * f : Nat) : Int))), (32, aJ (((a - t * b : Nat) : Int))), (19, aJ ((q1 : Int))), (17, aJ ((p1 : Int))), (30, aJ (((((t + 1 : Nat) : Int)) * ((q1 : Int))) + ((q0 : Int)))), (28, aJ (((((t + 1 : Nat) : Int)) * ((p1 : Int))) + ((p0 : Int)))), (26, aJ (((t + 1 : Nat) : Int))), (21, aI 1), (25, aI 0), (23, aJ ((t : Int))), (22, aI ((k : Int))), (9, aJ ((a : Int))), (11, aJ ((b : Int))), (13, aJ ((u : Int))), (15, aJ ((f : Int))), (0, aO (some (c + 3))), (1, aJ ((n : Int))), (3, aJ ((dd : Int))), (5, aJ ((m : Int))), (7, aJ ((e : Int)))]) rfl rfl ?_
              refine g_lload rfl rfl ?_
              refine g_lstore (l1 := [(9, aJ ((f : Int))), (34, aJ (((u - t * f : Nat) : Int))), (32, aJ (((a - t * b : Nat) : Int))), (19, aJ ((q1 : Int))), (17, aJ ((p1 : Int))), (30, aJ (((((t + 1 : Nat) : Int)) * ((q1 : Int))) + ((q0 : Int)))), (28, aJ (((((t + 1 : Nat) : Int)) * ((p1 : Int))) + ((p0 : Int)))), (26, aJ (((t + 1 : Nat) : Int))), (21, aI 1), (25, aI 0), (23, aJ ((t : Int))), (22, aI ((k : Int))), (11, aJ ((b : Int))), (13, aJ ((u : Int))), (15, aJ ((f : Int))), (0, aO (some (c + 3))), (1, aJ ((n : Int))), (3, aJ ((dd : Int))), (5, aJ ((m : Int))), (7, aJ ((e : Int)))]) rfl rfl ?_
              refine g_lload rfl rfl ?_
              refine g_lstore (l1 := [(13, aJ ((b : Int))), (9, aJ ((f : Int))), (34, aJ (((u - t * f : Nat) : Int))), (32, aJ (((a - t * b : Nat) : Int))), (19, aJ ((q1 : Int))), (17, aJ ((p1 : Int))), (30, aJ (((((t + 1 : Nat) : Int)) * ((q1 : Int))) + ((q0 : Int)))), (28, aJ (((((t + 1 : Nat) : Int)) * ((p1 : Int))) + ((p0 : Int)))), (26, aJ (((t + 1 : Nat) : Int))), (21, aI 1), (25, aI 0), (23, aJ ((t : Int))), (22, aI ((k : Int))), (11, aJ ((b : Int))), (15, aJ ((f : Int))), (0, aO (some (c + 3))), (1, aJ ((n : Int))), (3, aJ ((dd : Int))), (5, aJ ((m : Int))), (7, aJ ((e : Int)))]) rfl rfl ?_
              refine g_lload rfl rfl ?_
              refine g_lstore (l1 := [(11, aJ (((u - t * f : Nat) : Int))), (13, aJ ((b : Int))), (9, aJ ((f : Int))), (34, aJ (((u - t * f : Nat) : Int))), (32, aJ (((a - t * b : Nat) : Int))), (19, aJ ((q1 : Int))), (17, aJ ((p1 : Int))), (30, aJ (((((t + 1 : Nat) : Int)) * ((q1 : Int))) + ((q0 : Int)))), (28, aJ (((((t + 1 : Nat) : Int)) * ((p1 : Int))) + ((p0 : Int)))), (26, aJ (((t + 1 : Nat) : Int))), (21, aI 1), (25, aI 0), (23, aJ ((t : Int))), (22, aI ((k : Int))), (15, aJ ((f : Int))), (0, aO (some (c + 3))), (1, aJ ((n : Int))), (3, aJ ((dd : Int))), (5, aJ ((m : Int))), (7, aJ ((e : Int)))]) rfl rfl ?_
              refine g_lload rfl rfl ?_
              refine g_lstore (l1 := [(15, aJ (((a - t * b : Nat) : Int))), (11, aJ (((u - t * f : Nat) : Int))), (13, aJ ((b : Int))), (9, aJ ((f : Int))), (34, aJ (((u - t * f : Nat) : Int))), (32, aJ (((a - t * b : Nat) : Int))), (19, aJ ((q1 : Int))), (17, aJ ((p1 : Int))), (30, aJ (((((t + 1 : Nat) : Int)) * ((q1 : Int))) + ((q0 : Int)))), (28, aJ (((((t + 1 : Nat) : Int)) * ((p1 : Int))) + ((p0 : Int)))), (26, aJ (((t + 1 : Nat) : Int))), (21, aI 1), (25, aI 0), (23, aJ ((t : Int))), (22, aI ((k : Int))), (0, aO (some (c + 3))), (1, aJ ((n : Int))), (3, aJ ((dd : Int))), (5, aJ ((m : Int))), (7, aJ ((e : Int)))]) rfl rfl ?_
              refine g_iinc (l1 := [(22, aI ((k : Int) + 1)), (15, aJ (((a - t * b : Nat) : Int))), (11, aJ (((u - t * f : Nat) : Int))), (13, aJ ((b : Int))), (9, aJ ((f : Int))), (34, aJ (((u - t * f : Nat) : Int))), (32, aJ (((a - t * b : Nat) : Int))), (19, aJ ((q1 : Int))), (17, aJ ((p1 : Int))), (30, aJ (((((t + 1 : Nat) : Int)) * ((q1 : Int))) + ((q0 : Int)))), (28, aJ (((((t + 1 : Nat) : Int)) * ((p1 : Int))) + ((p0 : Int)))), (26, aJ (((t + 1 : Nat) : Int))), (21, aI 1), (25, aI 0), (23, aJ ((t : Int))), (0, aO (some (c + 3))), (1, aJ ((n : Int))), (3, aJ ((dd : Int))), (5, aJ ((m : Int))), (7, aJ ((e : Int)))]) rfl rfl (by omega) (by omega) rfl ?_
              refine g_goto rfl ?_
              refine g_ls [0, 12, 4, 2, 3, 1, 8, 7, 15, 16, 17, 18, 19] rfl rfl ?_
              exact ih36 (k + 1) _ _ _ _ _ _ _ _ (by omega) (by intro a i hne; have n3 : ¬(a = c + 3 ∧ i = 3) := fun q => hne ⟨q.1, Or.inl q.2⟩; have n4 : ¬(a = c + 3 ∧ i = 4) := fun q => hne ⟨q.1, Or.inr q.2⟩; show vset (vset V1 (c + 3) 3 _) (c + 3) 4 _ a i = _; rw [vset_ne _ _ _ _ n4, vset_ne _ _ _ _ n3, hF a i hne]) (by show SmX _ _ _ _ _ _ _ _ _ (vset (vset V1 (c + 3) 3 _) (c + 3) 4 _ (c + 3) 3) (vset (vset V1 (c + 3) 3 _) (c + 3) 4 _ (c + 3) 4); rw [vset_eq, vset_ne _ _ _ _ (by omega), vset_eq]; first | exact SmX.a iI iE ht (by omega) | exact SmX.b iI iE ht (by omega) (hdl.mp (by omega)) | exact SmX.c iI iT iE ht (by omega) (fun u => absurd (hdl.mpr u) (by omega))) (by omega)
          · skip
            refine g_iconst rfl ?_
            refine g_goto rfl ?_
            refine g_istore (l1 := [(25, aI 1), (23, aJ ((t : Int))), (22, aI ((k : Int))), (21, aI 0), (9, aJ ((a : Int))), (11, aJ ((b : Int))), (13, aJ ((u : Int))), (15, aJ ((f : Int))), (17, aJ ((p0 : Int))), (19, aJ ((q0 : Int))), (0, aO (some (c + 3))), (1, aJ ((n : Int))), (3, aJ ((dd : Int))), (5, aJ ((m : Int))), (7, aJ ((e : Int)))]) rfl rfl ?_
            refine g_iload rfl rfl ?_
            refine g_if_ne_t rfl (by omega) ?_
            refine g_iconst rfl ?_
            refine g_goto rfl ?_
            refine g_istore (l1 := [(21, aI 1), (25, aI 1), (23, aJ ((t : Int))), (22, aI ((k : Int))), (9, aJ ((a : Int))), (11, aJ ((b : Int))), (13, aJ ((u : Int))), (15, aJ ((f : Int))), (17, aJ ((p0 : Int))), (19, aJ ((q0 : Int))), (0, aO (some (c + 3))), (1, aJ ((n : Int))), (3, aJ ((dd : Int))), (5, aJ ((m : Int))), (7, aJ ((e : Int)))]) rfl rfl ?_
            refine g_iload rfl rfl ?_
            refine g_if_eq_f rfl (by omega) ?_
            refine g_iload rfl rfl ?_
            refine g_if_ne_t rfl (by omega) ?_
            refine g_lload rfl rfl ?_
            have htv := htu
            refine g_top (v2 := aJ ((t : Int))) (congrArg aJ (by first | rfl | omega)) ?_
            refine g_lstore (l1 := [(26, aJ ((t : Int))), (21, aI 1), (25, aI 1), (23, aJ ((t : Int))), (22, aI ((k : Int))), (9, aJ ((a : Int))), (11, aJ ((b : Int))), (13, aJ ((u : Int))), (15, aJ ((f : Int))), (17, aJ ((p0 : Int))), (19, aJ ((q0 : Int))), (0, aO (some (c + 3))), (1, aJ ((n : Int))), (3, aJ ((dd : Int))), (5, aJ ((m : Int))), (7, aJ ((e : Int)))]) rfl rfl ?_
            refine g_lload rfl rfl ?_
            refine g_aload_n rfl rfl ?_
            refine g_getJ rfl (cs.kd 3 (by omega) rfl) ?_
            refine g_top (v2 := aJ ((p1 : Int))) (congrArg aJ (by show V1 (c + 3) 3 = ((p1 : Int)); rw [hp1])) ?_
            refine g_lmul rfl (by omega) (by omega) ?_
            refine g_lload rfl rfl ?_
            refine g_ladd rfl (by omega) (by omega) ?_
            refine g_top (v2 := aJ ((((t : Int)) * ((p1 : Int))) + ((p0 : Int)))) (congrArg aJ (by first | omega | (unfold w64; omega) | (unfold w32; omega))) ?_
            refine g_lstore (l1 := [(28, aJ ((((t : Int)) * ((p1 : Int))) + ((p0 : Int)))), (26, aJ ((t : Int))), (21, aI 1), (25, aI 1), (23, aJ ((t : Int))), (22, aI ((k : Int))), (9, aJ ((a : Int))), (11, aJ ((b : Int))), (13, aJ ((u : Int))), (15, aJ ((f : Int))), (17, aJ ((p0 : Int))), (19, aJ ((q0 : Int))), (0, aO (some (c + 3))), (1, aJ ((n : Int))), (3, aJ ((dd : Int))), (5, aJ ((m : Int))), (7, aJ ((e : Int)))]) rfl rfl ?_
            refine g_lload rfl rfl ?_
            refine g_aload_n rfl rfl ?_
            refine g_getJ rfl (cs.kd 3 (by omega) rfl) ?_
            refine g_top (v2 := aJ ((q1 : Int))) (congrArg aJ (by show V1 (c + 3) 4 = ((q1 : Int)); rw [hq1])) ?_
            refine g_lmul rfl (by omega) (by omega) ?_
            refine g_lload rfl rfl ?_
            refine g_ladd rfl (by omega) (by omega) ?_
            refine g_lstore (l1 := [(30, aJ ((((t : Int)) * ((q1 : Int))) + ((q0 : Int)))), (28, aJ ((((t : Int)) * ((p1 : Int))) + ((p0 : Int)))), (26, aJ ((t : Int))), (21, aI 1), (25, aI 1), (23, aJ ((t : Int))), (22, aI ((k : Int))), (9, aJ ((a : Int))), (11, aJ ((b : Int))), (13, aJ ((u : Int))), (15, aJ ((f : Int))), (17, aJ ((p0 : Int))), (19, aJ ((q0 : Int))), (0, aO (some (c + 3))), (1, aJ ((n : Int))), (3, aJ ((dd : Int))), (5, aJ ((m : Int))), (7, aJ ((e : Int)))]) rfl rfl ?_
            refine g_aload_n rfl rfl ?_
            refine g_getJ rfl (cs.kd 3 (by omega) rfl) ?_
            refine g_top (v2 := aJ ((p1 : Int))) (congrArg aJ (by show V1 (c + 3) 3 = ((p1 : Int)); rw [hp1])) ?_
            refine g_lstore (l1 := [(17, aJ ((p1 : Int))), (30, aJ ((((t : Int)) * ((q1 : Int))) + ((q0 : Int)))), (28, aJ ((((t : Int)) * ((p1 : Int))) + ((p0 : Int)))), (26, aJ ((t : Int))), (21, aI 1), (25, aI 1), (23, aJ ((t : Int))), (22, aI ((k : Int))), (9, aJ ((a : Int))), (11, aJ ((b : Int))), (13, aJ ((u : Int))), (15, aJ ((f : Int))), (19, aJ ((q0 : Int))), (0, aO (some (c + 3))), (1, aJ ((n : Int))), (3, aJ ((dd : Int))), (5, aJ ((m : Int))), (7, aJ ((e : Int)))]) rfl rfl ?_
            refine g_aload_n rfl rfl ?_
            refine g_getJ rfl (cs.kd 3 (by omega) rfl) ?_
            refine g_top (v2 := aJ ((q1 : Int))) (congrArg aJ (by show V1 (c + 3) 4 = ((q1 : Int)); rw [hq1])) ?_
            refine g_lstore (l1 := [(19, aJ ((q1 : Int))), (17, aJ ((p1 : Int))), (30, aJ ((((t : Int)) * ((q1 : Int))) + ((q0 : Int)))), (28, aJ ((((t : Int)) * ((p1 : Int))) + ((p0 : Int)))), (26, aJ ((t : Int))), (21, aI 1), (25, aI 1), (23, aJ ((t : Int))), (22, aI ((k : Int))), (9, aJ ((a : Int))), (11, aJ ((b : Int))), (13, aJ ((u : Int))), (15, aJ ((f : Int))), (0, aO (some (c + 3))), (1, aJ ((n : Int))), (3, aJ ((dd : Int))), (5, aJ ((m : Int))), (7, aJ ((e : Int)))]) rfl rfl ?_
            refine g_aload_n rfl rfl ?_
            refine g_lload rfl rfl ?_
            refine g_putJ rfl (cs.kd 3 (by omega) rfl) ?_
            refine g_aload_n rfl rfl ?_
            refine g_lload rfl rfl ?_
            refine g_putJ rfl (cs.kd 3 (by omega) rfl) ?_
            refine g_lload rfl rfl ?_
            refine g_lload rfl rfl ?_
            refine g_lload rfl rfl ?_
            refine g_lmul rfl (by omega) (by omega) ?_
            refine g_lsub rfl (by omega) (by omega) ?_
            refine g_top (v2 := aJ (((a - t * b : Nat) : Int))) (congrArg aJ (by omega)) ?_
            refine g_lstore (l1 := [(32, aJ (((a - t * b : Nat) : Int))), (19, aJ ((q1 : Int))), (17, aJ ((p1 : Int))), (30, aJ ((((t : Int)) * ((q1 : Int))) + ((q0 : Int)))), (28, aJ ((((t : Int)) * ((p1 : Int))) + ((p0 : Int)))), (26, aJ ((t : Int))), (21, aI 1), (25, aI 1), (23, aJ ((t : Int))), (22, aI ((k : Int))), (9, aJ ((a : Int))), (11, aJ ((b : Int))), (13, aJ ((u : Int))), (15, aJ ((f : Int))), (0, aO (some (c + 3))), (1, aJ ((n : Int))), (3, aJ ((dd : Int))), (5, aJ ((m : Int))), (7, aJ ((e : Int)))]) rfl rfl ?_
            refine g_lload rfl rfl ?_
            refine g_lload rfl rfl ?_
            refine g_lload rfl rfl ?_
            refine g_lmul rfl (by omega) (by omega) ?_
            refine g_lsub rfl (by omega) (by omega) ?_
            refine g_top (v2 := aJ (((u - t * f : Nat) : Int))) (congrArg aJ (by omega)) ?_
            refine g_lstore (l1 := [(34, aJ (((u - t * f : Nat) : Int))), (32, aJ (((a - t * b : Nat) : Int))), (19, aJ ((q1 : Int))), (17, aJ ((p1 : Int))), (30, aJ ((((t : Int)) * ((q1 : Int))) + ((q0 : Int)))), (28, aJ ((((t : Int)) * ((p1 : Int))) + ((p0 : Int)))), (26, aJ ((t : Int))), (21, aI 1), (25, aI 1), (23, aJ ((t : Int))), (22, aI ((k : Int))), (9, aJ ((a : Int))), (11, aJ ((b : Int))), (13, aJ ((u : Int))), (15, aJ ((f : Int))), (0, aO (some (c + 3))), (1, aJ ((n : Int))), (3, aJ ((dd : Int))), (5, aJ ((m : Int))), (7, aJ ((e : Int)))]) rfl rfl ?_
            refine g_lload rfl rfl ?_
            refine g_lstore (l1 := [(9, aJ ((f : Int))), (34, aJ (((u - t * f : Nat) : Int))), (32, aJ (((a - t * b : Nat) : Int))), (19, aJ ((q1 : Int))), (17, aJ ((p1 : Int))), (30, aJ ((((t : Int)) * ((q1 : Int))) + ((q0 : Int)))), (28, aJ ((((t : Int)) * ((p1 : Int))) + ((p0 : Int)))), (26, aJ ((t : Int))), (21, aI 1), (25, aI 1), (23, aJ ((t : Int))), (22, aI ((k : Int))), (11, aJ ((b : Int))), (13, aJ ((u : Int))), (15, aJ ((f : Int))), (0, aO (some (c + 3))), (1, aJ ((n : Int))), (3, aJ ((dd : Int))), (5, aJ ((m : Int))), (7, aJ ((e : Int)))]) rfl rfl ?_
            refine g_lload rfl rfl ?_
            refine g_lstore (l1 := [(13, aJ ((b : Int))), (9, aJ ((f : Int))), (34, aJ (((u - t * f : Nat) : Int))), (32, aJ (((a - t * b : Nat) : Int))), (19, aJ ((q1 : Int))), (17, aJ ((p1 : Int))), (30, aJ ((((t : Int)) * ((q1 : Int))) + ((q0 : Int)))), (28, aJ ((((t : Int)) * ((p1 : Int))) + ((p0 : Int)))), (26, aJ ((t : Int))), (21, aI 1), (25, aI 1), (23, aJ ((t : Int))), (22, aI ((k : Int))), (11, aJ ((b : Int))), (15, aJ ((f : Int))), (0, aO (some (c + 3))), (1, aJ ((n : Int))), (3, aJ ((dd : Int))), (5, aJ ((m : Int))), (7, aJ ((e : Int)))]) rfl rfl ?_
            refine g_lload rfl rfl ?_
            refine g_lstore (l1 := [(11, aJ (((u - t * f : Nat) : Int))), (13, aJ ((b : Int))), (9, aJ ((f : Int))), (34, aJ (((u - t * f : Nat) : Int))), (32, aJ (((a - t * b : Nat) : Int))), (19, aJ ((q1 : Int))), (17, aJ ((p1 : Int))), (30, aJ ((((t : Int)) * ((q1 : Int))) + ((q0 : Int)))), (28, aJ ((((t : Int)) * ((p1 : Int))) + ((p0 : Int)))), (26, aJ ((t : Int))), (21, aI 1), (25, aI 1), (23, aJ ((t : Int))), (22, aI ((k : Int))), (15, aJ ((f : Int))), (0, aO (some (c + 3))), (1, aJ ((n : Int))), (3, aJ ((dd : Int))), (5, aJ ((m : Int))), (7, aJ ((e : Int)))]) rfl rfl ?_
            refine g_lload rfl rfl ?_
            refine g_lstore (l1 := [(15, aJ (((a - t * b : Nat) : Int))), (11, aJ (((u - t * f : Nat) : Int))), (13, aJ ((b : Int))), (9, aJ ((f : Int))), (34, aJ (((u - t * f : Nat) : Int))), (32, aJ (((a - t * b : Nat) : Int))), (19, aJ ((q1 : Int))), (17, aJ ((p1 : Int))), (30, aJ ((((t : Int)) * ((q1 : Int))) + ((q0 : Int)))), (28, aJ ((((t : Int)) * ((p1 : Int))) + ((p0 : Int)))), (26, aJ ((t : Int))), (21, aI 1), (25, aI 1), (23, aJ ((t : Int))), (22, aI ((k : Int))), (0, aO (some (c + 3))), (1, aJ ((n : Int))), (3, aJ ((dd : Int))), (5, aJ ((m : Int))), (7, aJ ((e : Int)))]) rfl rfl ?_
            refine g_iinc (l1 := [(22, aI ((k : Int) + 1)), (15, aJ (((a - t * b : Nat) : Int))), (11, aJ (((u - t * f : Nat) : Int))), (13, aJ ((b : Int))), (9, aJ ((f : Int))), (34, aJ (((u - t * f : Nat) : Int))), (32, aJ (((a - t * b : Nat) : Int))), (19, aJ ((q1 : Int))), (17, aJ ((p1 : Int))), (30, aJ ((((t : Int)) * ((q1 : Int))) + ((q0 : Int)))), (28, aJ ((((t : Int)) * ((p1 : Int))) + ((p0 : Int)))), (26, aJ ((t : Int))), (21, aI 1), (25, aI 1), (23, aJ ((t : Int))), (0, aO (some (c + 3))), (1, aJ ((n : Int))), (3, aJ ((dd : Int))), (5, aJ ((m : Int))), (7, aJ ((e : Int)))]) rfl rfl (by omega) (by omega) rfl ?_
            refine g_goto rfl ?_
            refine g_ls [0, 12, 4, 2, 3, 1, 8, 7, 15, 16, 17, 18, 19] rfl rfl ?_
            exact ih36 (k + 1) _ _ _ _ _ _ _ _ (by omega) (by intro a i hne; have n3 : ¬(a = c + 3 ∧ i = 3) := fun q => hne ⟨q.1, Or.inl q.2⟩; have n4 : ¬(a = c + 3 ∧ i = 4) := fun q => hne ⟨q.1, Or.inr q.2⟩; show vset (vset V1 (c + 3) 3 _) (c + 3) 4 _ a i = _; rw [vset_ne _ _ _ _ n4, vset_ne _ _ _ _ n3, hF a i hne]) (by show SmX _ _ _ _ _ _ _ _ _ (vset (vset V1 (c + 3) 3 _) (c + 3) 4 _ (c + 3) 3) (vset (vset V1 (c + 3) 3 _) (c + 3) 4 _ (c + 3) 4); rw [vset_eq, vset_ne _ _ _ _ (by omega), vset_eq]; first | exact SmX.a iI iE ht (by omega) | exact SmX.b iI iE ht (by omega) (hdl.mp (by omega)) | exact SmX.c iI iT iE ht (by omega) (fun u => absurd (hdl.mpr u) (by omega))) (by omega)
  refine g_lload_n rfl rfl ?_
  refine g_lstore (l1 := [(9, aJ ((n : Int))), (0, aO (some (c + 3))), (1, aJ ((n : Int))), (3, aJ ((dd : Int))), (5, aJ ((m : Int))), (7, aJ ((e : Int)))]) rfl rfl ?_
  refine g_lload_n rfl rfl ?_
  refine g_lstore (l1 := [(11, aJ ((dd : Int))), (9, aJ ((n : Int))), (0, aO (some (c + 3))), (1, aJ ((n : Int))), (3, aJ ((dd : Int))), (5, aJ ((m : Int))), (7, aJ ((e : Int)))]) rfl rfl ?_
  refine g_lload rfl rfl ?_
  refine g_lstore (l1 := [(13, aJ ((m : Int))), (11, aJ ((dd : Int))), (9, aJ ((n : Int))), (0, aO (some (c + 3))), (1, aJ ((n : Int))), (3, aJ ((dd : Int))), (5, aJ ((m : Int))), (7, aJ ((e : Int)))]) rfl rfl ?_
  refine g_lload rfl rfl ?_
  refine g_lstore (l1 := [(15, aJ ((e : Int))), (13, aJ ((m : Int))), (11, aJ ((dd : Int))), (9, aJ ((n : Int))), (0, aO (some (c + 3))), (1, aJ ((n : Int))), (3, aJ ((dd : Int))), (5, aJ ((m : Int))), (7, aJ ((e : Int)))]) rfl rfl ?_
  refine g_lconst0 rfl ?_
  refine g_lstore (l1 := [(17, aJ 0), (15, aJ ((e : Int))), (13, aJ ((m : Int))), (11, aJ ((dd : Int))), (9, aJ ((n : Int))), (0, aO (some (c + 3))), (1, aJ ((n : Int))), (3, aJ ((dd : Int))), (5, aJ ((m : Int))), (7, aJ ((e : Int)))]) rfl rfl ?_
  refine g_lconst1 rfl ?_
  refine g_lstore (l1 := [(19, aJ 1), (17, aJ 0), (15, aJ ((e : Int))), (13, aJ ((m : Int))), (11, aJ ((dd : Int))), (9, aJ ((n : Int))), (0, aO (some (c + 3))), (1, aJ ((n : Int))), (3, aJ ((dd : Int))), (5, aJ ((m : Int))), (7, aJ ((e : Int)))]) rfl rfl ?_
  refine g_aload_n rfl rfl ?_
  refine g_lconst1 rfl ?_
  refine g_putJ rfl (cs.kd 3 (by omega) rfl) ?_
  refine g_aload_n rfl rfl ?_
  refine g_lconst0 rfl ?_
  refine g_putJ rfl (cs.kd 3 (by omega) rfl) ?_
  refine g_iconst rfl ?_
  refine g_istore (l1 := [(21, aI 0), (19, aJ 1), (17, aJ 0), (15, aJ ((e : Int))), (13, aJ ((m : Int))), (11, aJ ((dd : Int))), (9, aJ ((n : Int))), (0, aO (some (c + 3))), (1, aJ ((n : Int))), (3, aJ ((dd : Int))), (5, aJ ((m : Int))), (7, aJ ((e : Int)))]) rfl rfl ?_
  refine g_iconst rfl ?_
  refine g_istore (l1 := [(22, aI 0), (21, aI 0), (19, aJ 1), (17, aJ 0), (15, aJ ((e : Int))), (13, aJ ((m : Int))), (11, aJ ((dd : Int))), (9, aJ ((n : Int))), (0, aO (some (c + 3))), (1, aJ ((n : Int))), (3, aJ ((dd : Int))), (5, aJ ((m : Int))), (7, aJ ((e : Int)))]) rfl rfl ?_
  refine g_ls [0, 1, 7, 6, 5, 4, 3, 2, 8, 9, 10, 11, 12] rfl rfl ?_
  exact l36 _ 0 _ _ _ _ _ _ _ _ (by omega) (by intro a i hne; have n3 : ¬(a = c + 3 ∧ i = 3) := fun q => hne ⟨q.1, Or.inl q.2⟩; have n4 : ¬(a = c + 3 ∧ i = 4) := fun q => hne ⟨q.1, Or.inr q.2⟩; show vset (vset V (c + 3) 3 _) (c + 3) 4 _ a i = _; rw [vset_ne _ _ _ _ n4, vset_ne _ _ _ _ n3]) (by show SmX _ _ _ _ _ _ _ _ _ (vset (vset V (c + 3) 3 _) (c + 3) 4 _ (c + 3) 3) (vset (vset V (c + 3) 3 _) (c + 3) 4 _ (c + 3) 4); rw [vset_eq, vset_ne _ _ _ _ (by omega), vset_eq]; exact Or.inl ⟨rfl, n, dd, m, e, 0, 1, 1, 0, rfl, rfl, rfl, rfl, rfl, rfl, rfl, rfl, iS, Or.inl rfl, rfl⟩) (Nat.lt_succ_self _)
