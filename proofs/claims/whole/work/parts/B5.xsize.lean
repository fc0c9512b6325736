/-! the class's whole numbers, on: sizes, divisors, quotients, roots: printed by wip/whole/b5.py -/
theorem of_step {V1 : Nat → Nat → Int} {q i : Nat} {v k : Int} (hu : uv (V1 q) i + k * 4294967296 ^ i = v) : uv (vset V1 q i (w32 k) q) (i + 1) + k / 4294967296 * 4294967296 ^ (i + 1) = v := by
  rw [uv_vset1, w32_mod, bp_succ]
  have := dig_step k (4294967296 ^ i)
  omega
theorem s_of {w : aW} {d : Nat} (hd : 3 ≤ d) {h : aH} {c : Nat} (ci : CI h c) (v : Int) (hv : r64 v) (m : Nat) (hb : -2 ^ m ≤ v ∧ v ≤ 2 ^ m) (hm : m ≤ 382) : WP w d 160 [aO (some (c + 1)), aJ v] h (RO (fun r h1 => ∃ p, r = some p ∧ Gr h h1 c 1 ∧ WB h1 c p v m)) := by
  obtain ⟨d, rfl⟩ : ∃ d1, d = d1 + 1 := ⟨d - 1, by omega⟩
  refine WP.enter (cd := cd_X7_of) rfl ?_
  have hls : largs 0 [aO (some (c + 1)), aJ v] = [(0, aO (some (c + 1))), (1, aJ v)] := rfl
  rw [hls]
  clear hls
  have l11 : ∀ (h1 : aH) (p1 : Nat), (Gr h h1 c 1) → (WV h1 c p1 0) → (Dd h c p1) → ∀ (fuel : Nat) (i : Nat) (k : Int) (V1 : Nat → Nat → Int), (i ≤ 12) → (r64 k) → (∀ q, q ≠ p1 + 1 → V1 q = hV h1 q) → (∀ j < i, r32 (V1 (p1 + 1) j)) → (uv (V1 (p1 + 1)) i + k * 4294967296 ^ i = v) → 12 - i < fuel → Wk w d cd_X7_of 11 [(6, aI ((i : Int))), (4, aJ k), (3, aO (some p1)), (0, aO (some (c + 1)))] [] (hw h1 V1) (RO (fun r h1 => ∃ p, r = some p ∧ Gr h h1 c 1 ∧ WB h1 c p v m)) := by
    intro h1 p1 g1 w1 dd1 fuel
    induction fuel with
    | zero => intros; omega
    | succ fuel ih11 =>
      intro i k V1 hi hk hf hr hu hfuel
      refine g_iload rfl rfl ?_
      refine g_bipush rfl ?_
      refine g_icmp_ge rfl (fun c15 => ?_) (fun c15 => ?_)
      · skip
        refine g_aload_n rfl rfl ?_
        refine g_aret rfl ?_
        rw [show i = 12 by omega] at hu
        obtain ⟨f1, f2⟩ := fin1 (z := v) (k := m) g1 w1 dd1 (V := V1) (u := v) ⟨hf, fun j hj => hr j (by omega), mod_b12 hu⟩ rfl hb hm
        exact ⟨p1, rfl, f1, f2⟩
      · skip
        refine g_aload_n rfl rfl ?_
        refine g_getR rfl w1.o.1 w1.o.2.1 ?_
        refine g_iload rfl rfl ?_
        refine g_lload rfl rfl ?_
        refine g_l2i rfl ?_
        refine g_iast (i := i) rfl w1.o.2.2 (by omega) (by omega) ?_
        refine g_hp (h2 := hw h1 (vset V1 (p1 + 1) i (w32 k))) rfl ?_
        refine g_lload rfl rfl ?_
        refine g_bipush rfl ?_
        refine g_lshr rfl ?_
        refine g_top (v2 := aJ (k / 4294967296)) (congrArg aJ (by exact lshr_32 _)) ?_
        refine g_lstore (l1 := [(4, aJ (k / 4294967296)), (6, aI ((i : Int))), (3, aO (some p1)), (0, aO (some (c + 1)))]) rfl rfl ?_
        refine g_iinc (l1 := [(6, aI ((i : Int) + 1)), (4, aJ (k / 4294967296)), (3, aO (some p1)), (0, aO (some (c + 1)))]) rfl rfl (by omega) (by omega) rfl ?_
        refine g_goto rfl ?_
        exact ih11 (i + 1) (k / 4294967296) _ (by omega) (by unfold r64 at *; omega) (by intro q hq; funext j; rw [vset_ne _ _ _ _ (by omega), hf q hq]) (by intro j hj; by_cases e : j = i; (rw [e, vset_eq]; exact w32_r _); (rw [vset_ne _ _ _ _ (by omega)]; exact hr j (by omega))) (by exact of_step hu) (by omega)
  refine g_aload_n rfl rfl ?_
  refine g_callVO [] [] rfl rfl rfl rfl (Nat.le_of_ble_eq_true rfl) ((ci.cs).kd 1 (by omega) rfl) (x_fresh (by omega) ci) ?_
  rintro _ h1 ⟨p1, rfl, g1, w1, dd1, pl1⟩
  refine g_astore_n (l1 := [(3, aO (some p1)), (0, aO (some (c + 1))), (1, aJ v)]) rfl rfl ?_
  refine g_lload_n rfl rfl ?_
  refine g_lstore (l1 := [(4, aJ v), (3, aO (some p1)), (0, aO (some (c + 1))), (1, aJ v)]) rfl rfl ?_
  refine g_iconst rfl ?_
  refine g_istore (l1 := [(6, aI 0), (4, aJ v), (3, aO (some p1)), (0, aO (some (c + 1))), (1, aJ v)]) rfl rfl ?_
  refine g_ls [0, 1, 2, 3] rfl rfl ?_
  exact l11 h1 p1 (by exact g1) (by exact w1) (by exact dd1) _ 0 v (hV h1) (by omega) (by exact hv) (by intro q _; rfl) (by intro j hj; omega) (by show 0 + v * 1 = v; omega) (Nat.lt_succ_self _)
theorem lcmp_neg {x : Int} : lcmp x 0 < 0 ↔ x < 0 := lcmp_lt
theorem s_sizeP {w : aW} {d : Nat} (hd : 3 ≤ d) {h : aH} {c : Nat} (ci : CI h c) {a : Nat} {x : Int} {j : Nat} (wa : WB h c a x j) (hk : j ≤ 382) : WP w d 173 [aO (some (c + 1)), aO (some a)] h (RO (fun r h1 => ∃ p, r = some p ∧ Gr h h1 c 1 ∧ WB h1 c p (x.natAbs : Int) j ∧ Dd h c p)) := by
  obtain ⟨d, rfl⟩ : ∃ d1, d = d1 + 1 := ⟨d - 1, by omega⟩
  refine WP.enter (cd := cd_X7_size) rfl ?_
  have hls : largs 0 [aO (some (c + 1)), aO (some a)] = [(0, aO (some (c + 1))), (1, aO (some a))] := rfl
  rw [hls]
  clear hls
  refine g_aload_n rfl rfl ?_
  refine g_callVO [] [] rfl rfl rfl rfl (Nat.le_of_ble_eq_true rfl) ((ci.cs).kd 1 (by omega) rfl) (x_fresh (by omega) ci) ?_
  rintro _ h1 ⟨p1, rfl, g1, w1, dd1, pl1⟩
  refine g_astore_n (l1 := [(2, aO (some p1)), (0, aO (some (c + 1))), (1, aO (some a))]) rfl rfl ?_
  refine g_aload_n rfl rfl ?_
  refine g_aload_n rfl rfl ?_
  refine g_callVI [aO (some a)] [] rfl rfl rfl rfl (Nat.le_of_ble_eq_true rfl) ((g1.cs).kd 1 (by omega) rfl) (x_sign (by omega) g1.cs (hV h1) a (g1.wv wa.1).o (g1.wv wa.1).l) ?_
  rintro _ _ ⟨rfl, rfl⟩
  refine g_if_ge rfl (fun c10 => ?_) (fun c10 => ?_)
  · skip
    refine g_aload_n rfl rfl ?_
    refine g_aload_n rfl rfl ?_
    refine g_aload_n rfl rfl ?_
    refine g_callVN [aO (some p1), aO (some a)] [] rfl rfl rfl rfl (Nat.le_of_ble_eq_true rfl) ((g1.cs).kd 1 (by omega) rfl) (x_raise (by omega) g1.cs ((hV h1)) p1 a w1.o (g1.wv wa.1).o (dd1 _ _ wa.1).symm) ?_
    rintro _ ⟨V1, rfl, u1⟩
    refine g_aload_n rfl rfl ?_
    refine g_aret rfl ?_
    have hbb : -2 ^ j ≤ (x.natAbs : Int) ∧ (x.natAbs : Int) ≤ 2 ^ j := by have := wa.2; omega
    have em : (uv (V1 (p1 + 1)) 12) % b12 = (x.natAbs : Int) % b12 := by
      rw [u1.m]
      first
        | (have hx : x < 0 := lcmp_neg.mp c10
           have e := md_sub (show uv (hV h1 (p1 + 1)) 12 % b12 = 0 % b12 from w1.m) (show uv (hV h1 (a + 1)) 12 % b12 = x % b12 from (g1.wv wa.1).m)
           rw [e]; congr 1; omega)
        | (have hx : ¬ x < 0 := fun q => by have := lcmp_neg.mpr q; omega
           have e := md_add (show uv (hV h1 (p1 + 1)) 12 % b12 = 0 % b12 from w1.m) (show uv (hV h1 (a + 1)) 12 % b12 = x % b12 from (g1.wv wa.1).m)
           rw [e]; congr 1; omega)
    obtain ⟨f1, f2⟩ := fin1 (z := (x.natAbs : Int)) (k := j) g1 w1 dd1 u1 (u1.m.symm.trans em) hbb hk
    exact ⟨p1, rfl, f1, f2, dd1⟩
  · skip
    refine g_aload_n rfl rfl ?_
    refine g_aload_n rfl rfl ?_
    refine g_aload_n rfl rfl ?_
    refine g_callVN [aO (some p1), aO (some a)] [] rfl rfl rfl rfl (Nat.le_of_ble_eq_true rfl) ((g1.cs).kd 1 (by omega) rfl) (x_lessen (by omega) g1.cs ((hV h1)) p1 a w1.o (g1.wv wa.1).o (dd1 _ _ wa.1).symm) ?_
    rintro _ ⟨V1, rfl, u1⟩
    refine g_goto rfl ?_
    refine g_aload_n rfl rfl ?_
    refine g_aret rfl ?_
    have hbb : -2 ^ j ≤ (x.natAbs : Int) ∧ (x.natAbs : Int) ≤ 2 ^ j := by have := wa.2; omega
    have em : (uv (V1 (p1 + 1)) 12) % b12 = (x.natAbs : Int) % b12 := by
      rw [u1.m]
      first
        | (have hx : x < 0 := lcmp_neg.mp c10
           have e := md_sub (show uv (hV h1 (p1 + 1)) 12 % b12 = 0 % b12 from w1.m) (show uv (hV h1 (a + 1)) 12 % b12 = x % b12 from (g1.wv wa.1).m)
           rw [e]; congr 1; omega)
        | (have hx : ¬ x < 0 := fun q => by have := lcmp_neg.mpr q; omega
           have e := md_add (show uv (hV h1 (p1 + 1)) 12 % b12 = 0 % b12 from w1.m) (show uv (hV h1 (a + 1)) 12 % b12 = x % b12 from (g1.wv wa.1).m)
           rw [e]; congr 1; omega)
    obtain ⟨f1, f2⟩ := fin1 (z := (x.natAbs : Int)) (k := j) g1 w1 dd1 u1 (u1.m.symm.trans em) hbb hk
    exact ⟨p1, rfl, f1, f2, dd1⟩
theorem s_size {w : aW} {d : Nat} (hd : 3 ≤ d) {h : aH} {c : Nat} (ci : CI h c) {a : Nat} {x : Int} {j : Nat} (wa : WB h c a x j) (hk : j ≤ 382) : WP w d 173 [aO (some (c + 1)), aO (some a)] h (RO (fun r h1 => ∃ p, r = some p ∧ Gr h h1 c 1 ∧ WB h1 c p (x.natAbs : Int) j)) := by
  refine (s_sizeP hd ci wa hk).imp ?_
  rintro _ h1 ⟨_, rfl, p, rfl, q1, q2, -⟩
  exact ⟨_, rfl, p, rfl, q1, q2⟩
/-- questions of numbers in use -/
theorem s_isZero {w : aW} {d : Nat} (hd : 1 ≤ d) {h : aH} {c : Nat} (ci : CI h c) {a : Nat} {x : Int} {j : Nat} (wa : WB h c a x j) : WP w d 171 [aO (some (c + 1)), aO (some a)] h (RI (fun r h1 => h1 = h ∧ r = if x = 0 then 1 else 0)) := x_isZero hd ci.cs (hV h) a wa.1.o wa.1.l
theorem s_sign {w : aW} {d : Nat} (hd : 2 ≤ d) {h : aH} {c : Nat} (ci : CI h c) {a : Nat} {x : Int} {j : Nat} (wa : WB h c a x j) : WP w d 172 [aO (some (c + 1)), aO (some a)] h (RI (fun r h1 => h1 = h ∧ r = lcmp x 0)) := x_sign hd ci.cs (hV h) a wa.1.o wa.1.l
theorem s_order {w : aW} {d : Nat} (hd : 1 ≤ d) {h : aH} {c : Nat} (ci : CI h c) {a : Nat} {x : Int} {j : Nat} (wa : WB h c a x j) {b : Nat} {y : Int} {k : Nat} (wb : WB h c b y k) : WP w d 174 [aO (some (c + 1)), aO (some a), aO (some b)] h (RI (fun r h1 => h1 = h ∧ r = lcmp x y)) := x_order hd ci.cs (hV h) a b wa.1.o wb.1.o wa.1.l wb.1.l
theorem s_areEqual {w : aW} {d : Nat} (hd : 2 ≤ d) {h : aH} {c : Nat} (ci : CI h c) {a : Nat} {x : Int} {j : Nat} (wa : WB h c a x j) {b : Nat} {y : Int} {k : Nat} (wb : WB h c b y k) : WP w d 175 [aO (some (c + 1)), aO (some a), aO (some b)] h (RI (fun r h1 => h1 = h ∧ r = if x = y then 1 else 0)) := x_areEqual hd ci.cs (hV h) a b wa.1.o wb.1.o wa.1.l wb.1.l
theorem s_longOf {w : aW} {d : Nat} (hd : 1 ≤ d) {h : aH} {c : Nat} (ci : CI h c) {a : Nat} {x : Int} {j : Nat} (wa : WB h c a x j) (hz : r64 x) : WP w d 177 [aO (some (c + 1)), aO (some a)] h (RJ (fun r h1 => h1 = h ∧ r = x)) := x_longOf hd ci.cs (hV h) a wa.1.o wa.1.l hz
theorem s_isWithin {w : aW} {d : Nat} (hd : 4 ≤ d) {h : aH} {c : Nat} (ci : CI h c) {a : Nat} {x : Int} {j : Nat} (wa : WB h c a x j) (hk : j ≤ 382) (M : Int) (hM : 0 ≤ M ∧ M ≤ 4611686018427387904) : WP w d 176 [aO (some (c + 1)), aO (some a), aJ M] h (RI (fun r h1 => Gr h h1 c 2 ∧ r = if -M ≤ x ∧ x ≤ M then 1 else 0)) := by
  obtain ⟨d, rfl⟩ : ∃ d1, d = d1 + 1 := ⟨d - 1, by omega⟩
  refine WP.enter (cd := cd_X7_isWithin) rfl ?_
  have hls : largs 0 [aO (some (c + 1)), aO (some a), aJ M] = [(0, aO (some (c + 1))), (1, aO (some a)), (2, aJ M)] := rfl
  rw [hls]
  clear hls
  refine g_aload_n rfl rfl ?_
  refine g_aload_n rfl rfl ?_
  refine g_aload_n rfl rfl ?_
  refine g_callVO [aO (some a)] [aO (some (c + 1))] rfl rfl rfl rfl (Nat.le_of_ble_eq_true rfl) (ci.cs.kd 1 (by omega) rfl) (s_size (by omega) ci wa hk) ?_
  rintro _ h1 ⟨p1, rfl, g1, w1⟩
  refine g_aload_n rfl rfl ?_
  refine g_lload_n rfl rfl ?_
  refine g_callVO [aJ M] [aO (some p1), aO (some (c + 1))] rfl rfl rfl rfl (Nat.le_of_ble_eq_true rfl) (g1.cs.kd 1 (by omega) rfl) (s_of (by omega) g1.ci M (by unfold r64; omega) 62 (by omega) (by omega)) ?_
  rintro _ h2 ⟨p2, rfl, g2, w2⟩
  refine g_callVI [aO (some p1), aO (some p2)] [] rfl rfl rfl rfl (Nat.le_of_ble_eq_true rfl) (g2.cs.kd 1 (by omega) rfl) (s_order (by omega) g2.ci (g2.wb w1) w2) ?_
  rintro _ _ ⟨rfl, rfl⟩
  have h0 := @lcmp_gt (x.natAbs : Int) M
  refine g_if_gt rfl (fun c14 => ?_) (fun c14 => ?_)
  · skip
    refine g_iconst rfl ?_
    refine g_zret rfl (by omega) ?_
    refine ⟨g1.trans g2, ?_⟩
    first | rw [if_pos (by have := fun q => h0.mpr q; omega)] | rw [if_neg (by have := h0.mp c14; omega)]
  · skip
    refine g_iconst rfl ?_
    refine g_goto rfl ?_
    refine g_zret rfl (by omega) ?_
    refine ⟨g1.trans g2, ?_⟩
    first | rw [if_pos (by have := fun q => h0.mpr q; omega)] | rw [if_neg (by have := h0.mp c14; omega)]
