/-! the class's whole numbers, on: sums that make new ones: printed by wip/whole/b4.py -/
/-- a whole number in use, and how great it may be -/
def WB (h : aH) (c p : Nat) (z : Int) (k : Nat) : Prop := WV h c p z ∧ -2 ^ k ≤ z ∧ z ≤ 2 ^ k
theorem pw_le {j k : Nat} (h : j ≤ k) : (2 : Int) ^ j ≤ 2 ^ k := ipow_le h
theorem pw_pos (k : Nat) : (1 : Int) ≤ 2 ^ k := by
  have : (0 : Int) < 2 ^ k := Int.pow_pos (by decide)
  omega
theorem WB.rg {h : aH} {c p : Nat} {z : Int} {k : Nat} (x : WB h c p z k) (hk : k ≤ 382) : -2147483648 * 4294967296 ^ 11 ≤ z ∧ z < 2147483648 * 4294967296 ^ 11 := by
  have h1 := pw_le hk
  have h2 : (2147483648 : Int) * 4294967296 ^ 11 = 2 ^ 382 * 2 := by decide
  have h3 := pw_pos 382
  have := x.2
  omega
theorem rg_of {z : Int} {k : Nat} (h1 : -2 ^ k ≤ z) (h2 : z ≤ 2 ^ k) (hk : k ≤ 382) : -2147483648 * 4294967296 ^ 11 ≤ z ∧ z < 2147483648 * 4294967296 ^ 11 := by
  have h1 := pw_le hk
  have h2 : (2147483648 : Int) * 4294967296 ^ 11 = 2 ^ 382 * 2 := by decide
  have h3 := pw_pos 382
  omega
theorem mul_b {x y X Y : Int} (hx : -X ≤ x ∧ x ≤ X) (hy : -Y ≤ y ∧ y ≤ Y) : -(X * Y) ≤ x * y ∧ x * y ≤ X * Y := by
  have h1 := Int.mul_nonneg (show 0 ≤ X - x by omega) (show 0 ≤ Y - y by omega)
  have h2 := Int.mul_nonneg (show 0 ≤ X + x by omega) (show 0 ≤ Y + y by omega)
  have h3 := Int.mul_nonneg (show 0 ≤ X - x by omega) (show 0 ≤ Y + y by omega)
  have h4 := Int.mul_nonneg (show 0 ≤ X + x by omega) (show 0 ≤ Y - y by omega)
  simp only [Int.sub_mul, Int.mul_sub, Int.add_mul, Int.mul_add] at h1 h2 h3 h4
  omega
theorem bd_mul {x y : Int} {j k : Nat} (hx : -2 ^ j ≤ x ∧ x ≤ 2 ^ j) (hy : -2 ^ k ≤ y ∧ y ≤ 2 ^ k) : -2 ^ (j + k) ≤ x * y ∧ x * y ≤ 2 ^ (j + k) := by
  rw [Int.pow_add]
  exact mul_b hx hy
theorem bd_up {x : Int} {j k : Nat} (h : j ≤ k) (hx : -2 ^ j ≤ x ∧ x ≤ 2 ^ j) : -2 ^ k ≤ x ∧ x ≤ 2 ^ k := by
  have := pw_le h
  omega
theorem bd_add {x y : Int} {j k m : Nat} (h1 : j + 1 ≤ m) (h2 : k + 1 ≤ m) (hx : -2 ^ j ≤ x ∧ x ≤ 2 ^ j) (hy : -2 ^ k ≤ y ∧ y ≤ 2 ^ k) : -2 ^ m ≤ x + y ∧ x + y ≤ 2 ^ m := by
  have a := pw_le h1
  have b := pw_le h2
  rw [Int.pow_succ] at a b
  omega
theorem bd_sub {x y : Int} {j k m : Nat} (h1 : j + 1 ≤ m) (h2 : k + 1 ≤ m) (hx : -2 ^ j ≤ x ∧ x ≤ 2 ^ j) (hy : -2 ^ k ≤ y ∧ y ≤ 2 ^ k) : -2 ^ m ≤ x - y ∧ x - y ≤ 2 ^ m := by
  have a := pw_le h1
  have b := pw_le h2
  rw [Int.pow_succ] at a b
  omega
theorem WB.up {h : aH} {c p : Nat} {z : Int} {j k : Nat} (x : WB h c p z j) (hk : j ≤ k) : WB h c p z k := ⟨x.1, bd_up hk x.2⟩
theorem Gr.wb {h h1 : aH} {c n : Nat} (g : Gr h h1 c n) {p : Nat} {z : Int} {k : Nat} (x : WB h c p z k) : WB h1 c p z k := ⟨g.wv x.1, x.2⟩
theorem Pl.wr {h h1 : aH} {c p : Nat} (x : Pl h h1 c p) {V : Nat → Nat → Int} (hv : V (c + 1) = hV h1 (c + 1)) : Pl h (hw h1 V) c p := fun T q1 q2 => by
  obtain ⟨a1, a2, a3⟩ := x T q1 q2
  exact ⟨a1, a2, by show V (c + 1) 1 = _; rw [hv]; exact a3⟩
theorem UP.trans {V V1 V2 : Nat → Nat → Int} {q : Nat} {x y : Int} (u : UP V q V1 x) (v : UP V1 q V2 y) : UP V q V2 y := ⟨fun p hp => by rw [v.1 p hp, u.1 p hp], v.2⟩
/-- a fresh number written: all that is wanted of it -/
theorem fin1 {h h1 : aH} {c n p : Nat} {z z0 u : Int} {k : Nat} (g : Gr h h1 c n) (wp : WV h1 c p z0) (dd : Dd h c p) {V : Nat → Nat → Int} (up : UP (hV h1) (p + 1) V u) (e : u % b12 = z % b12) (hb : -2 ^ k ≤ z ∧ z ≤ 2 ^ k) (hk : k ≤ 382) : Gr h (hw h1 V) c n ∧ WB (hw h1 V) c p z k := by
  have hr := rg_of hb.1 hb.2 hk
  exact ⟨g.wr wp.o wp.2.1 dd up.1, wp.new up.1 (LV_of up.2.1 (by rw [up.2.2, e]) hr.1 hr.2), hb⟩
theorem md_add {a b x y : Int} (h1 : a % b12 = x % b12) (h2 : b % b12 = y % b12) : (a + b) % b12 = (x + y) % b12 := by rw [Int.add_emod, h1, h2, ← Int.add_emod]
theorem md_sub {a b x y : Int} (h1 : a % b12 = x % b12) (h2 : b % b12 = y % b12) : (a - b) % b12 = (x - y) % b12 := by rw [Int.sub_emod, h1, h2, ← Int.sub_emod]
theorem md_mul {a b x y : Int} (h1 : a % b12 = x % b12) (h2 : b % b12 = y % b12) : (a * b) % b12 = (x * y) % b12 := by rw [Int.mul_emod, h1, h2, ← Int.mul_emod]
theorem md_md (x : Int) : x % b12 % b12 = x % b12 := Int.emod_emod _ _
theorem LV.m {f : Nat → Int} {z : Int} (l : LV f z) : uv f 12 % b12 = z % b12 := by rw [l.uvm, md_md]
theorem WV.m {h : aH} {c p : Nat} {z : Int} (x : WV h c p z) : uv (hV h (p + 1)) 12 % b12 = z % b12 := x.l.m
theorem UP.m {V V1 : Nat → Nat → Int} {q : Nat} {x : Int} (u : UP V q V1 x) : uv (V1 q) 12 % b12 = x % b12 := by rw [u.2.2, md_md]
theorem s_neg {w : aW} {d : Nat} (hd : 3 ≤ d) {h : aH} {c : Nat} (ci : CI h c) {a : Nat} {x : Int} {j : Nat} (wa : WB h c a x j) (hk : j ≤ 382) : WP w d 164 [aO (some (c + 1)), aO (some a)] h (RO (fun r h1 => ∃ p, r = some p ∧ Gr h h1 c 1 ∧ WB h1 c p (-x) (j))) := by
  obtain ⟨d, rfl⟩ : ∃ d1, d = d1 + 1 := ⟨d - 1, by omega⟩
  refine WP.enter (cd := cd_X7_negated) rfl ?_
  have hls : largs 0 [aO (some (c + 1)), aO (some a)] = [(0, aO (some (c + 1))), (1, aO (some a))] := rfl
  rw [hls]
  clear hls
  refine g_aload_n rfl rfl ?_
  refine g_callVO [] [] rfl rfl rfl rfl (Nat.le_of_ble_eq_true rfl) ((ci.cs).kd 1 (by omega) rfl) (x_fresh (by omega) ci) ?_
  rintro _ h1 ⟨p1, rfl, g1, w1, dd1, pl1⟩
  refine g_astore_n (l1 := [(2, aO (some p1)), (0, aO (some (c + 1))), (1, aO (some a))]) rfl rfl ?_
  refine g_aload_n rfl rfl ?_
  refine g_aload_n rfl rfl ?_
  refine g_aload_n rfl rfl ?_
  refine g_callVN [aO (some p1), aO (some a)] [] rfl rfl rfl rfl (Nat.le_of_ble_eq_true rfl) ((g1.cs).kd 1 (by omega) rfl) (x_lessen (by omega) g1.cs ((hV h1)) p1 a w1.o (g1.wv wa.1).o (dd1 _ _ wa.1).symm) ?_
  rintro _ ⟨V1, rfl, u1⟩
  refine g_aload_n rfl rfl ?_
  refine g_aret rfl ?_
  have e := md_sub (show uv (hV h1 (p1 + 1)) 12 % b12 = 0 % b12 from w1.m) (show uv (hV h1 (a + 1)) 12 % b12 = x % b12 from (g1.wv wa.1).m)
  rw [Int.zero_sub] at e
  obtain ⟨f1, f2⟩ := fin1 (z := _) (k := j) g1 w1 dd1 u1 (show _ % b12 = _ % b12 from e) (by have := wa.2; omega) (by omega)
  exact ⟨p1, rfl, f1, f2⟩
theorem s_timesP {w : aW} {d : Nat} (hd : 3 ≤ d) {h : aH} {c : Nat} (ci : CI h c) {a : Nat} {x : Int} {j : Nat} (wa : WB h c a x j) {b : Nat} {y : Int} {k : Nat} (wb : WB h c b y k) (hk : j + k ≤ 382) : WP w d 167 [aO (some (c + 1)), aO (some a), aO (some b)] h (RO (fun r h1 => ∃ p, r = some p ∧ Gr h h1 c 1 ∧ WB h1 c p (x * y) (j + k) ∧ Dd h c p ∧ Pl h h1 c p)) := by
  obtain ⟨d, rfl⟩ : ∃ d1, d = d1 + 1 := ⟨d - 1, by omega⟩
  refine WP.enter (cd := cd_X7_times) rfl ?_
  have hls : largs 0 [aO (some (c + 1)), aO (some a), aO (some b)] = [(0, aO (some (c + 1))), (1, aO (some a)), (2, aO (some b))] := rfl
  rw [hls]
  clear hls
  refine g_aload_n rfl rfl ?_
  refine g_callVO [] [] rfl rfl rfl rfl (Nat.le_of_ble_eq_true rfl) ((ci.cs).kd 1 (by omega) rfl) (x_fresh (by omega) ci) ?_
  rintro _ h1 ⟨p1, rfl, g1, w1, dd1, pl1⟩
  refine g_astore_n (l1 := [(3, aO (some p1)), (0, aO (some (c + 1))), (1, aO (some a)), (2, aO (some b))]) rfl rfl ?_
  refine g_aload_n rfl rfl ?_
  refine g_aload_n rfl rfl ?_
  refine g_aload_n rfl rfl ?_
  refine g_aload_n rfl rfl ?_
  refine g_callVN [aO (some p1), aO (some a), aO (some b)] [] rfl rfl rfl rfl (Nat.le_of_ble_eq_true rfl) ((g1.cs).kd 1 (by omega) rfl) (x_addProduct (by omega) g1.cs ((hV h1)) p1 a b w1.o (g1.wv wa.1).o (g1.wv wb.1).o (dd1 _ _ wa.1).symm (dd1 _ _ wb.1).symm w1.r) ?_
  rintro _ ⟨V1, rfl, u1⟩
  refine g_aload_n rfl rfl ?_
  refine g_aret rfl ?_
  have e := md_add (show uv (hV h1 (p1 + 1)) 12 % b12 = 0 % b12 from w1.m) (md_mul (show uv (hV h1 (a + 1)) 12 % b12 = x % b12 from (g1.wv wa.1).m) (show uv (hV h1 (b + 1)) 12 % b12 = y % b12 from (g1.wv wb.1).m))
  rw [Int.zero_add] at e
  obtain ⟨f1, f2⟩ := fin1 (z := _) (k := _) g1 w1 dd1 u1 (show _ % b12 = _ % b12 from e) (bd_mul wa.2 wb.2) (by omega)
  exact ⟨p1, rfl, f1, f2, dd1, pl1.wr (u1.1 _ (by have := w1.2.1; omega))⟩
theorem s_times {w : aW} {d : Nat} (hd : 3 ≤ d) {h : aH} {c : Nat} (ci : CI h c) {a : Nat} {x : Int} {j : Nat} (wa : WB h c a x j) {b : Nat} {y : Int} {k : Nat} (wb : WB h c b y k) (hk : j + k ≤ 382) : WP w d 167 [aO (some (c + 1)), aO (some a), aO (some b)] h (RO (fun r h1 => ∃ p, r = some p ∧ Gr h h1 c 1 ∧ WB h1 c p (x * y) (j + k))) := by
  refine (s_timesP hd ci wa wb hk).imp ?_
  rintro _ h1 ⟨_, rfl, p, rfl, q1, q2, -, -⟩
  exact ⟨_, rfl, p, rfl, q1, q2⟩
theorem s_plus {w : aW} {d : Nat} (hd : 3 ≤ d) {h : aH} {c : Nat} (ci : CI h c) {a : Nat} {x : Int} {j : Nat} (wa : WB h c a x j) {b : Nat} {y : Int} {k : Nat} (wb : WB h c b y k) (m : Nat) (hj : j + 1 ≤ m) (hk : k + 1 ≤ m) (hm : m ≤ 382) : WP w d 165 [aO (some (c + 1)), aO (some a), aO (some b)] h (RO (fun r h1 => ∃ p, r = some p ∧ Gr h h1 c 1 ∧ WB h1 c p (x + y) (m))) := by
  obtain ⟨d, rfl⟩ : ∃ d1, d = d1 + 1 := ⟨d - 1, by omega⟩
  refine WP.enter (cd := cd_X7_plus) rfl ?_
  have hls : largs 0 [aO (some (c + 1)), aO (some a), aO (some b)] = [(0, aO (some (c + 1))), (1, aO (some a)), (2, aO (some b))] := rfl
  rw [hls]
  clear hls
  refine g_aload_n rfl rfl ?_
  refine g_callVO [] [] rfl rfl rfl rfl (Nat.le_of_ble_eq_true rfl) ((ci.cs).kd 1 (by omega) rfl) (x_fresh (by omega) ci) ?_
  rintro _ h1 ⟨p1, rfl, g1, w1, dd1, pl1⟩
  refine g_astore_n (l1 := [(3, aO (some p1)), (0, aO (some (c + 1))), (1, aO (some a)), (2, aO (some b))]) rfl rfl ?_
  refine g_aload_n rfl rfl ?_
  refine g_aload_n rfl rfl ?_
  refine g_aload_n rfl rfl ?_
  refine g_callVN [aO (some p1), aO (some a)] [] rfl rfl rfl rfl (Nat.le_of_ble_eq_true rfl) ((g1.cs).kd 1 (by omega) rfl) (x_raise (by omega) g1.cs ((hV h1)) p1 a w1.o (g1.wv wa.1).o (dd1 _ _ wa.1).symm) ?_
  rintro _ ⟨V1, rfl, u1⟩
  refine g_aload_n rfl rfl ?_
  refine g_aload_n rfl rfl ?_
  refine g_aload_n rfl rfl ?_
  refine g_callVN [aO (some p1), aO (some b)] [] rfl rfl rfl rfl (Nat.le_of_ble_eq_true rfl) ((g1.cs).kd 1 (by omega) rfl) (x_raise (by omega) g1.cs V1 p1 b w1.o (g1.wv wb.1).o (dd1 _ _ wb.1).symm) ?_
  rintro _ ⟨V2, rfl, u2⟩
  refine g_aload_n rfl rfl ?_
  refine g_aret rfl ?_
  have e1 := md_add (show uv (hV h1 (p1 + 1)) 12 % b12 = 0 % b12 from w1.m) (show uv (hV h1 (a + 1)) 12 % b12 = x % b12 from (g1.wv wa.1).m)
  rw [Int.zero_add] at e1
  have e := md_add (show uv (V1 (p1 + 1)) 12 % b12 = x % b12 by rw [u1.m, e1]) (show uv (V1 (b + 1)) 12 % b12 = y % b12 by rw [u1.1 _ (by have := dd1 _ _ wb.1; omega)]; exact (g1.wv wb.1).m)
  obtain ⟨f1, f2⟩ := fin1 (z := _) (k := _) g1 w1 dd1 (u1.trans u2) (show _ % b12 = _ % b12 from e) (bd_add hj hk wa.2 wb.2) (by omega)
  exact ⟨p1, rfl, f1, f2⟩
theorem s_minus {w : aW} {d : Nat} (hd : 3 ≤ d) {h : aH} {c : Nat} (ci : CI h c) {a : Nat} {x : Int} {j : Nat} (wa : WB h c a x j) {b : Nat} {y : Int} {k : Nat} (wb : WB h c b y k) (m : Nat) (hj : j + 1 ≤ m) (hk : k + 1 ≤ m) (hm : m ≤ 382) : WP w d 166 [aO (some (c + 1)), aO (some a), aO (some b)] h (RO (fun r h1 => ∃ p, r = some p ∧ Gr h h1 c 1 ∧ WB h1 c p (x - y) (m))) := by
  obtain ⟨d, rfl⟩ : ∃ d1, d = d1 + 1 := ⟨d - 1, by omega⟩
  refine WP.enter (cd := cd_X7_minus) rfl ?_
  have hls : largs 0 [aO (some (c + 1)), aO (some a), aO (some b)] = [(0, aO (some (c + 1))), (1, aO (some a)), (2, aO (some b))] := rfl
  rw [hls]
  clear hls
  refine g_aload_n rfl rfl ?_
  refine g_callVO [] [] rfl rfl rfl rfl (Nat.le_of_ble_eq_true rfl) ((ci.cs).kd 1 (by omega) rfl) (x_fresh (by omega) ci) ?_
  rintro _ h1 ⟨p1, rfl, g1, w1, dd1, pl1⟩
  refine g_astore_n (l1 := [(3, aO (some p1)), (0, aO (some (c + 1))), (1, aO (some a)), (2, aO (some b))]) rfl rfl ?_
  refine g_aload_n rfl rfl ?_
  refine g_aload_n rfl rfl ?_
  refine g_aload_n rfl rfl ?_
  refine g_callVN [aO (some p1), aO (some a)] [] rfl rfl rfl rfl (Nat.le_of_ble_eq_true rfl) ((g1.cs).kd 1 (by omega) rfl) (x_raise (by omega) g1.cs ((hV h1)) p1 a w1.o (g1.wv wa.1).o (dd1 _ _ wa.1).symm) ?_
  rintro _ ⟨V1, rfl, u1⟩
  refine g_aload_n rfl rfl ?_
  refine g_aload_n rfl rfl ?_
  refine g_aload_n rfl rfl ?_
  refine g_callVN [aO (some p1), aO (some b)] [] rfl rfl rfl rfl (Nat.le_of_ble_eq_true rfl) ((g1.cs).kd 1 (by omega) rfl) (x_lessen (by omega) g1.cs V1 p1 b w1.o (g1.wv wb.1).o (dd1 _ _ wb.1).symm) ?_
  rintro _ ⟨V2, rfl, u2⟩
  refine g_aload_n rfl rfl ?_
  refine g_aret rfl ?_
  have e1 := md_add (show uv (hV h1 (p1 + 1)) 12 % b12 = 0 % b12 from w1.m) (show uv (hV h1 (a + 1)) 12 % b12 = x % b12 from (g1.wv wa.1).m)
  rw [Int.zero_add] at e1
  have e := md_sub (show uv (V1 (p1 + 1)) 12 % b12 = x % b12 by rw [u1.m, e1]) (show uv (V1 (b + 1)) 12 % b12 = y % b12 by rw [u1.1 _ (by have := dd1 _ _ wb.1; omega)]; exact (g1.wv wb.1).m)
  obtain ⟨f1, f2⟩ := fin1 (z := _) (k := _) g1 w1 dd1 (u1.trans u2) (show _ % b12 = _ % b12 from e) (bd_sub hj hk wa.2 wb.2) (by omega)
  exact ⟨p1, rfl, f1, f2⟩
theorem s_twice {w : aW} {d : Nat} (hd : 3 ≤ d) {h : aH} {c : Nat} (ci : CI h c) {a : Nat} {x : Int} {j : Nat} (wa : WB h c a x j) (hk : j + 1 ≤ 382) : WP w d 168 [aO (some (c + 1)), aO (some a)] h (RO (fun r h1 => ∃ p, r = some p ∧ Gr h h1 c 1 ∧ WB h1 c p (2 * x) (j + 1))) := by
  obtain ⟨d, rfl⟩ : ∃ d1, d = d1 + 1 := ⟨d - 1, by omega⟩
  refine WP.enter (cd := cd_X7_twice) rfl ?_
  have hls : largs 0 [aO (some (c + 1)), aO (some a)] = [(0, aO (some (c + 1))), (1, aO (some a))] := rfl
  rw [hls]
  clear hls
  refine g_aload_n rfl rfl ?_
  refine g_callVO [] [] rfl rfl rfl rfl (Nat.le_of_ble_eq_true rfl) ((ci.cs).kd 1 (by omega) rfl) (x_fresh (by omega) ci) ?_
  rintro _ h1 ⟨p1, rfl, g1, w1, dd1, pl1⟩
  refine g_astore_n (l1 := [(2, aO (some p1)), (0, aO (some (c + 1))), (1, aO (some a))]) rfl rfl ?_
  refine g_aload_n rfl rfl ?_
  refine g_aload_n rfl rfl ?_
  refine g_aload_n rfl rfl ?_
  refine g_callVN [aO (some p1), aO (some a)] [] rfl rfl rfl rfl (Nat.le_of_ble_eq_true rfl) ((g1.cs).kd 1 (by omega) rfl) (x_raise (by omega) g1.cs ((hV h1)) p1 a w1.o (g1.wv wa.1).o (dd1 _ _ wa.1).symm) ?_
  rintro _ ⟨V1, rfl, u1⟩
  refine g_aload_n rfl rfl ?_
  refine g_aload_n rfl rfl ?_
  refine g_aload_n rfl rfl ?_
  refine g_callVN [aO (some p1), aO (some a)] [] rfl rfl rfl rfl (Nat.le_of_ble_eq_true rfl) ((g1.cs).kd 1 (by omega) rfl) (x_raise (by omega) g1.cs V1 p1 a w1.o (g1.wv wa.1).o (dd1 _ _ wa.1).symm) ?_
  rintro _ ⟨V2, rfl, u2⟩
  refine g_aload_n rfl rfl ?_
  refine g_aret rfl ?_
  have e1 := md_add (show uv (hV h1 (p1 + 1)) 12 % b12 = 0 % b12 from w1.m) (show uv (hV h1 (a + 1)) 12 % b12 = x % b12 from (g1.wv wa.1).m)
  rw [Int.zero_add] at e1
  have e := md_add (show uv (V1 (p1 + 1)) 12 % b12 = x % b12 by rw [u1.m, e1]) (show uv (V1 (a + 1)) 12 % b12 = x % b12 by rw [u1.1 _ (by have := dd1 _ _ wa.1; omega)]; exact (g1.wv wa.1).m)
  rw [← Int.two_mul] at e
  obtain ⟨f1, f2⟩ := fin1 (z := _) (k := j + 1) g1 w1 dd1 (u1.trans u2) (show _ % b12 = _ % b12 from e) (by have := bd_add (Nat.le_refl (j + 1)) (Nat.le_refl (j + 1)) wa.2 wa.2; omega) (by omega)
  exact ⟨p1, rfl, f1, f2⟩
theorem s_added {w : aW} {d : Nat} (hd : 3 ≤ d) {h : aH} {c : Nat} (ci : CI h c) {a : Nat} {x : Int} {j : Nat} (wa : WB h c a x j) {b : Nat} {y : Int} {k : Nat} (wb : WB h c b y k) {a2 : Nat} {x2 : Int} {j2 : Nat} (wa2 : WB h c a2 x2 j2) {b2 : Nat} {y2 : Int} {k2 : Nat} (wb2 : WB h c b2 y2 k2) (m : Nat) (hj : j + k + 1 ≤ m) (hk : j2 + k2 + 1 ≤ m) (hm : m ≤ 382) : WP w d 169 [aO (some (c + 1)), aO (some a), aO (some b), aO (some a2), aO (some b2)] h (RO (fun r h1 => ∃ p, r = some p ∧ Gr h h1 c 1 ∧ WB h1 c p (x * y + x2 * y2) (m))) := by
  obtain ⟨d, rfl⟩ : ∃ d1, d = d1 + 1 := ⟨d - 1, by omega⟩
  refine WP.enter (cd := cd_X7_added) rfl ?_
  have hls : largs 0 [aO (some (c + 1)), aO (some a), aO (some b), aO (some a2), aO (some b2)] = [(0, aO (some (c + 1))), (1, aO (some a)), (2, aO (some b)), (3, aO (some a2)), (4, aO (some b2))] := rfl
  rw [hls]
  clear hls
  refine g_aload_n rfl rfl ?_
  refine g_callVO [] [] rfl rfl rfl rfl (Nat.le_of_ble_eq_true rfl) ((ci.cs).kd 1 (by omega) rfl) (x_fresh (by omega) ci) ?_
  rintro _ h1 ⟨p1, rfl, g1, w1, dd1, pl1⟩
  refine g_astore (l1 := [(5, aO (some p1)), (0, aO (some (c + 1))), (1, aO (some a)), (2, aO (some b)), (3, aO (some a2)), (4, aO (some b2))]) rfl rfl ?_
  refine g_aload_n rfl rfl ?_
  refine g_aload rfl rfl ?_
  refine g_aload_n rfl rfl ?_
  refine g_aload_n rfl rfl ?_
  refine g_callVN [aO (some p1), aO (some a), aO (some b)] [] rfl rfl rfl rfl (Nat.le_of_ble_eq_true rfl) ((g1.cs).kd 1 (by omega) rfl) (x_addProduct (by omega) g1.cs ((hV h1)) p1 a b w1.o (g1.wv wa.1).o (g1.wv wb.1).o (dd1 _ _ wa.1).symm (dd1 _ _ wb.1).symm w1.r) ?_
  rintro _ ⟨V1, rfl, u1⟩
  refine g_aload_n rfl rfl ?_
  refine g_aload rfl rfl ?_
  refine g_aload_n rfl rfl ?_
  refine g_aload rfl rfl ?_
  refine g_callVN [aO (some p1), aO (some a2), aO (some b2)] [] rfl rfl rfl rfl (Nat.le_of_ble_eq_true rfl) ((g1.cs).kd 1 (by omega) rfl) (x_addProduct (by omega) g1.cs V1 p1 a2 b2 w1.o (g1.wv wa2.1).o (g1.wv wb2.1).o (dd1 _ _ wa2.1).symm (dd1 _ _ wb2.1).symm u1.2.1) ?_
  rintro _ ⟨V2, rfl, u2⟩
  refine g_aload rfl rfl ?_
  refine g_aret rfl ?_
  have e1 := md_add (show uv (hV h1 (p1 + 1)) 12 % b12 = 0 % b12 from w1.m) (md_mul (show uv (hV h1 (a + 1)) 12 % b12 = x % b12 from (g1.wv wa.1).m) (show uv (hV h1 (b + 1)) 12 % b12 = y % b12 from (g1.wv wb.1).m))
  rw [Int.zero_add] at e1
  have e := md_add (show uv (V1 (p1 + 1)) 12 % b12 = (x * y) % b12 by rw [u1.m, e1]) (md_mul (show uv (V1 (a2 + 1)) 12 % b12 = x2 % b12 by rw [u1.1 _ (by have := dd1 _ _ wa2.1; omega)]; exact (g1.wv wa2.1).m) (show uv (V1 (b2 + 1)) 12 % b12 = y2 % b12 by rw [u1.1 _ (by have := dd1 _ _ wb2.1; omega)]; exact (g1.wv wb2.1).m))
  obtain ⟨f1, f2⟩ := fin1 (z := _) (k := _) g1 w1 dd1 (u1.trans u2) (show _ % b12 = _ % b12 from e) (bd_add hj hk (bd_mul wa.2 wb.2) (bd_mul wa2.2 wb2.2)) (by omega)
  exact ⟨p1, rfl, f1, f2⟩
theorem s_diff {w : aW} {d : Nat} (hd : 3 ≤ d) {h : aH} {c : Nat} (ci : CI h c) {a : Nat} {x : Int} {j : Nat} (wa : WB h c a x j) {b : Nat} {y : Int} {k : Nat} (wb : WB h c b y k) {a2 : Nat} {x2 : Int} {j2 : Nat} (wa2 : WB h c a2 x2 j2) {b2 : Nat} {y2 : Int} {k2 : Nat} (wb2 : WB h c b2 y2 k2) (m : Nat) (hj : j + k + 1 ≤ m) (hk : j2 + k2 + 1 ≤ m) (hm : m ≤ 382) : WP w d 170 [aO (some (c + 1)), aO (some a), aO (some b), aO (some a2), aO (some b2)] h (RO (fun r h1 => ∃ p, r = some p ∧ Gr h h1 c 2 ∧ WB h1 c p (x * y - x2 * y2) m)) := by
  obtain ⟨d, rfl⟩ : ∃ d1, d = d1 + 1 := ⟨d - 1, by omega⟩
  refine WP.enter (cd := cd_X7_difference) rfl ?_
  have hls : largs 0 [aO (some (c + 1)), aO (some a), aO (some b), aO (some a2), aO (some b2)] = [(0, aO (some (c + 1))), (1, aO (some a)), (2, aO (some b)), (3, aO (some a2)), (4, aO (some b2))] := rfl
  rw [hls]
  clear hls
  refine g_aload_n rfl rfl ?_
  refine g_callVO [] [] rfl rfl rfl rfl (Nat.le_of_ble_eq_true rfl) ((ci.cs).kd 1 (by omega) rfl) (x_fresh (by omega) ci) ?_
  rintro _ h1 ⟨p1, rfl, g1, w1, dd1, pl1⟩
  refine g_astore (l1 := [(5, aO (some p1)), (0, aO (some (c + 1))), (1, aO (some a)), (2, aO (some b)), (3, aO (some a2)), (4, aO (some b2))]) rfl rfl ?_
  refine g_aload_n rfl rfl ?_
  refine g_callVO [] [] rfl rfl rfl rfl (Nat.le_of_ble_eq_true rfl) ((g1.cs).kd 1 (by omega) rfl) (x_fresh (by omega) g1.ci) ?_
  rintro _ h2 ⟨p2, rfl, gx, w2, dx, plx⟩
  have g2 := g1.trans gx
  have dd2 : Dd h c p2 := fun q z x => dx q z (g1.wv x)
  refine g_astore (l1 := [(6, aO (some p2)), (5, aO (some p1)), (0, aO (some (c + 1))), (1, aO (some a)), (2, aO (some b)), (3, aO (some a2)), (4, aO (some b2))]) rfl rfl ?_
  refine g_aload_n rfl rfl ?_
  refine g_aload rfl rfl ?_
  refine g_aload_n rfl rfl ?_
  refine g_aload_n rfl rfl ?_
  refine g_callVN [aO (some p1), aO (some a), aO (some b)] [] rfl rfl rfl rfl (Nat.le_of_ble_eq_true rfl) ((g2.cs).kd 1 (by omega) rfl) (x_addProduct (by omega) g2.cs ((hV h2)) p1 a b (gx.wv w1).o (g2.wv wa.1).o (g2.wv wb.1).o (dd1 _ _ wa.1).symm (dd1 _ _ wb.1).symm (gx.wv w1).r) ?_
  rintro _ ⟨V1, rfl, u1⟩
  refine g_aload_n rfl rfl ?_
  refine g_aload rfl rfl ?_
  refine g_aload_n rfl rfl ?_
  refine g_aload rfl rfl ?_
  refine g_callVN [aO (some p2), aO (some a2), aO (some b2)] [] rfl rfl rfl rfl (Nat.le_of_ble_eq_true rfl) ((g2.cs).kd 1 (by omega) rfl) (x_addProduct (by omega) g2.cs V1 p2 a2 b2 w2.o (g2.wv wa2.1).o (g2.wv wb2.1).o (dd2 _ _ wa2.1).symm (dd2 _ _ wb2.1).symm (by rw [u1.1 _ (by have := dx _ _ w1; omega)]; exact w2.r)) ?_
  rintro _ ⟨V2, rfl, u2⟩
  refine g_aload_n rfl rfl ?_
  refine g_aload rfl rfl ?_
  refine g_aload rfl rfl ?_
  refine g_callVN [aO (some p1), aO (some p2)] [] rfl rfl rfl rfl (Nat.le_of_ble_eq_true rfl) ((g2.cs).kd 1 (by omega) rfl) (x_lessen (by omega) g2.cs V2 p1 p2 (gx.wv w1).o w2.o (dx _ _ w1)) ?_
  rintro _ ⟨V3, rfl, u3⟩
  refine g_aload rfl rfl ?_
  refine g_aret rfl ?_
  have n12 := dx _ _ w1
  have w1b := gx.wv w1
  have e1 := md_add (show uv (hV h2 (p1 + 1)) 12 % b12 = 0 % b12 from w1b.m) (md_mul (show uv (hV h2 (a + 1)) 12 % b12 = x % b12 from (g2.wv wa.1).m) (show uv (hV h2 (b + 1)) 12 % b12 = y % b12 from (g2.wv wb.1).m))
  rw [Int.zero_add, ← u1.m] at e1
  have e2 := md_add (show uv (V1 (p2 + 1)) 12 % b12 = 0 % b12 by rw [u1.1 _ (by omega)]; exact w2.m) (md_mul (show uv (V1 (a2 + 1)) 12 % b12 = x2 % b12 by rw [u1.1 _ (by have := dd1 _ _ wa2.1; omega)]; exact (g2.wv wa2.1).m) (show uv (V1 (b2 + 1)) 12 % b12 = y2 % b12 by rw [u1.1 _ (by have := dd1 _ _ wb2.1; omega)]; exact (g2.wv wb2.1).m))
  rw [Int.zero_add, ← u2.m] at e2
  have e := md_sub (show uv (V2 (p1 + 1)) 12 % b12 = (x * y) % b12 by rw [u2.1 _ (by omega)]; exact e1) e2
  have hb := bd_sub hj hk (bd_mul wa.2 wb.2) (bd_mul wa2.2 wb2.2)
  have hr := rg_of hb.1 hb.2 hm
  have q1 := g2.wr (p := p1) w1b.o w1b.2.1 dd1 u1.1
  have q2 := q1.wr (p := p2) (V := V2) w2.o w2.2.1 dd2 u2.1
  have q3 := q2.wr (p := p1) (V := V3) w1b.o w1b.2.1 dd1 u3.1
  have wn := ((w1b.new (z := x * y) u1.1 (LV_of u1.2.1 (by rw [u1.2.2]; exact u1.m.symm.trans e1) (rg_of (bd_mul wa.2 wb.2).1 (bd_mul wa.2 wb.2).2 (by omega)).1 (rg_of (bd_mul wa.2 wb.2).1 (bd_mul wa.2 wb.2).2 (by omega)).2)).wr (p := p2) n12 w2.2.1 u2.1).new (z := x * y - x2 * y2) (V := V3) u3.1 (LV_of u3.2.1 (by rw [u3.2.2, e]) hr.1 hr.2)
  exact ⟨p1, rfl, q3, wn, hb⟩
