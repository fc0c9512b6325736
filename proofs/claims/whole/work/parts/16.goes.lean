/-! walks over the small machine: printed by wip/whole/gengoes.py -/
def txtAt (t : Nat) : List Nat := (texts.getD t "").toList.map Char.toNat
/-- the methods of text constants, told outright -/
def frC (w : aW) (cal : aCal) (as : List aV) (h : aH) (r : Option aV) (h1 : aH) : Prop :=
  (∃ x up out, as = [aO (some x), aJ up, aJ 0, aO (some out)] ∧ (hT h x).1 = 21 ∧ r = some (aI 1) ∧ h1 = hnew h 7 6) ∨ ∃ n, arun w cal cd_L_fraction n 0 (largs 0 as) [] h r h1
def biG (w : aW) (cal : aCal) : aCal := fun m as h r h1 =>
  (m = 900 ∧ ∃ o, as = [aO (some o)] ∧ (hT h o).1 = 8 ∧ r = some (aI ((txtAt (hT h o).2).length : Int)) ∧ h1 = h) ∨
  (m = 901 ∧ ∃ o i, as = [aO (some o), aI i] ∧ (hT h o).1 = 8 ∧ 0 ≤ i ∧ i < ((txtAt (hT h o).2).length : Int) ∧ r = some (aI (((txtAt (hT h o).2).getD i.toNat 0 : Nat) : Int)) ∧ h1 = h) ∨
  (m = 389 ∧ frC w cal as h r h1)
def WP (w : aW) (d m : Nat) (as : List aV) (h : aH) (Q : Option aV → aH → Prop) : Prop := ∃ r h1, ares w (biG w) cdm d m as h r h1 ∧ Q r h1
def Wk (w : aW) (d : Nat) (cd : List aE) (pc : Nat) (ls : aLs) (st : List aV) (h : aH) (Q : Option aV → aH → Prop) : Prop := ∃ r h1 n, arun w (ares w (biG w) cdm d) cd n pc ls st h r h1 ∧ Q r h1
def RI (P : Int → aH → Prop) : Option aV → aH → Prop := fun r h => ∃ x, r = some (aI x) ∧ P x h
def RJ (P : Int → aH → Prop) : Option aV → aH → Prop := fun r h => ∃ x, r = some (aJ x) ∧ P x h
def RO (P : Option Nat → aH → Prop) : Option aV → aH → Prop := fun r h => ∃ x, r = some (aO x) ∧ P x h
def RN (P : aH → Prop) : Option aV → aH → Prop := fun r h => r = none ∧ P h
theorem WP.imp {w : aW} {d m : Nat} {as : List aV} {h : aH} {Q Q' : Option aV → aH → Prop} (hw : WP w d m as h Q) (hq : ∀ r h1, Q r h1 → Q' r h1) : WP w d m as h Q' := by
  obtain ⟨r, h1, a, b⟩ := hw
  exact ⟨r, h1, a, hq _ _ b⟩
theorem Wk.imp {w : aW} {d : Nat} {cd : List aE} {pc : Nat} {ls : aLs} {st : List aV} {h : aH} {Q Q' : Option aV → aH → Prop} (hw : Wk w d cd pc ls st h Q) (hq : ∀ r h1, Q r h1 → Q' r h1) : Wk w d cd pc ls st h Q' := by
  obtain ⟨r, h1, n, a, b⟩ := hw
  exact ⟨r, h1, n, a, hq _ _ b⟩
theorem WP.enter {w : aW} {d m : Nat} {as : List aV} {h : aH} {Q : Option aV → aH → Prop} {cd : List aE} (hm : cdm m = cd) (hg : Wk w d cd 0 (largs 0 as) [] h Q) : WP w (d + 1) m as h Q := by
  obtain ⟨r, h1, n, a, b⟩ := hg
  exact ⟨r, h1, Or.inr ⟨n, by rw [hm]; exact a⟩, b⟩
section GO
variable {w : aW} {d : Nat} {cd : List aE} {pc nx a k q : Nat} {z : Int} {ls : aLs} {s : List aV} {h : aH} {Q : Option aV → aH → Prop} {x y : Int}
theorem g_iaddW (hc : clook cd pc = some (.iadd, nx, a, k, q, z)) (g : Wk w d cd nx ls (aI (w32 (x + y)) :: s) h Q) : Wk w d cd pc ls (aI y :: aI x :: s) h Q := by
  obtain ⟨r, h1, n, u, v9⟩ := g
  exact ⟨r, h1, n + 1, ⟨_, _, _, _, _, _, hc, y, x, s, rfl, u⟩, v9⟩
theorem g_iadd (hc : clook cd pc = some (.iadd, nx, a, k, q, z)) (h1 : -2147483648 ≤ x + y) (h2 : x + y < 2147483648) (g : Wk w d cd nx ls (aI (x + y) :: s) h Q) : Wk w d cd pc ls (aI y :: aI x :: s) h Q := by
  refine g_iaddW hc ?_
  rw [w32_id ⟨h1, h2⟩]
  exact g
theorem g_isubW (hc : clook cd pc = some (.isub, nx, a, k, q, z)) (g : Wk w d cd nx ls (aI (w32 (x - y)) :: s) h Q) : Wk w d cd pc ls (aI y :: aI x :: s) h Q := by
  obtain ⟨r, h1, n, u, v9⟩ := g
  exact ⟨r, h1, n + 1, ⟨_, _, _, _, _, _, hc, y, x, s, rfl, u⟩, v9⟩
theorem g_isub (hc : clook cd pc = some (.isub, nx, a, k, q, z)) (h1 : -2147483648 ≤ x - y) (h2 : x - y < 2147483648) (g : Wk w d cd nx ls (aI (x - y) :: s) h Q) : Wk w d cd pc ls (aI y :: aI x :: s) h Q := by
  refine g_isubW hc ?_
  rw [w32_id ⟨h1, h2⟩]
  exact g
theorem g_imulW (hc : clook cd pc = some (.imul, nx, a, k, q, z)) (g : Wk w d cd nx ls (aI (w32 (x * y)) :: s) h Q) : Wk w d cd pc ls (aI y :: aI x :: s) h Q := by
  obtain ⟨r, h1, n, u, v9⟩ := g
  exact ⟨r, h1, n + 1, ⟨_, _, _, _, _, _, hc, y, x, s, rfl, u⟩, v9⟩
theorem g_imul (hc : clook cd pc = some (.imul, nx, a, k, q, z)) (h1 : -2147483648 ≤ x * y) (h2 : x * y < 2147483648) (g : Wk w d cd nx ls (aI (x * y) :: s) h Q) : Wk w d cd pc ls (aI y :: aI x :: s) h Q := by
  refine g_imulW hc ?_
  rw [w32_id ⟨h1, h2⟩]
  exact g
theorem g_laddW (hc : clook cd pc = some (.ladd, nx, a, k, q, z)) (g : Wk w d cd nx ls (aJ (w64 (x + y)) :: s) h Q) : Wk w d cd pc ls (aJ y :: aJ x :: s) h Q := by
  obtain ⟨r, h1, n, u, v9⟩ := g
  exact ⟨r, h1, n + 1, ⟨_, _, _, _, _, _, hc, y, x, s, rfl, u⟩, v9⟩
theorem g_ladd (hc : clook cd pc = some (.ladd, nx, a, k, q, z)) (h1 : -9223372036854775808 ≤ x + y) (h2 : x + y < 9223372036854775808) (g : Wk w d cd nx ls (aJ (x + y) :: s) h Q) : Wk w d cd pc ls (aJ y :: aJ x :: s) h Q := by
  refine g_laddW hc ?_
  rw [w64_id ⟨h1, h2⟩]
  exact g
theorem g_lsubW (hc : clook cd pc = some (.lsub, nx, a, k, q, z)) (g : Wk w d cd nx ls (aJ (w64 (x - y)) :: s) h Q) : Wk w d cd pc ls (aJ y :: aJ x :: s) h Q := by
  obtain ⟨r, h1, n, u, v9⟩ := g
  exact ⟨r, h1, n + 1, ⟨_, _, _, _, _, _, hc, y, x, s, rfl, u⟩, v9⟩
theorem g_lsub (hc : clook cd pc = some (.lsub, nx, a, k, q, z)) (h1 : -9223372036854775808 ≤ x - y) (h2 : x - y < 9223372036854775808) (g : Wk w d cd nx ls (aJ (x - y) :: s) h Q) : Wk w d cd pc ls (aJ y :: aJ x :: s) h Q := by
  refine g_lsubW hc ?_
  rw [w64_id ⟨h1, h2⟩]
  exact g
theorem g_lmulW (hc : clook cd pc = some (.lmul, nx, a, k, q, z)) (g : Wk w d cd nx ls (aJ (w64 (x * y)) :: s) h Q) : Wk w d cd pc ls (aJ y :: aJ x :: s) h Q := by
  obtain ⟨r, h1, n, u, v9⟩ := g
  exact ⟨r, h1, n + 1, ⟨_, _, _, _, _, _, hc, y, x, s, rfl, u⟩, v9⟩
theorem g_lmul (hc : clook cd pc = some (.lmul, nx, a, k, q, z)) (h1 : -9223372036854775808 ≤ x * y) (h2 : x * y < 9223372036854775808) (g : Wk w d cd nx ls (aJ (x * y) :: s) h Q) : Wk w d cd pc ls (aJ y :: aJ x :: s) h Q := by
  refine g_lmulW hc ?_
  rw [w64_id ⟨h1, h2⟩]
  exact g
theorem g_iand (hc : clook cd pc = some (.iand, nx, a, k, q, z)) (g : Wk w d cd nx ls (aI (iand x y) :: s) h Q) : Wk w d cd pc ls (aI y :: aI x :: s) h Q := by
  obtain ⟨r, h1, n, u, v9⟩ := g
  exact ⟨r, h1, n + 1, ⟨_, _, _, _, _, _, hc, y, x, s, rfl, u⟩, v9⟩
theorem g_ior (hc : clook cd pc = some (.ior, nx, a, k, q, z)) (g : Wk w d cd nx ls (aI (ior x y) :: s) h Q) : Wk w d cd pc ls (aI y :: aI x :: s) h Q := by
  obtain ⟨r, h1, n, u, v9⟩ := g
  exact ⟨r, h1, n + 1, ⟨_, _, _, _, _, _, hc, y, x, s, rfl, u⟩, v9⟩
theorem g_ixor (hc : clook cd pc = some (.ixor, nx, a, k, q, z)) (g : Wk w d cd nx ls (aI (ixor x y) :: s) h Q) : Wk w d cd pc ls (aI y :: aI x :: s) h Q := by
  obtain ⟨r, h1, n, u, v9⟩ := g
  exact ⟨r, h1, n + 1, ⟨_, _, _, _, _, _, hc, y, x, s, rfl, u⟩, v9⟩
theorem g_ishl (hc : clook cd pc = some (.ishl, nx, a, k, q, z)) (g : Wk w d cd nx ls (aI (ishl x y) :: s) h Q) : Wk w d cd pc ls (aI y :: aI x :: s) h Q := by
  obtain ⟨r, h1, n, u, v9⟩ := g
  exact ⟨r, h1, n + 1, ⟨_, _, _, _, _, _, hc, y, x, s, rfl, u⟩, v9⟩
theorem g_ishr (hc : clook cd pc = some (.ishr, nx, a, k, q, z)) (g : Wk w d cd nx ls (aI (ishr x y) :: s) h Q) : Wk w d cd pc ls (aI y :: aI x :: s) h Q := by
  obtain ⟨r, h1, n, u, v9⟩ := g
  exact ⟨r, h1, n + 1, ⟨_, _, _, _, _, _, hc, y, x, s, rfl, u⟩, v9⟩
theorem g_iushr (hc : clook cd pc = some (.iushr, nx, a, k, q, z)) (g : Wk w d cd nx ls (aI (iushr x y) :: s) h Q) : Wk w d cd pc ls (aI y :: aI x :: s) h Q := by
  obtain ⟨r, h1, n, u, v9⟩ := g
  exact ⟨r, h1, n + 1, ⟨_, _, _, _, _, _, hc, y, x, s, rfl, u⟩, v9⟩
theorem g_land (hc : clook cd pc = some (.land, nx, a, k, q, z)) (g : Wk w d cd nx ls (aJ (land x y) :: s) h Q) : Wk w d cd pc ls (aJ y :: aJ x :: s) h Q := by
  obtain ⟨r, h1, n, u, v9⟩ := g
  exact ⟨r, h1, n + 1, ⟨_, _, _, _, _, _, hc, y, x, s, rfl, u⟩, v9⟩
theorem g_lor (hc : clook cd pc = some (.lor, nx, a, k, q, z)) (g : Wk w d cd nx ls (aJ (lor x y) :: s) h Q) : Wk w d cd pc ls (aJ y :: aJ x :: s) h Q := by
  obtain ⟨r, h1, n, u, v9⟩ := g
  exact ⟨r, h1, n + 1, ⟨_, _, _, _, _, _, hc, y, x, s, rfl, u⟩, v9⟩
theorem g_lxor (hc : clook cd pc = some (.lxor, nx, a, k, q, z)) (g : Wk w d cd nx ls (aJ (lxor x y) :: s) h Q) : Wk w d cd pc ls (aJ y :: aJ x :: s) h Q := by
  obtain ⟨r, h1, n, u, v9⟩ := g
  exact ⟨r, h1, n + 1, ⟨_, _, _, _, _, _, hc, y, x, s, rfl, u⟩, v9⟩
theorem g_lshl (hc : clook cd pc = some (.lshl, nx, a, k, q, z)) (g : Wk w d cd nx ls (aJ (lshl x y) :: s) h Q) : Wk w d cd pc ls (aI y :: aJ x :: s) h Q := by
  obtain ⟨r, h1, n, u, v9⟩ := g
  exact ⟨r, h1, n + 1, ⟨_, _, _, _, _, _, hc, y, x, s, rfl, u⟩, v9⟩
theorem g_lshr (hc : clook cd pc = some (.lshr, nx, a, k, q, z)) (g : Wk w d cd nx ls (aJ (lshr x y) :: s) h Q) : Wk w d cd pc ls (aI y :: aJ x :: s) h Q := by
  obtain ⟨r, h1, n, u, v9⟩ := g
  exact ⟨r, h1, n + 1, ⟨_, _, _, _, _, _, hc, y, x, s, rfl, u⟩, v9⟩
theorem g_lushr (hc : clook cd pc = some (.lushr, nx, a, k, q, z)) (g : Wk w d cd nx ls (aJ (lushr x y) :: s) h Q) : Wk w d cd pc ls (aI y :: aJ x :: s) h Q := by
  obtain ⟨r, h1, n, u, v9⟩ := g
  exact ⟨r, h1, n + 1, ⟨_, _, _, _, _, _, hc, y, x, s, rfl, u⟩, v9⟩
theorem g_lcmp (hc : clook cd pc = some (.lcmp, nx, a, k, q, z)) (g : Wk w d cd nx ls (aI (lcmp x y) :: s) h Q) : Wk w d cd pc ls (aJ y :: aJ x :: s) h Q := by
  obtain ⟨r, h1, n, u, v9⟩ := g
  exact ⟨r, h1, n + 1, ⟨_, _, _, _, _, _, hc, y, x, s, rfl, u⟩, v9⟩
theorem g_idiv (hc : clook cd pc = some (.idiv, nx, a, k, q, z)) (h0 : y ≠ 0) (g : Wk w d cd nx ls (aI (w32 (x.tdiv y)) :: s) h Q) : Wk w d cd pc ls (aI y :: aI x :: s) h Q := by
  obtain ⟨r, h1, n, u, v9⟩ := g
  exact ⟨r, h1, n + 1, ⟨_, _, _, _, _, _, hc, y, x, s, rfl, h0, u⟩, v9⟩
theorem g_irem (hc : clook cd pc = some (.irem, nx, a, k, q, z)) (h0 : y ≠ 0) (g : Wk w d cd nx ls (aI (x.tmod y) :: s) h Q) : Wk w d cd pc ls (aI y :: aI x :: s) h Q := by
  obtain ⟨r, h1, n, u, v9⟩ := g
  exact ⟨r, h1, n + 1, ⟨_, _, _, _, _, _, hc, y, x, s, rfl, h0, u⟩, v9⟩
theorem g_ldiv (hc : clook cd pc = some (.ldiv, nx, a, k, q, z)) (h0 : y ≠ 0) (g : Wk w d cd nx ls (aJ (w64 (x.tdiv y)) :: s) h Q) : Wk w d cd pc ls (aJ y :: aJ x :: s) h Q := by
  obtain ⟨r, h1, n, u, v9⟩ := g
  exact ⟨r, h1, n + 1, ⟨_, _, _, _, _, _, hc, y, x, s, rfl, h0, u⟩, v9⟩
theorem g_lrem (hc : clook cd pc = some (.lrem, nx, a, k, q, z)) (h0 : y ≠ 0) (g : Wk w d cd nx ls (aJ (x.tmod y) :: s) h Q) : Wk w d cd pc ls (aJ y :: aJ x :: s) h Q := by
  obtain ⟨r, h1, n, u, v9⟩ := g
  exact ⟨r, h1, n + 1, ⟨_, _, _, _, _, _, hc, y, x, s, rfl, h0, u⟩, v9⟩
theorem g_ineg (hc : clook cd pc = some (.ineg, nx, a, k, q, z)) (g : Wk w d cd nx ls (aI (w32 (-x)) :: s) h Q) : Wk w d cd pc ls (aI x :: s) h Q := by
  obtain ⟨r, h1, n, u, v9⟩ := g
  exact ⟨r, h1, n + 1, ⟨_, _, _, _, _, _, hc, x, s, rfl, u⟩, v9⟩
theorem g_lneg (hc : clook cd pc = some (.lneg, nx, a, k, q, z)) (g : Wk w d cd nx ls (aJ (w64 (-x)) :: s) h Q) : Wk w d cd pc ls (aJ x :: s) h Q := by
  obtain ⟨r, h1, n, u, v9⟩ := g
  exact ⟨r, h1, n + 1, ⟨_, _, _, _, _, _, hc, x, s, rfl, u⟩, v9⟩
theorem g_i2l (hc : clook cd pc = some (.i2l, nx, a, k, q, z)) (g : Wk w d cd nx ls (aJ x :: s) h Q) : Wk w d cd pc ls (aI x :: s) h Q := by
  obtain ⟨r, h1, n, u, v9⟩ := g
  exact ⟨r, h1, n + 1, ⟨_, _, _, _, _, _, hc, x, s, rfl, u⟩, v9⟩
theorem g_l2i (hc : clook cd pc = some (.l2i, nx, a, k, q, z)) (g : Wk w d cd nx ls (aI (w32 x) :: s) h Q) : Wk w d cd pc ls (aJ x :: s) h Q := by
  obtain ⟨r, h1, n, u, v9⟩ := g
  exact ⟨r, h1, n + 1, ⟨_, _, _, _, _, _, hc, x, s, rfl, u⟩, v9⟩
theorem g_l2d (hc : clook cd pc = some (.l2d, nx, a, k, q, z)) (g : Wk w d cd nx ls (aD (FP.l2d (Int64.ofInt x)) :: s) h Q) : Wk w d cd pc ls (aJ x :: s) h Q := by
  obtain ⟨r, h1, n, u, v9⟩ := g
  exact ⟨r, h1, n + 1, ⟨_, _, _, _, _, _, hc, x, s, rfl, u⟩, v9⟩
theorem g_ddiv {e f : UInt64} (hc : clook cd pc = some (.ddiv, nx, a, k, q, z)) (h0 : vf_n64 (FP.ddiv e f)) (g : Wk w d cd nx ls (aD (FP.ddiv e f) :: s) h Q) : Wk w d cd pc ls (aD f :: aD e :: s) h Q := by
  obtain ⟨r, h1, n, u, v9⟩ := g
  exact ⟨r, h1, n + 1, ⟨_, _, _, _, _, _, hc, f, e, s, rfl, h0, u⟩, v9⟩
theorem g_dcmp {op : CmpOp} {e f : UInt64} (hc : clook cd pc = some (.dcmp op, nx, a, k, q, z)) (g : Wk w d cd nx ls (aI (Op.cmpValue (FP.dcmp e f) op).toInt :: s) h Q) : Wk w d cd pc ls (aD f :: aD e :: s) h Q := by
  obtain ⟨r, h1, n, u, v9⟩ := g
  exact ⟨r, h1, n + 1, ⟨_, _, _, _, _, _, hc, f, e, s, rfl, u⟩, v9⟩
theorem g_null (hc : clook cd pc = some (.aconst_null, nx, a, k, q, z)) (g : Wk w d cd nx ls (aO none :: s) h Q) : Wk w d cd pc ls s h Q := by
  obtain ⟨r, h1, n, u, v9⟩ := g
  exact ⟨r, h1, n + 1, ⟨_, _, _, _, _, _, hc, u⟩, v9⟩
theorem g_iconst {c : Int} (hc : clook cd pc = some (.iconst c, nx, a, k, q, z)) (g : Wk w d cd nx ls (aI c :: s) h Q) : Wk w d cd pc ls s h Q := by
  obtain ⟨r, h1, n, u, v9⟩ := g
  exact ⟨r, h1, n + 1, ⟨_, _, _, _, _, _, hc, u⟩, v9⟩
theorem g_bipush {c : Int} (hc : clook cd pc = some (.bipush c, nx, a, k, q, z)) (g : Wk w d cd nx ls (aI c :: s) h Q) : Wk w d cd pc ls s h Q := by
  obtain ⟨r, h1, n, u, v9⟩ := g
  exact ⟨r, h1, n + 1, ⟨_, _, _, _, _, _, hc, u⟩, v9⟩
theorem g_sipush {c : Int} (hc : clook cd pc = some (.sipush c, nx, a, k, q, z)) (g : Wk w d cd nx ls (aI c :: s) h Q) : Wk w d cd pc ls s h Q := by
  obtain ⟨r, h1, n, u, v9⟩ := g
  exact ⟨r, h1, n + 1, ⟨_, _, _, _, _, _, hc, u⟩, v9⟩
theorem g_lconst {c : Fin 2} (hc : clook cd pc = some (.lconst c, nx, a, k, q, z)) (g : Wk w d cd nx ls (aJ (c.val : Int) :: s) h Q) : Wk w d cd pc ls s h Q := by
  obtain ⟨r, h1, n, u, v9⟩ := g
  exact ⟨r, h1, n + 1, ⟨_, _, _, _, _, _, hc, u⟩, v9⟩
theorem g_lconst0 (hc : clook cd pc = some (.lconst 0, nx, a, k, q, z)) (g : Wk w d cd nx ls (aJ 0 :: s) h Q) : Wk w d cd pc ls s h Q := by
  obtain ⟨r, h1, n, u, v9⟩ := g
  exact ⟨r, h1, n + 1, ⟨_, _, _, _, _, _, hc, u⟩, v9⟩
theorem g_lconst1 (hc : clook cd pc = some (.lconst 1, nx, a, k, q, z)) (g : Wk w d cd nx ls (aJ 1 :: s) h Q) : Wk w d cd pc ls s h Q := by
  obtain ⟨r, h1, n, u, v9⟩ := g
  exact ⟨r, h1, n + 1, ⟨_, _, _, _, _, _, hc, u⟩, v9⟩
theorem g_dconst (hc : clook cd pc = some (.dconst 0, nx, a, k, q, z)) (g : Wk w d cd nx ls (aD FP.dconst0 :: s) h Q) : Wk w d cd pc ls s h Q := by
  obtain ⟨r, h1, n, u, v9⟩ := g
  exact ⟨r, h1, n + 1, ⟨_, _, _, _, _, _, hc, rfl, u⟩, v9⟩
theorem g_ldcI {c : Nat} (hc : clook cd pc = some (.ldc c, nx, a, k, q, z)) (h0 : a = 0) (g : Wk w d cd nx ls (aI z :: s) h Q) : Wk w d cd pc ls s h Q := by
  obtain ⟨r, h1, n, u, v9⟩ := g
  exact ⟨r, h1, n + 1, ⟨_, _, _, _, _, _, hc, Or.inl ⟨h0, u⟩⟩, v9⟩
theorem g_ldcT {c : Nat} (hc : clook cd pc = some (.ldc c, nx, a, k, q, z)) (h0 : a ≠ 0) (g : Wk w d cd nx ls (aO (some (w (a - 1))) :: s) h Q) : Wk w d cd pc ls s h Q := by
  obtain ⟨r, h1, n, u, v9⟩ := g
  exact ⟨r, h1, n + 1, ⟨_, _, _, _, _, _, hc, Or.inr ⟨h0, u⟩⟩, v9⟩
theorem g_ldc2 {c : Nat} (hc : clook cd pc = some (.ldc2_w c, nx, a, k, q, z)) (g : Wk w d cd nx ls (aJ z :: s) h Q) : Wk w d cd pc ls s h Q := by
  obtain ⟨r, h1, n, u, v9⟩ := g
  exact ⟨r, h1, n + 1, ⟨_, _, _, _, _, _, hc, u⟩, v9⟩
theorem g_iload {i : Nat} {v : Int} (hc : clook cd pc = some (.iload i, nx, a, k, q, z)) (hl : lget ls i = some (aI v)) (g : Wk w d cd nx ls (aI v :: s) h Q) : Wk w d cd pc ls s h Q := by
  obtain ⟨r, h1, n, u, v9⟩ := g
  exact ⟨r, h1, n + 1, ⟨_, _, _, _, _, _, hc, v, hl, u⟩, v9⟩
theorem g_iload_n {i : Fin 4} {v : Int} (hc : clook cd pc = some (.iload_n i, nx, a, k, q, z)) (hl : lget ls i.val = some (aI v)) (g : Wk w d cd nx ls (aI v :: s) h Q) : Wk w d cd pc ls s h Q := by
  obtain ⟨r, h1, n, u, v9⟩ := g
  exact ⟨r, h1, n + 1, ⟨_, _, _, _, _, _, hc, v, hl, u⟩, v9⟩
theorem g_lload {i : Nat} {v : Int} (hc : clook cd pc = some (.lload i, nx, a, k, q, z)) (hl : lget ls i = some (aJ v)) (g : Wk w d cd nx ls (aJ v :: s) h Q) : Wk w d cd pc ls s h Q := by
  obtain ⟨r, h1, n, u, v9⟩ := g
  exact ⟨r, h1, n + 1, ⟨_, _, _, _, _, _, hc, v, hl, u⟩, v9⟩
theorem g_lload_n {i : Fin 4} {v : Int} (hc : clook cd pc = some (.lload_n i, nx, a, k, q, z)) (hl : lget ls i.val = some (aJ v)) (g : Wk w d cd nx ls (aJ v :: s) h Q) : Wk w d cd pc ls s h Q := by
  obtain ⟨r, h1, n, u, v9⟩ := g
  exact ⟨r, h1, n + 1, ⟨_, _, _, _, _, _, hc, v, hl, u⟩, v9⟩
theorem g_aload {i : Nat} {v : Option Nat} (hc : clook cd pc = some (.aload i, nx, a, k, q, z)) (hl : lget ls i = some (aO v)) (g : Wk w d cd nx ls (aO v :: s) h Q) : Wk w d cd pc ls s h Q := by
  obtain ⟨r, h1, n, u, v9⟩ := g
  exact ⟨r, h1, n + 1, ⟨_, _, _, _, _, _, hc, v, hl, u⟩, v9⟩
theorem g_aload_n {i : Fin 4} {v : Option Nat} (hc : clook cd pc = some (.aload_n i, nx, a, k, q, z)) (hl : lget ls i.val = some (aO v)) (g : Wk w d cd nx ls (aO v :: s) h Q) : Wk w d cd pc ls s h Q := by
  obtain ⟨r, h1, n, u, v9⟩ := g
  exact ⟨r, h1, n + 1, ⟨_, _, _, _, _, _, hc, v, hl, u⟩, v9⟩
theorem g_dload {i : Nat} {v : UInt64} (hc : clook cd pc = some (.dload i, nx, a, k, q, z)) (hl : lget ls i = some (aD v)) (g : Wk w d cd nx ls (aD v :: s) h Q) : Wk w d cd pc ls s h Q := by
  obtain ⟨r, h1, n, u, v9⟩ := g
  exact ⟨r, h1, n + 1, ⟨_, _, _, _, _, _, hc, v, hl, u⟩, v9⟩
theorem g_istore {i : Nat} {v : Int} {l1 : aLs} (hc : clook cd pc = some (.istore i, nx, a, k, q, z)) (hl : lput1 ls i (aI v) = l1) (g : Wk w d cd nx l1 s h Q) : Wk w d cd pc ls (aI v :: s) h Q := by
  subst hl
  obtain ⟨r, h1, n, u, v1⟩ := g
  exact ⟨r, h1, n + 1, ⟨_, _, _, _, _, _, hc, v, s, rfl, u⟩, v1⟩
theorem g_istore_n {i : Fin 4} {v : Int} {l1 : aLs} (hc : clook cd pc = some (.istore_n i, nx, a, k, q, z)) (hl : lput1 ls i.val (aI v) = l1) (g : Wk w d cd nx l1 s h Q) : Wk w d cd pc ls (aI v :: s) h Q := by
  subst hl
  obtain ⟨r, h1, n, u, v1⟩ := g
  exact ⟨r, h1, n + 1, ⟨_, _, _, _, _, _, hc, v, s, rfl, u⟩, v1⟩
theorem g_lstore {i : Nat} {v : Int} {l1 : aLs} (hc : clook cd pc = some (.lstore i, nx, a, k, q, z)) (hl : lput2 ls i (aJ v) = l1) (g : Wk w d cd nx l1 s h Q) : Wk w d cd pc ls (aJ v :: s) h Q := by
  subst hl
  obtain ⟨r, h1, n, u, v1⟩ := g
  exact ⟨r, h1, n + 1, ⟨_, _, _, _, _, _, hc, v, s, rfl, u⟩, v1⟩
theorem g_lstore_n {i : Fin 4} {v : Int} {l1 : aLs} (hc : clook cd pc = some (.lstore_n i, nx, a, k, q, z)) (hl : lput2 ls i.val (aJ v) = l1) (g : Wk w d cd nx l1 s h Q) : Wk w d cd pc ls (aJ v :: s) h Q := by
  subst hl
  obtain ⟨r, h1, n, u, v1⟩ := g
  exact ⟨r, h1, n + 1, ⟨_, _, _, _, _, _, hc, v, s, rfl, u⟩, v1⟩
theorem g_astore {i : Nat} {v : Option Nat} {l1 : aLs} (hc : clook cd pc = some (.astore i, nx, a, k, q, z)) (hl : lput1 ls i (aO v) = l1) (g : Wk w d cd nx l1 s h Q) : Wk w d cd pc ls (aO v :: s) h Q := by
  subst hl
  obtain ⟨r, h1, n, u, v1⟩ := g
  exact ⟨r, h1, n + 1, ⟨_, _, _, _, _, _, hc, v, s, rfl, u⟩, v1⟩
theorem g_astore_n {i : Fin 4} {v : Option Nat} {l1 : aLs} (hc : clook cd pc = some (.astore_n i, nx, a, k, q, z)) (hl : lput1 ls i.val (aO v) = l1) (g : Wk w d cd nx l1 s h Q) : Wk w d cd pc ls (aO v :: s) h Q := by
  subst hl
  obtain ⟨r, h1, n, u, v1⟩ := g
  exact ⟨r, h1, n + 1, ⟨_, _, _, _, _, _, hc, v, s, rfl, u⟩, v1⟩
theorem g_dstore {i : Nat} {v : UInt64} {l1 : aLs} (hc : clook cd pc = some (.dstore i, nx, a, k, q, z)) (hl : lput2 ls i (aD v) = l1) (g : Wk w d cd nx l1 s h Q) : Wk w d cd pc ls (aD v :: s) h Q := by
  subst hl
  obtain ⟨r, h1, n, u, v1⟩ := g
  exact ⟨r, h1, n + 1, ⟨_, _, _, _, _, _, hc, v, s, rfl, u⟩, v1⟩
theorem g_dstore_n {i : Fin 4} {v : UInt64} {l1 : aLs} (hc : clook cd pc = some (.dstore_n i, nx, a, k, q, z)) (hl : lput2 ls i.val (aD v) = l1) (g : Wk w d cd nx l1 s h Q) : Wk w d cd pc ls (aD v :: s) h Q := by
  subst hl
  obtain ⟨r, h1, n, u, v1⟩ := g
  exact ⟨r, h1, n + 1, ⟨_, _, _, _, _, _, hc, v, s, rfl, u⟩, v1⟩
theorem g_iincW {i : Nat} {c v : Int} {l1 : aLs} (hc : clook cd pc = some (.iinc i c, nx, a, k, q, z)) (hl : lget ls i = some (aI v)) (hp : lput1 ls i (aI (w32 (v + c))) = l1) (g : Wk w d cd nx l1 s h Q) : Wk w d cd pc ls s h Q := by
  subst hp
  obtain ⟨r, h1, n, u, v1⟩ := g
  exact ⟨r, h1, n + 1, ⟨_, _, _, _, _, _, hc, v, hl, u⟩, v1⟩
theorem g_iinc {i : Nat} {c v : Int} {l1 : aLs} (hc : clook cd pc = some (.iinc i c, nx, a, k, q, z)) (hl : lget ls i = some (aI v)) (h1 : -2147483648 ≤ v + c) (h2 : v + c < 2147483648) (hp : lput1 ls i (aI (v + c)) = l1) (g : Wk w d cd nx l1 s h Q) : Wk w d cd pc ls s h Q :=
  g_iincW hc hl (by rw [w32_id ⟨h1, h2⟩]; exact hp) g
theorem g_dup {v : aV} (hc : clook cd pc = some (.dup, nx, a, k, q, z)) (h0 : acat v = 1) (g : Wk w d cd nx ls (v :: v :: s) h Q) : Wk w d cd pc ls (v :: s) h Q := by
  obtain ⟨r, h1, n, u, v1⟩ := g
  exact ⟨r, h1, n + 1, ⟨_, _, _, _, _, _, hc, v, s, rfl, h0, u⟩, v1⟩
theorem g_dup2 {v v2 : aV} (hc : clook cd pc = some (.dup2, nx, a, k, q, z)) (h0 : acat v = 1) (h02 : acat v2 = 1) (g : Wk w d cd nx ls (v :: v2 :: v :: v2 :: s) h Q) : Wk w d cd pc ls (v :: v2 :: s) h Q := by
  obtain ⟨r, h1, n, u, v1⟩ := g
  exact ⟨r, h1, n + 1, ⟨_, _, _, _, _, _, hc, v, v2, s, rfl, h0, h02, u⟩, v1⟩
theorem g_pop {v : aV} (hc : clook cd pc = some (.pop, nx, a, k, q, z)) (h0 : acat v = 1) (g : Wk w d cd nx ls s h Q) : Wk w d cd pc ls (v :: s) h Q := by
  obtain ⟨r, h1, n, u, v1⟩ := g
  exact ⟨r, h1, n + 1, ⟨_, _, _, _, _, _, hc, v, s, rfl, h0, u⟩, v1⟩
theorem g_goto {c : Int} (hc : clook cd pc = some (.goto c, nx, a, k, q, z)) (g : Wk w d cd a ls s h Q) : Wk w d cd pc ls s h Q := by
  obtain ⟨r, h1, n, u, v1⟩ := g
  exact ⟨r, h1, n + 1, ⟨_, _, _, _, _, _, hc, u⟩, v1⟩
theorem g_ifB {c : ClassFile.Cond} {f : Int} {b : Bool} (hc : clook cd pc = some (.ifCond c f, nx, a, k, q, z)) (hb : ccmp c x 0 = b) (g : Wk w d cd (bif b then a else nx) ls s h Q) : Wk w d cd pc ls (aI x :: s) h Q := by
  subst hb
  obtain ⟨r, h1, n, u, v1⟩ := g
  exact ⟨r, h1, n + 1, ⟨_, _, _, _, _, _, hc, x, s, rfl, u⟩, v1⟩
theorem g_icmpB {c : ClassFile.Cond} {f : Int} {b : Bool} (hc : clook cd pc = some (.if_icmp c f, nx, a, k, q, z)) (hb : ccmp c x y = b) (g : Wk w d cd (bif b then a else nx) ls s h Q) : Wk w d cd pc ls (aI y :: aI x :: s) h Q := by
  subst hb
  obtain ⟨r, h1, n, u, v1⟩ := g
  exact ⟨r, h1, n + 1, ⟨_, _, _, _, _, _, hc, y, x, s, rfl, u⟩, v1⟩
theorem g_if_eq {f : Int} (hc : clook cd pc = some (.ifCond .eq f, nx, a, k, q, z)) (gt : x = 0 → Wk w d cd a ls s h Q) (gf : x ≠ 0 → Wk w d cd nx ls s h Q) : Wk w d cd pc ls (aI x :: s) h Q := by
  by_cases e : ccmp .eq x 0 = true
  · refine g_ifB (b := true) hc e (gt ?_)
    simp only [ccmp, Bool.not_eq_true', decide_eq_true_eq, decide_eq_false_iff_not] at e
    omega
  · refine g_ifB (b := false) hc (by simpa using e) (gf ?_)
    simp only [ccmp, Bool.not_eq_true', decide_eq_true_eq, decide_eq_false_iff_not] at e
    omega
theorem g_if_eq_t {f : Int} (hc : clook cd pc = some (.ifCond .eq f, nx, a, k, q, z)) (h0 : x = 0) (gt : Wk w d cd a ls s h Q) : Wk w d cd pc ls (aI x :: s) h Q := g_if_eq hc (fun _ => gt) (fun e => absurd h0 (by omega))
theorem g_if_eq_f {f : Int} (hc : clook cd pc = some (.ifCond .eq f, nx, a, k, q, z)) (h0 : x ≠ 0) (gf : Wk w d cd nx ls s h Q) : Wk w d cd pc ls (aI x :: s) h Q := g_if_eq hc (fun e => absurd h0 (by omega)) (fun _ => gf)
theorem g_icmp_eq {f : Int} (hc : clook cd pc = some (.if_icmp .eq f, nx, a, k, q, z)) (gt : x = y → Wk w d cd a ls s h Q) (gf : x ≠ y → Wk w d cd nx ls s h Q) : Wk w d cd pc ls (aI y :: aI x :: s) h Q := by
  by_cases e : ccmp .eq x y = true
  · refine g_icmpB (b := true) hc e (gt ?_)
    simp only [ccmp, Bool.not_eq_true', decide_eq_true_eq, decide_eq_false_iff_not] at e
    omega
  · refine g_icmpB (b := false) hc (by simpa using e) (gf ?_)
    simp only [ccmp, Bool.not_eq_true', decide_eq_true_eq, decide_eq_false_iff_not] at e
    omega
theorem g_icmp_eq_t {f : Int} (hc : clook cd pc = some (.if_icmp .eq f, nx, a, k, q, z)) (h0 : x = y) (gt : Wk w d cd a ls s h Q) : Wk w d cd pc ls (aI y :: aI x :: s) h Q := g_icmp_eq hc (fun _ => gt) (fun e => absurd h0 (by omega))
theorem g_icmp_eq_f {f : Int} (hc : clook cd pc = some (.if_icmp .eq f, nx, a, k, q, z)) (h0 : x ≠ y) (gf : Wk w d cd nx ls s h Q) : Wk w d cd pc ls (aI y :: aI x :: s) h Q := g_icmp_eq hc (fun e => absurd h0 (by omega)) (fun _ => gf)
theorem g_if_ne {f : Int} (hc : clook cd pc = some (.ifCond .ne f, nx, a, k, q, z)) (gt : x ≠ 0 → Wk w d cd a ls s h Q) (gf : x = 0 → Wk w d cd nx ls s h Q) : Wk w d cd pc ls (aI x :: s) h Q := by
  by_cases e : ccmp .ne x 0 = true
  · refine g_ifB (b := true) hc e (gt ?_)
    simp only [ccmp, Bool.not_eq_true', decide_eq_true_eq, decide_eq_false_iff_not] at e
    omega
  · refine g_ifB (b := false) hc (by simpa using e) (gf ?_)
    simp only [ccmp, Bool.not_eq_true', decide_eq_true_eq, decide_eq_false_iff_not] at e
    omega
theorem g_if_ne_t {f : Int} (hc : clook cd pc = some (.ifCond .ne f, nx, a, k, q, z)) (h0 : x ≠ 0) (gt : Wk w d cd a ls s h Q) : Wk w d cd pc ls (aI x :: s) h Q := g_if_ne hc (fun _ => gt) (fun e => absurd h0 (by omega))
theorem g_if_ne_f {f : Int} (hc : clook cd pc = some (.ifCond .ne f, nx, a, k, q, z)) (h0 : x = 0) (gf : Wk w d cd nx ls s h Q) : Wk w d cd pc ls (aI x :: s) h Q := g_if_ne hc (fun e => absurd h0 (by omega)) (fun _ => gf)
theorem g_icmp_ne {f : Int} (hc : clook cd pc = some (.if_icmp .ne f, nx, a, k, q, z)) (gt : x ≠ y → Wk w d cd a ls s h Q) (gf : x = y → Wk w d cd nx ls s h Q) : Wk w d cd pc ls (aI y :: aI x :: s) h Q := by
  by_cases e : ccmp .ne x y = true
  · refine g_icmpB (b := true) hc e (gt ?_)
    simp only [ccmp, Bool.not_eq_true', decide_eq_true_eq, decide_eq_false_iff_not] at e
    omega
  · refine g_icmpB (b := false) hc (by simpa using e) (gf ?_)
    simp only [ccmp, Bool.not_eq_true', decide_eq_true_eq, decide_eq_false_iff_not] at e
    omega
theorem g_icmp_ne_t {f : Int} (hc : clook cd pc = some (.if_icmp .ne f, nx, a, k, q, z)) (h0 : x ≠ y) (gt : Wk w d cd a ls s h Q) : Wk w d cd pc ls (aI y :: aI x :: s) h Q := g_icmp_ne hc (fun _ => gt) (fun e => absurd h0 (by omega))
theorem g_icmp_ne_f {f : Int} (hc : clook cd pc = some (.if_icmp .ne f, nx, a, k, q, z)) (h0 : x = y) (gf : Wk w d cd nx ls s h Q) : Wk w d cd pc ls (aI y :: aI x :: s) h Q := g_icmp_ne hc (fun e => absurd h0 (by omega)) (fun _ => gf)
theorem g_if_lt {f : Int} (hc : clook cd pc = some (.ifCond .lt f, nx, a, k, q, z)) (gt : x < 0 → Wk w d cd a ls s h Q) (gf : 0 ≤ x → Wk w d cd nx ls s h Q) : Wk w d cd pc ls (aI x :: s) h Q := by
  by_cases e : ccmp .lt x 0 = true
  · refine g_ifB (b := true) hc e (gt ?_)
    simp only [ccmp, Bool.not_eq_true', decide_eq_true_eq, decide_eq_false_iff_not] at e
    omega
  · refine g_ifB (b := false) hc (by simpa using e) (gf ?_)
    simp only [ccmp, Bool.not_eq_true', decide_eq_true_eq, decide_eq_false_iff_not] at e
    omega
theorem g_if_lt_t {f : Int} (hc : clook cd pc = some (.ifCond .lt f, nx, a, k, q, z)) (h0 : x < 0) (gt : Wk w d cd a ls s h Q) : Wk w d cd pc ls (aI x :: s) h Q := g_if_lt hc (fun _ => gt) (fun e => absurd h0 (by omega))
theorem g_if_lt_f {f : Int} (hc : clook cd pc = some (.ifCond .lt f, nx, a, k, q, z)) (h0 : 0 ≤ x) (gf : Wk w d cd nx ls s h Q) : Wk w d cd pc ls (aI x :: s) h Q := g_if_lt hc (fun e => absurd h0 (by omega)) (fun _ => gf)
theorem g_icmp_lt {f : Int} (hc : clook cd pc = some (.if_icmp .lt f, nx, a, k, q, z)) (gt : x < y → Wk w d cd a ls s h Q) (gf : y ≤ x → Wk w d cd nx ls s h Q) : Wk w d cd pc ls (aI y :: aI x :: s) h Q := by
  by_cases e : ccmp .lt x y = true
  · refine g_icmpB (b := true) hc e (gt ?_)
    simp only [ccmp, Bool.not_eq_true', decide_eq_true_eq, decide_eq_false_iff_not] at e
    omega
  · refine g_icmpB (b := false) hc (by simpa using e) (gf ?_)
    simp only [ccmp, Bool.not_eq_true', decide_eq_true_eq, decide_eq_false_iff_not] at e
    omega
theorem g_icmp_lt_t {f : Int} (hc : clook cd pc = some (.if_icmp .lt f, nx, a, k, q, z)) (h0 : x < y) (gt : Wk w d cd a ls s h Q) : Wk w d cd pc ls (aI y :: aI x :: s) h Q := g_icmp_lt hc (fun _ => gt) (fun e => absurd h0 (by omega))
theorem g_icmp_lt_f {f : Int} (hc : clook cd pc = some (.if_icmp .lt f, nx, a, k, q, z)) (h0 : y ≤ x) (gf : Wk w d cd nx ls s h Q) : Wk w d cd pc ls (aI y :: aI x :: s) h Q := g_icmp_lt hc (fun e => absurd h0 (by omega)) (fun _ => gf)
theorem g_if_ge {f : Int} (hc : clook cd pc = some (.ifCond .ge f, nx, a, k, q, z)) (gt : 0 ≤ x → Wk w d cd a ls s h Q) (gf : x < 0 → Wk w d cd nx ls s h Q) : Wk w d cd pc ls (aI x :: s) h Q := by
  by_cases e : ccmp .ge x 0 = true
  · refine g_ifB (b := true) hc e (gt ?_)
    simp only [ccmp, Bool.not_eq_true', decide_eq_true_eq, decide_eq_false_iff_not] at e
    omega
  · refine g_ifB (b := false) hc (by simpa using e) (gf ?_)
    simp only [ccmp, Bool.not_eq_true', decide_eq_true_eq, decide_eq_false_iff_not] at e
    omega
theorem g_if_ge_t {f : Int} (hc : clook cd pc = some (.ifCond .ge f, nx, a, k, q, z)) (h0 : 0 ≤ x) (gt : Wk w d cd a ls s h Q) : Wk w d cd pc ls (aI x :: s) h Q := g_if_ge hc (fun _ => gt) (fun e => absurd h0 (by omega))
theorem g_if_ge_f {f : Int} (hc : clook cd pc = some (.ifCond .ge f, nx, a, k, q, z)) (h0 : x < 0) (gf : Wk w d cd nx ls s h Q) : Wk w d cd pc ls (aI x :: s) h Q := g_if_ge hc (fun e => absurd h0 (by omega)) (fun _ => gf)
theorem g_icmp_ge {f : Int} (hc : clook cd pc = some (.if_icmp .ge f, nx, a, k, q, z)) (gt : y ≤ x → Wk w d cd a ls s h Q) (gf : x < y → Wk w d cd nx ls s h Q) : Wk w d cd pc ls (aI y :: aI x :: s) h Q := by
  by_cases e : ccmp .ge x y = true
  · refine g_icmpB (b := true) hc e (gt ?_)
    simp only [ccmp, Bool.not_eq_true', decide_eq_true_eq, decide_eq_false_iff_not] at e
    omega
  · refine g_icmpB (b := false) hc (by simpa using e) (gf ?_)
    simp only [ccmp, Bool.not_eq_true', decide_eq_true_eq, decide_eq_false_iff_not] at e
    omega
theorem g_icmp_ge_t {f : Int} (hc : clook cd pc = some (.if_icmp .ge f, nx, a, k, q, z)) (h0 : y ≤ x) (gt : Wk w d cd a ls s h Q) : Wk w d cd pc ls (aI y :: aI x :: s) h Q := g_icmp_ge hc (fun _ => gt) (fun e => absurd h0 (by omega))
theorem g_icmp_ge_f {f : Int} (hc : clook cd pc = some (.if_icmp .ge f, nx, a, k, q, z)) (h0 : x < y) (gf : Wk w d cd nx ls s h Q) : Wk w d cd pc ls (aI y :: aI x :: s) h Q := g_icmp_ge hc (fun e => absurd h0 (by omega)) (fun _ => gf)
theorem g_if_gt {f : Int} (hc : clook cd pc = some (.ifCond .gt f, nx, a, k, q, z)) (gt : 0 < x → Wk w d cd a ls s h Q) (gf : x ≤ 0 → Wk w d cd nx ls s h Q) : Wk w d cd pc ls (aI x :: s) h Q := by
  by_cases e : ccmp .gt x 0 = true
  · refine g_ifB (b := true) hc e (gt ?_)
    simp only [ccmp, Bool.not_eq_true', decide_eq_true_eq, decide_eq_false_iff_not] at e
    omega
  · refine g_ifB (b := false) hc (by simpa using e) (gf ?_)
    simp only [ccmp, Bool.not_eq_true', decide_eq_true_eq, decide_eq_false_iff_not] at e
    omega
theorem g_if_gt_t {f : Int} (hc : clook cd pc = some (.ifCond .gt f, nx, a, k, q, z)) (h0 : 0 < x) (gt : Wk w d cd a ls s h Q) : Wk w d cd pc ls (aI x :: s) h Q := g_if_gt hc (fun _ => gt) (fun e => absurd h0 (by omega))
theorem g_if_gt_f {f : Int} (hc : clook cd pc = some (.ifCond .gt f, nx, a, k, q, z)) (h0 : x ≤ 0) (gf : Wk w d cd nx ls s h Q) : Wk w d cd pc ls (aI x :: s) h Q := g_if_gt hc (fun e => absurd h0 (by omega)) (fun _ => gf)
theorem g_icmp_gt {f : Int} (hc : clook cd pc = some (.if_icmp .gt f, nx, a, k, q, z)) (gt : y < x → Wk w d cd a ls s h Q) (gf : x ≤ y → Wk w d cd nx ls s h Q) : Wk w d cd pc ls (aI y :: aI x :: s) h Q := by
  by_cases e : ccmp .gt x y = true
  · refine g_icmpB (b := true) hc e (gt ?_)
    simp only [ccmp, Bool.not_eq_true', decide_eq_true_eq, decide_eq_false_iff_not] at e
    omega
  · refine g_icmpB (b := false) hc (by simpa using e) (gf ?_)
    simp only [ccmp, Bool.not_eq_true', decide_eq_true_eq, decide_eq_false_iff_not] at e
    omega
theorem g_icmp_gt_t {f : Int} (hc : clook cd pc = some (.if_icmp .gt f, nx, a, k, q, z)) (h0 : y < x) (gt : Wk w d cd a ls s h Q) : Wk w d cd pc ls (aI y :: aI x :: s) h Q := g_icmp_gt hc (fun _ => gt) (fun e => absurd h0 (by omega))
theorem g_icmp_gt_f {f : Int} (hc : clook cd pc = some (.if_icmp .gt f, nx, a, k, q, z)) (h0 : x ≤ y) (gf : Wk w d cd nx ls s h Q) : Wk w d cd pc ls (aI y :: aI x :: s) h Q := g_icmp_gt hc (fun e => absurd h0 (by omega)) (fun _ => gf)
theorem g_if_le {f : Int} (hc : clook cd pc = some (.ifCond .le f, nx, a, k, q, z)) (gt : x ≤ 0 → Wk w d cd a ls s h Q) (gf : 0 < x → Wk w d cd nx ls s h Q) : Wk w d cd pc ls (aI x :: s) h Q := by
  by_cases e : ccmp .le x 0 = true
  · refine g_ifB (b := true) hc e (gt ?_)
    simp only [ccmp, Bool.not_eq_true', decide_eq_true_eq, decide_eq_false_iff_not] at e
    omega
  · refine g_ifB (b := false) hc (by simpa using e) (gf ?_)
    simp only [ccmp, Bool.not_eq_true', decide_eq_true_eq, decide_eq_false_iff_not] at e
    omega
theorem g_if_le_t {f : Int} (hc : clook cd pc = some (.ifCond .le f, nx, a, k, q, z)) (h0 : x ≤ 0) (gt : Wk w d cd a ls s h Q) : Wk w d cd pc ls (aI x :: s) h Q := g_if_le hc (fun _ => gt) (fun e => absurd h0 (by omega))
theorem g_if_le_f {f : Int} (hc : clook cd pc = some (.ifCond .le f, nx, a, k, q, z)) (h0 : 0 < x) (gf : Wk w d cd nx ls s h Q) : Wk w d cd pc ls (aI x :: s) h Q := g_if_le hc (fun e => absurd h0 (by omega)) (fun _ => gf)
theorem g_icmp_le {f : Int} (hc : clook cd pc = some (.if_icmp .le f, nx, a, k, q, z)) (gt : x ≤ y → Wk w d cd a ls s h Q) (gf : y < x → Wk w d cd nx ls s h Q) : Wk w d cd pc ls (aI y :: aI x :: s) h Q := by
  by_cases e : ccmp .le x y = true
  · refine g_icmpB (b := true) hc e (gt ?_)
    simp only [ccmp, Bool.not_eq_true', decide_eq_true_eq, decide_eq_false_iff_not] at e
    omega
  · refine g_icmpB (b := false) hc (by simpa using e) (gf ?_)
    simp only [ccmp, Bool.not_eq_true', decide_eq_true_eq, decide_eq_false_iff_not] at e
    omega
theorem g_icmp_le_t {f : Int} (hc : clook cd pc = some (.if_icmp .le f, nx, a, k, q, z)) (h0 : x ≤ y) (gt : Wk w d cd a ls s h Q) : Wk w d cd pc ls (aI y :: aI x :: s) h Q := g_icmp_le hc (fun _ => gt) (fun e => absurd h0 (by omega))
theorem g_icmp_le_f {f : Int} (hc : clook cd pc = some (.if_icmp .le f, nx, a, k, q, z)) (h0 : y < x) (gf : Wk w d cd nx ls s h Q) : Wk w d cd pc ls (aI y :: aI x :: s) h Q := g_icmp_le hc (fun e => absurd h0 (by omega)) (fun _ => gf)
theorem g_ifnull_t {f : Int} (hc : clook cd pc = some (.ifnull f, nx, a, k, q, z)) (g : Wk w d cd a ls s h Q) : Wk w d cd pc ls (aO none :: s) h Q := by
  obtain ⟨r, h1, n, u, v1⟩ := g
  exact ⟨r, h1, n + 1, ⟨_, _, _, _, _, _, hc, none, s, rfl, u⟩, v1⟩
theorem g_ifnull_f {f : Int} {o : Nat} (hc : clook cd pc = some (.ifnull f, nx, a, k, q, z)) (g : Wk w d cd nx ls s h Q) : Wk w d cd pc ls (aO (some o) :: s) h Q := by
  obtain ⟨r, h1, n, u, v1⟩ := g
  exact ⟨r, h1, n + 1, ⟨_, _, _, _, _, _, hc, some o, s, rfl, u⟩, v1⟩
theorem g_ifnonnull_f {f : Int} (hc : clook cd pc = some (.ifnonnull f, nx, a, k, q, z)) (g : Wk w d cd nx ls s h Q) : Wk w d cd pc ls (aO none :: s) h Q := by
  obtain ⟨r, h1, n, u, v1⟩ := g
  exact ⟨r, h1, n + 1, ⟨_, _, _, _, _, _, hc, none, s, rfl, u⟩, v1⟩
theorem g_ifnonnull_t {f : Int} {o : Nat} (hc : clook cd pc = some (.ifnonnull f, nx, a, k, q, z)) (g : Wk w d cd a ls s h Q) : Wk w d cd pc ls (aO (some o) :: s) h Q := by
  obtain ⟨r, h1, n, u, v1⟩ := g
  exact ⟨r, h1, n + 1, ⟨_, _, _, _, _, _, hc, some o, s, rfl, u⟩, v1⟩
theorem g_tsw {df lo hi : Int} {offs : Array Int} {t : Nat} (hc : clook cd pc = some (.tableswitch df lo hi offs, nx, a, k, q, z)) (ht : tswt pc df lo hi offs x = t) (g : Wk w d cd t ls s h Q) : Wk w d cd pc ls (aI x :: s) h Q := by
  subst ht
  obtain ⟨r, h1, n, u, v1⟩ := g
  exact ⟨r, h1, n + 1, ⟨_, _, _, _, _, _, hc, x, s, rfl, u⟩, v1⟩
theorem g_tsw_out {df lo hi : Int} {offs : Array Int} {t : Nat} (hc : clook cd pc = some (.tableswitch df lo hi offs, nx, a, k, q, z)) (h0 : x < lo ∨ hi < x) (ht : ((pc : Int) + df).toNat = t) (g : Wk w d cd t ls s h Q) : Wk w d cd pc ls (aI x :: s) h Q :=
  g_tsw hc (by unfold tswt; rw [if_pos h0]; exact ht) g
/-- a field that holds a whole number, a long, a reference -/
theorem g_getI {c o : Nat} (hc : clook cd pc = some (.getfield c, nx, a, k, 0, z)) (ho : (hT h o).1 = 10 + a) (g : Wk w d cd nx ls (aI (hV h o k) :: s) h Q) : Wk w d cd pc ls (aO (some o) :: s) h Q := by
  obtain ⟨r, h1, n, u, v1⟩ := g
  exact ⟨r, h1, n + 1, ⟨_, _, _, _, _, _, hc, o, s, rfl, ho, u⟩, v1⟩
theorem g_getJ {c o : Nat} (hc : clook cd pc = some (.getfield c, nx, a, k, 1, z)) (ho : (hT h o).1 = 10 + a) (g : Wk w d cd nx ls (aJ (hV h o k) :: s) h Q) : Wk w d cd pc ls (aO (some o) :: s) h Q := by
  obtain ⟨r, h1, n, u, v1⟩ := g
  exact ⟨r, h1, n + 1, ⟨_, _, _, _, _, _, hc, o, s, rfl, ho, u⟩, v1⟩
theorem g_getR {c o : Nat} {t : Option Nat} (hc : clook cd pc = some (.getfield c, nx, a, k, 2, z)) (ho : (hT h o).1 = 10 + a) (hr : hR h o k = t) (g : Wk w d cd nx ls (aO t :: s) h Q) : Wk w d cd pc ls (aO (some o) :: s) h Q := by
  subst hr
  obtain ⟨r, h1, n, u, v1⟩ := g
  exact ⟨r, h1, n + 1, ⟨_, _, _, _, _, _, hc, o, s, rfl, ho, u⟩, v1⟩
theorem g_putI {c o : Nat} (hc : clook cd pc = some (.putfield c, nx, a, k, 0, z)) (ho : (hT h o).1 = 10 + a) (g : Wk w d cd nx ls s (hset h o k x) Q) : Wk w d cd pc ls (aI x :: aO (some o) :: s) h Q := by
  obtain ⟨r, h1, n, u, v1⟩ := g
  exact ⟨r, h1, n + 1, ⟨_, _, _, _, _, _, hc, _, o, s, rfl, ho, Or.inl ⟨rfl, x, rfl, u⟩⟩, v1⟩
theorem g_putJ {c o : Nat} (hc : clook cd pc = some (.putfield c, nx, a, k, 1, z)) (ho : (hT h o).1 = 10 + a) (g : Wk w d cd nx ls s (hset h o k x) Q) : Wk w d cd pc ls (aJ x :: aO (some o) :: s) h Q := by
  obtain ⟨r, h1, n, u, v1⟩ := g
  exact ⟨r, h1, n + 1, ⟨_, _, _, _, _, _, hc, _, o, s, rfl, ho, Or.inr (Or.inl ⟨rfl, x, rfl, u⟩)⟩, v1⟩
theorem g_putR {c o : Nat} {t : Option Nat} (hc : clook cd pc = some (.putfield c, nx, a, k, 2, z)) (ho : (hT h o).1 = 10 + a) (g : Wk w d cd nx ls s (hput h o k t) Q) : Wk w d cd pc ls (aO t :: aO (some o) :: s) h Q := by
  obtain ⟨r, h1, n, u, v1⟩ := g
  exact ⟨r, h1, n + 1, ⟨_, _, _, _, _, _, hc, _, o, s, rfl, ho, Or.inr (Or.inr ⟨rfl, t, rfl, u⟩)⟩, v1⟩
theorem g_new {c : Nat} (hc : clook cd pc = some (.new c, nx, a, k, q, z)) (g : Wk w d cd nx ls (aO (some (hz h)) :: s) (hnew h (10 + a) k) Q) : Wk w d cd pc ls s h Q := by
  obtain ⟨r, h1, n, u, v1⟩ := g
  exact ⟨r, h1, n + 1, ⟨_, _, _, _, _, _, hc, u⟩, v1⟩
theorem g_newarray {t : ArrayType} {m : Nat} (hc : clook cd pc = some (.newarray t, nx, a, k, q, z)) (h0 : 0 ≤ x) (h1 : x ≤ 1000000) (hm : x.toNat = m) (g : Wk w d cd nx ls (aO (some (hz h)) :: s) (hnew h a m) Q) : Wk w d cd pc ls (aI x :: s) h Q := by
  subst hm
  obtain ⟨r, h3, n, u, v1⟩ := g
  exact ⟨r, h3, n + 1, ⟨_, _, _, _, _, _, hc, x, s, rfl, h0, h1, u⟩, v1⟩
theorem g_anewarray {c m : Nat} (hc : clook cd pc = some (.anewarray c, nx, a, k, q, z)) (h0 : 0 ≤ x) (h1 : x ≤ 1000000) (hm : x.toNat = m) (g : Wk w d cd nx ls (aO (some (hz h)) :: s) (hnew h a m) Q) : Wk w d cd pc ls (aI x :: s) h Q := by
  subst hm
  obtain ⟨r, h3, n, u, v1⟩ := g
  exact ⟨r, h3, n + 1, ⟨_, _, _, _, _, _, hc, x, s, rfl, h0, h1, u⟩, v1⟩
theorem g_alen {o kd m : Nat} (hc : clook cd pc = some (.arraylength, nx, a, k, q, z)) (ho : hT h o = (kd, m)) (hk : 1 ≤ kd ∧ kd ≤ 6) (g : Wk w d cd nx ls (aI (m : Int) :: s) h Q) : Wk w d cd pc ls (aO (some o) :: s) h Q := by
  obtain ⟨r, h3, n, u, v1⟩ := g
  exact ⟨r, h3, n + 1, ⟨_, _, _, _, _, _, hc, o, s, rfl, by rw [ho]; exact hk.1, by rw [ho]; exact hk.2, by rw [ho]; exact u⟩, v1⟩
theorem g_iald {o m i : Nat} (hc : clook cd pc = some (.iaload, nx, a, k, q, z)) (ho : hT h o = (1, m)) (hx : x = (i : Int)) (hm : i < m) (g : Wk w d cd nx ls (aI (hV h o i) :: s) h Q) : Wk w d cd pc ls (aI x :: aO (some o) :: s) h Q := by
  subst hx
  obtain ⟨r, h3, n, u, v1⟩ := g
  exact ⟨r, h3, n + 1, ⟨_, _, _, _, _, _, hc, _, o, s, rfl, Or.inl (by rw [ho]), by omega, by rw [ho]; simp only; omega, u⟩, v1⟩
theorem g_sald {o m i : Nat} (hc : clook cd pc = some (.iaload, nx, a, k, q, z)) (ho : hT h o = (6, m)) (hx : x = (i : Int)) (hm : i < m) (g : Wk w d cd nx ls (aI (hV h o i) :: s) h Q) : Wk w d cd pc ls (aI x :: aO (some o) :: s) h Q := by
  subst hx
  obtain ⟨r, h3, n, u, v1⟩ := g
  exact ⟨r, h3, n + 1, ⟨_, _, _, _, _, _, hc, _, o, s, rfl, Or.inr (by rw [ho]), by omega, by rw [ho]; simp only; omega, u⟩, v1⟩
theorem g_lald {o m i : Nat} (hc : clook cd pc = some (.laload, nx, a, k, q, z)) (ho : hT h o = (2, m)) (hx : x = (i : Int)) (hm : i < m) (g : Wk w d cd nx ls (aJ (hV h o i) :: s) h Q) : Wk w d cd pc ls (aI x :: aO (some o) :: s) h Q := by
  subst hx
  obtain ⟨r, h3, n, u, v1⟩ := g
  exact ⟨r, h3, n + 1, ⟨_, _, _, _, _, _, hc, _, o, s, rfl, by rw [ho], by omega, by rw [ho]; simp only; omega, u⟩, v1⟩
theorem g_bald {o m i : Nat} (hc : clook cd pc = some (.baload, nx, a, k, q, z)) (ho : hT h o = (3, m)) (hx : x = (i : Int)) (hm : i < m) (g : Wk w d cd nx ls (aI (hV h o i) :: s) h Q) : Wk w d cd pc ls (aI x :: aO (some o) :: s) h Q := by
  subst hx
  obtain ⟨r, h3, n, u, v1⟩ := g
  exact ⟨r, h3, n + 1, ⟨_, _, _, _, _, _, hc, _, o, s, rfl, by rw [ho], by omega, by rw [ho]; simp only; omega, u⟩, v1⟩
theorem g_aald {o m i kd : Nat} {t : Option Nat} (hc : clook cd pc = some (.aaload, nx, a, k, q, z)) (ho : hT h o = (kd, m)) (hkd : kd = 4 ∨ kd = 5) (hx : x = (i : Int)) (hm : i < m) (ht : hR h o i = t) (g : Wk w d cd nx ls (aO t :: s) h Q) : Wk w d cd pc ls (aI x :: aO (some o) :: s) h Q := by
  subst hx
  subst ht
  obtain ⟨r, h3, n, u, v1⟩ := g
  exact ⟨r, h3, n + 1, ⟨_, _, _, _, _, _, hc, _, o, s, rfl, by rw [ho]; exact hkd, by omega, by rw [ho]; simp only; omega, u⟩, v1⟩
theorem g_iast {o m i : Nat} {v : Int} (hc : clook cd pc = some (.iastore, nx, a, k, q, z)) (ho : hT h o = (1, m)) (hx : x = (i : Int)) (hm : i < m) (g : Wk w d cd nx ls s (hset h o i v) Q) : Wk w d cd pc ls (aI v :: aI x :: aO (some o) :: s) h Q := by
  subst hx
  obtain ⟨r, h3, n, u, v1⟩ := g
  exact ⟨r, h3, n + 1, ⟨_, _, _, _, _, _, hc, _, _, o, s, rfl, by rw [ho], by omega, by rw [ho]; simp only; omega, u⟩, v1⟩
theorem g_last {o m i : Nat} {v : Int} (hc : clook cd pc = some (.lastore, nx, a, k, q, z)) (ho : hT h o = (2, m)) (hx : x = (i : Int)) (hm : i < m) (g : Wk w d cd nx ls s (hset h o i v) Q) : Wk w d cd pc ls (aJ v :: aI x :: aO (some o) :: s) h Q := by
  subst hx
  obtain ⟨r, h3, n, u, v1⟩ := g
  exact ⟨r, h3, n + 1, ⟨_, _, _, _, _, _, hc, _, _, o, s, rfl, by rw [ho], by omega, by rw [ho]; simp only; omega, u⟩, v1⟩
theorem g_bast {o m i : Nat} {v : Int} (hc : clook cd pc = some (.bastore, nx, a, k, q, z)) (ho : hT h o = (3, m)) (hx : x = (i : Int)) (hm : i < m) (hv : v = 0 ∨ v = 1) (g : Wk w d cd nx ls s (hset h o i v) Q) : Wk w d cd pc ls (aI v :: aI x :: aO (some o) :: s) h Q := by
  subst hx
  obtain ⟨r, h3, n, u, v1⟩ := g
  exact ⟨r, h3, n + 1, ⟨_, _, _, _, _, _, hc, _, _, o, s, rfl, by rw [ho], by omega, by rw [ho]; simp only; omega, hv, u⟩, v1⟩
theorem g_aast {o m i v kd : Nat} (hc : clook cd pc = some (.aastore, nx, a, k, q, z)) (ho : hT h o = (kd, m)) (hv : (kd = 4 ∧ (hT h v).1 = 20) ∨ (kd = 5 ∧ (hT h v).1 = 2)) (hx : x = (i : Int)) (hm : i < m) (g : Wk w d cd nx ls s (hput h o i (some v)) Q) : Wk w d cd pc ls (aO (some v) :: aI x :: aO (some o) :: s) h Q := by
  subst hx
  obtain ⟨r, h3, n, u, v1⟩ := g
  exact ⟨r, h3, n + 1, ⟨_, _, _, _, _, _, hc, _, _, o, s, rfl, by rw [ho]; exact hv, by omega, by rw [ho]; simp only; omega, u⟩, v1⟩
theorem g_iret {P : Int → aH → Prop} (hc : clook cd pc = some (.ireturn, nx, 0, k, q, z)) (hp : P x h) : Wk w d cd pc ls [aI x] h (RI P) :=
  ⟨some (aI x), h, 1, ⟨_, _, _, _, _, _, hc, x, rfl, (fun e => by cases e), (fun e => by cases e), rfl, rfl⟩, x, rfl, hp⟩
theorem g_zret {P : Int → aH → Prop} (hc : clook cd pc = some (.ireturn, nx, 1, k, q, z)) (h0 : x = 0 ∨ x = 1) (hp : P x h) : Wk w d cd pc ls [aI x] h (RI P) :=
  ⟨some (aI x), h, 1, ⟨_, _, _, _, _, _, hc, x, rfl, (fun _ => h0), (fun e => by cases e), rfl, rfl⟩, x, rfl, hp⟩
theorem g_cret {P : Int → aH → Prop} (hc : clook cd pc = some (.ireturn, nx, 2, k, q, z)) (h0 : 0 ≤ x ∧ x < 65536) (hp : P x h) : Wk w d cd pc ls [aI x] h (RI P) :=
  ⟨some (aI x), h, 1, ⟨_, _, _, _, _, _, hc, x, rfl, (fun e => by cases e), (fun _ => h0), rfl, rfl⟩, x, rfl, hp⟩
theorem g_lret {P : Int → aH → Prop} (hc : clook cd pc = some (.lreturn, nx, a, k, q, z)) (hp : P x h) : Wk w d cd pc ls [aJ x] h (RJ P) :=
  ⟨some (aJ x), h, 1, ⟨_, _, _, _, _, _, hc, x, rfl, rfl, rfl⟩, x, rfl, hp⟩
theorem g_aret {P : Option Nat → aH → Prop} {t : Option Nat} (hc : clook cd pc = some (.areturn, nx, a, k, q, z)) (hp : P t h) : Wk w d cd pc ls [aO t] h (RO P) :=
  ⟨some (aO t), h, 1, ⟨_, _, _, _, _, _, hc, t, rfl, rfl, rfl⟩, t, rfl, hp⟩
theorem g_vret {P : aH → Prop} (hc : clook cd pc = some (.return_, nx, a, k, q, z)) (hp : P h) : Wk w d cd pc ls [] h (RN P) :=
  ⟨none, h, 1, ⟨_, _, _, _, _, _, hc, rfl, rfl, rfl⟩, rfl, hp⟩
theorem g_dret {u : UInt64} (hc : clook cd pc = some (.dreturn, nx, a, k, q, z)) (hp : Q (some (aD u)) h) : Wk w d cd pc ls [aD u] h Q :=
  ⟨some (aD u), h, 1, ⟨_, _, _, _, _, _, hc, u, rfl, rfl, rfl⟩, hp⟩
theorem g_oinit {c o : Nat} (hc : clook cd pc = some (.invokespecial c, nx, 0, k, q, z)) (h0 : acats s ≤ 8) (g : Wk w d cd nx ls s h Q) : Wk w d cd pc ls (aO (some o) :: s) h Q := by
  obtain ⟨r, h1, n, u, v1⟩ := g
  exact ⟨r, h1, n + 1, ⟨_, _, _, _, _, _, hc, Or.inl ⟨rfl, o, s, rfl, h0, u⟩⟩, v1⟩
theorem g_callS {c : Nat} {as : List aV} {st : List aV} {P : Option aV → aH → Prop} (hc : clook cd pc = some (.invokestatic c, nx, a, k, q, z)) (hst : st = as.reverse ++ s) (hl : as.length = k) (hcat : (acats as : Int) = z) (h8 : acats s ≤ 8) (hw : WP w d a as h P) (g : ∀ r h1, P r h1 → Wk w d cd nx ls (r.toList ++ s) h1 Q) : Wk w d cd pc ls st h Q := by
  obtain ⟨r1, h1, u1, u2⟩ := hw
  obtain ⟨r, h2, n, u, v1⟩ := g r1 h1 u2
  exact ⟨r, h2, n + 1, ⟨_, _, _, _, _, _, hc, as, s, r1, h1, hst, hl, hcat, h8, (fun e => absurd rfl e), u1, u⟩, v1⟩
theorem g_callV {c o : Nat} {as : List aV} {st : List aV} {P : Option aV → aH → Prop} (hc : clook cd pc = some (.invokevirtual c, nx, a, k, q, z)) (hst : st = (aO (some o) :: as).reverse ++ s) (hl : as.length + 1 = k) (hcat : (acats (aO (some o) :: as) : Int) = z) (h8 : acats s ≤ 8) (ho : (hT h o).1 = q) (hw : WP w d a (aO (some o) :: as) h P) (g : ∀ r h1, P r h1 → Wk w d cd nx ls (r.toList ++ s) h1 Q) : Wk w d cd pc ls st h Q := by
  obtain ⟨r1, h1, u1, u2⟩ := hw
  obtain ⟨r, h2, n, u, v1⟩ := g r1 h1 u2
  exact ⟨r, h2, n + 1, ⟨_, _, _, _, _, _, hc, aO (some o) :: as, s, r1, h1, hst, hl, hcat, h8, (fun _ => ⟨o, as, rfl, ho⟩), u1, u⟩, v1⟩
theorem g_callI {c o : Nat} {as : List aV} {st : List aV} {P : Option aV → aH → Prop} (hc : clook cd pc = some (.invokespecial c, nx, a, k, q, z)) (h0 : a ≠ 0) (hst : st = (aO (some o) :: as).reverse ++ s) (hl : as.length + 1 = k) (hcat : (acats (aO (some o) :: as) : Int) = z) (h8 : acats s ≤ 8) (ho : (hT h o).1 = q) (hw : WP w d a (aO (some o) :: as) h P) (g : ∀ r h1, P r h1 → Wk w d cd nx ls (r.toList ++ s) h1 Q) : Wk w d cd pc ls st h Q := by
  obtain ⟨r1, h1, u1, u2⟩ := hw
  obtain ⟨r, h2, n, u, v1⟩ := g r1 h1 u2
  exact ⟨r, h2, n + 1, ⟨_, _, _, _, _, _, hc, Or.inr ⟨h0, aO (some o) :: as, s, r1, h1, hst, hl, hcat, h8, (fun _ => ⟨o, as, rfl, ho⟩), u1, u⟩⟩, v1⟩
end GO
