/-! fewer locals in another order; long comparisons; calls by what they give: printed by wip/whole/genrules2.py -/
def lnd (ls : aLs) : Bool := match ls with
  | [] => true
  | q :: t => t.all (fun u => !(u.1 == q.1)) && lnd t
theorem lget_mem {ls : aLs} {i : Nat} {v : aV} (h : lget ls i = some v) : (i, v) ∈ ls := by
  obtain ⟨k, hk⟩ := lget_at h
  exact List.mem_of_getElem? hk
theorem mem_lget {ls : aLs} {i : Nat} {v : aV} (hn : lnd ls = true) (h : (i, v) ∈ ls) : lget ls i = some v := by
  induction ls with
  | nil => cases h
  | cons q t ih =>
    unfold lnd at hn
    rw [Bool.and_eq_true] at hn
    unfold lget
    rcases List.mem_cons.mp h with rfl | h
    · simp
    · have h1 := List.all_eq_true.mp hn.1 _ h
      have h2 : (q.1 == i) = false := by
        simp only [Bool.not_eq_true', beq_eq_false_iff_ne, ne_eq] at h1 ⊢
        exact fun e => h1 e.symm
      rw [h2]
      exact ih hn.2 h
theorem lnd_filter {ls : aLs} (f : Nat × aV → Bool) (hn : lnd ls = true) : lnd (ls.filter f) = true := by
  induction ls with
  | nil => rfl
  | cons q t ih =>
    unfold lnd at hn
    rw [Bool.and_eq_true] at hn
    rw [List.filter_cons]
    split
    · unfold lnd
      rw [Bool.and_eq_true]
      exact ⟨List.all_eq_true.mpr fun u hu => List.all_eq_true.mp hn.1 u (List.mem_filter.mp hu).1, ih hn.2⟩
    · exact ih hn.2
theorem lnd_put1 {ls : aLs} {i : Nat} {v : aV} (hn : lnd ls = true) : lnd (lput1 ls i v) = true := by
  unfold lput1 lnd
  rw [Bool.and_eq_true]
  refine ⟨List.all_eq_true.mpr fun u hu => ?_, lnd_filter _ hn⟩
  have h := (List.mem_filter.mp hu).2
  rw [Bool.and_eq_true] at h
  exact h.1
theorem lnd_put2 {ls : aLs} {i : Nat} {v : aV} (hn : lnd ls = true) : lnd (lput2 ls i v) = true := by
  unfold lput2 lnd
  rw [Bool.and_eq_true]
  refine ⟨List.all_eq_true.mpr fun u hu => ?_, lnd_filter _ hn⟩
  have h := (List.mem_filter.mp hu).2
  rw [Bool.and_eq_true] at h
  exact h.1
theorem sub_put1 {l1 l2 : aLs} {i : Nat} {v : aV} (hsub : ∀ q ∈ l1, q ∈ l2) : ∀ q ∈ lput1 l1 i v, q ∈ lput1 l2 i v := by
  intro q hq
  rcases List.mem_cons.mp hq with rfl | hq
  · exact List.mem_cons_self
  · have h := List.mem_filter.mp hq
    exact List.mem_cons_of_mem _ (List.mem_filter.mpr ⟨hsub q h.1, h.2⟩)
theorem sub_put2 {l1 l2 : aLs} {i : Nat} {v : aV} (hsub : ∀ q ∈ l1, q ∈ l2) : ∀ q ∈ lput2 l1 i v, q ∈ lput2 l2 i v := by
  intro q hq
  rcases List.mem_cons.mp hq with rfl | hq
  · exact List.mem_cons_self
  · have h := List.mem_filter.mp hq
    exact List.mem_cons_of_mem _ (List.mem_filter.mpr ⟨hsub q h.1, h.2⟩)
theorem arun_ls {w : aW} {cal : aCal} {cd : List aE} {r : Option aV} {h' : aH} : ∀ n pc l1 l2 st h, arun w cal cd n pc l1 st h r h' → (∀ q ∈ l1, q ∈ l2) → lnd l2 = true → arun w cal cd n pc l2 st h r h' := by
  intro n
  induction n with
  | zero => intro pc l1 l2 st h u _ _; exact u.elim
  | succ n ih =>
    intro pc l1 l2 st h u hsub hnd
    obtain ⟨ins, nx, a, k, q, z, hlk, hst⟩ := u
    refine ⟨ins, nx, a, k, q, z, hlk, ?_⟩
    have gl : ∀ {i : Nat} {v : aV}, lget l1 i = some v → lget l2 i = some v := fun e => mem_lget hnd (hsub _ (lget_mem e))
    have hcl : ∀ {rk : Nat}, acall cal (fun pc1 ls1 st1 h1 => arun w cal cd n pc1 ls1 st1 h1 r h') nx a k rk z l1 st h → acall cal (fun pc1 ls1 st1 h1 => arun w cal cd n pc1 ls1 st1 h1 r h') nx a k rk z l2 st h := by
      intro rk v
      obtain ⟨as, s, r1, h1, a1, a2, a3, a4, a5, a6, a7⟩ := v
      exact ⟨as, s, r1, h1, a1, a2, a3, a4, a5, a6, ih _ _ _ _ _ a7 hsub hnd⟩
    cases ins
    case ldc => rcases hst with ⟨a0, hk⟩ | ⟨a0, hk⟩
                · exact Or.inl ⟨a0, ih _ _ _ _ _ hk hsub hnd⟩
                · exact Or.inr ⟨a0, ih _ _ _ _ _ hk hsub hnd⟩
    case putfield =>
      obtain ⟨b1, b2, b3, b4, b5, hk⟩ := hst
      refine ⟨b1, b2, b3, b4, b5, ?_⟩
      rcases hk with ⟨c1, c2, c3, hk⟩ | ⟨c1, c2, c3, hk⟩ | ⟨c1, c2, c3, hk⟩
      · exact Or.inl ⟨c1, c2, c3, ih _ _ _ _ _ hk hsub hnd⟩
      · exact Or.inr (Or.inl ⟨c1, c2, c3, ih _ _ _ _ _ hk hsub hnd⟩)
      · exact Or.inr (Or.inr ⟨c1, c2, c3, ih _ _ _ _ _ hk hsub hnd⟩)
    case invokestatic => exact hcl hst
    case invokevirtual => exact hcl hst
    case invokespecial =>
      rcases hst with ⟨c1, c2, c3, c4, c5, hk⟩ | ⟨c1, hk⟩
      · exact Or.inl ⟨c1, c2, c3, c4, c5, ih _ _ _ _ _ hk hsub hnd⟩
      · exact Or.inr ⟨c1, hcl hk⟩
    case iload => obtain ⟨x, e, hk⟩ := hst; exact ⟨x, gl e, ih _ _ _ _ _ hk hsub hnd⟩
    case iload_n => obtain ⟨x, e, hk⟩ := hst; exact ⟨x, gl e, ih _ _ _ _ _ hk hsub hnd⟩
    case lload => obtain ⟨x, e, hk⟩ := hst; exact ⟨x, gl e, ih _ _ _ _ _ hk hsub hnd⟩
    case lload_n => obtain ⟨x, e, hk⟩ := hst; exact ⟨x, gl e, ih _ _ _ _ _ hk hsub hnd⟩
    case aload => obtain ⟨x, e, hk⟩ := hst; exact ⟨x, gl e, ih _ _ _ _ _ hk hsub hnd⟩
    case aload_n => obtain ⟨x, e, hk⟩ := hst; exact ⟨x, gl e, ih _ _ _ _ _ hk hsub hnd⟩
    case dload => obtain ⟨x, e, hk⟩ := hst; exact ⟨x, gl e, ih _ _ _ _ _ hk hsub hnd⟩
    case dload_n => obtain ⟨x, e, hk⟩ := hst; exact ⟨x, gl e, ih _ _ _ _ _ hk hsub hnd⟩
    case istore => obtain ⟨x, s, e, hk⟩ := hst; exact ⟨x, s, e, ih _ _ _ _ _ hk (sub_put1 hsub) (lnd_put1 hnd)⟩
    case istore_n => obtain ⟨x, s, e, hk⟩ := hst; exact ⟨x, s, e, ih _ _ _ _ _ hk (sub_put1 hsub) (lnd_put1 hnd)⟩
    case astore => obtain ⟨x, s, e, hk⟩ := hst; exact ⟨x, s, e, ih _ _ _ _ _ hk (sub_put1 hsub) (lnd_put1 hnd)⟩
    case astore_n => obtain ⟨x, s, e, hk⟩ := hst; exact ⟨x, s, e, ih _ _ _ _ _ hk (sub_put1 hsub) (lnd_put1 hnd)⟩
    case lstore => obtain ⟨x, s, e, hk⟩ := hst; exact ⟨x, s, e, ih _ _ _ _ _ hk (sub_put2 hsub) (lnd_put2 hnd)⟩
    case lstore_n => obtain ⟨x, s, e, hk⟩ := hst; exact ⟨x, s, e, ih _ _ _ _ _ hk (sub_put2 hsub) (lnd_put2 hnd)⟩
    case dstore => obtain ⟨x, s, e, hk⟩ := hst; exact ⟨x, s, e, ih _ _ _ _ _ hk (sub_put2 hsub) (lnd_put2 hnd)⟩
    case dstore_n => obtain ⟨x, s, e, hk⟩ := hst; exact ⟨x, s, e, ih _ _ _ _ _ hk (sub_put2 hsub) (lnd_put2 hnd)⟩
    case iinc => obtain ⟨x, e, hk⟩ := hst; exact ⟨x, gl e, ih _ _ _ _ _ hk (sub_put1 hsub) (lnd_put1 hnd)⟩
    all_goals first
      | exact hst.elim
      | exact ih _ _ _ _ _ hst hsub hnd
      | (obtain ⟨a0, hk⟩ := hst; exact ⟨a0, ih _ _ _ _ _ hk hsub hnd⟩)
      | (obtain ⟨a0, a1, hk⟩ := hst; exact ⟨a0, a1, ih _ _ _ _ _ hk hsub hnd⟩)
      | (obtain ⟨a0, a1, a2, hk⟩ := hst; exact ⟨a0, a1, a2, ih _ _ _ _ _ hk hsub hnd⟩)
      | (obtain ⟨a0, a1, a2, a3, hk⟩ := hst; exact ⟨a0, a1, a2, a3, ih _ _ _ _ _ hk hsub hnd⟩)
      | (obtain ⟨a0, a1, a2, a3, a4, hk⟩ := hst; exact ⟨a0, a1, a2, a3, a4, ih _ _ _ _ _ hk hsub hnd⟩)
      | (obtain ⟨a0, a1, a2, a3, a4, a5, hk⟩ := hst; exact ⟨a0, a1, a2, a3, a4, a5, ih _ _ _ _ _ hk hsub hnd⟩)
      | (obtain ⟨a0, a1, a2, a3, a4, a5, a6, hk⟩ := hst; exact ⟨a0, a1, a2, a3, a4, a5, a6, ih _ _ _ _ _ hk hsub hnd⟩)
      | (obtain ⟨a0, a1, a2, a3, a4, a5, a6, a7, hk⟩ := hst; exact ⟨a0, a1, a2, a3, a4, a5, a6, a7, ih _ _ _ _ _ hk hsub hnd⟩)
      | (obtain ⟨a0, a1, a2, a3, a4, a5, a6, a7, a8, hk⟩ := hst; exact ⟨a0, a1, a2, a3, a4, a5, a6, a7, a8, ih _ _ _ _ _ hk hsub hnd⟩)
      | (obtain ⟨a0, a1, a2, a3, a4, a5, a6, a7, a8, a9, hk⟩ := hst; exact ⟨a0, a1, a2, a3, a4, a5, a6, a7, a8, a9, ih _ _ _ _ _ hk hsub hnd⟩)
      | (obtain ⟨a0, a1, a2, a3, a4, a5, a6, a7, a8, a9, a10, hk⟩ := hst; exact ⟨a0, a1, a2, a3, a4, a5, a6, a7, a8, a9, a10, ih _ _ _ _ _ hk hsub hnd⟩)
      | (obtain ⟨a0, hk⟩ := hst; exact ⟨a0, hk⟩)
      | (obtain ⟨a0, a1, hk⟩ := hst; exact ⟨a0, a1, hk⟩)
      | (obtain ⟨a0, a1, a2, hk⟩ := hst; exact ⟨a0, a1, a2, hk⟩)
      | (obtain ⟨a0, a1, a2, a3, hk⟩ := hst; exact ⟨a0, a1, a2, a3, hk⟩)
      | (obtain ⟨a0, a1, a2, a3, a4, hk⟩ := hst; exact ⟨a0, a1, a2, a3, a4, hk⟩)
def lpick (ls : aLs) (ps : List Nat) : aLs := ps.filterMap (fun i => ls[i]?)
section GO2
variable {w : aW} {d : Nat} {cd : List aE} {pc nx a k q : Nat} {z : Int} {ls : aLs} {s : List aV} {h : aH} {Q : Option aV → aH → Prop} {x y : Int}
theorem g_ls {l1 : aLs} (ps : List Nat) (hp : lpick ls ps = l1) (hn : lnd ls = true) (g : Wk w d cd pc l1 s h Q) : Wk w d cd pc ls s h Q := by
  obtain ⟨r, h1, n, u, v⟩ := g
  refine ⟨r, h1, n, arun_ls _ _ _ _ _ _ u (fun q hq => ?_) hn, v⟩
  rw [← hp] at hq
  obtain ⟨i, -, hi⟩ := List.mem_filterMap.mp hq
  exact List.mem_of_getElem? hi
theorem g_top {v1 v2 : aV} (e : v1 = v2) (g : Wk w d cd pc ls (v2 :: s) h Q) : Wk w d cd pc ls (v1 :: s) h Q := by
  rw [e]; exact g
theorem g_hp {h2 : aH} (e : h = h2) (g : Wk w d cd pc ls s h2 Q) : Wk w d cd pc ls s h Q := by
  rw [e]; exact g
theorem g_lc_eq {n2 a2 k2 q2 : Nat} {z2 f : Int} (hc : clook cd pc = some (.lcmp, nx, a, k, q, z)) (hc2 : clook cd nx = some (.ifCond .eq f, n2, a2, k2, q2, z2)) (gt : x = y → Wk w d cd a2 ls s h Q) (gf : x ≠ y → Wk w d cd n2 ls s h Q) : Wk w d cd pc ls (aJ y :: aJ x :: s) h Q := by
  refine g_lcmp hc (g_if_eq hc2 (fun e => gt ?_) (fun e => gf ?_)) <;> (unfold lcmp at e; split at e <;> (try split at e) <;> omega)
theorem g_lc_eq_t {n2 a2 k2 q2 : Nat} {z2 f : Int} (hc : clook cd pc = some (.lcmp, nx, a, k, q, z)) (hc2 : clook cd nx = some (.ifCond .eq f, n2, a2, k2, q2, z2)) (h0 : x = y) (gt : Wk w d cd a2 ls s h Q) : Wk w d cd pc ls (aJ y :: aJ x :: s) h Q := g_lc_eq hc hc2 (fun _ => gt) (fun e => absurd h0 (by omega))
theorem g_lc_eq_f {n2 a2 k2 q2 : Nat} {z2 f : Int} (hc : clook cd pc = some (.lcmp, nx, a, k, q, z)) (hc2 : clook cd nx = some (.ifCond .eq f, n2, a2, k2, q2, z2)) (h0 : x ≠ y) (gf : Wk w d cd n2 ls s h Q) : Wk w d cd pc ls (aJ y :: aJ x :: s) h Q := g_lc_eq hc hc2 (fun e => absurd h0 (by omega)) (fun _ => gf)
theorem g_lc_ne {n2 a2 k2 q2 : Nat} {z2 f : Int} (hc : clook cd pc = some (.lcmp, nx, a, k, q, z)) (hc2 : clook cd nx = some (.ifCond .ne f, n2, a2, k2, q2, z2)) (gt : x ≠ y → Wk w d cd a2 ls s h Q) (gf : x = y → Wk w d cd n2 ls s h Q) : Wk w d cd pc ls (aJ y :: aJ x :: s) h Q := by
  refine g_lcmp hc (g_if_ne hc2 (fun e => gt ?_) (fun e => gf ?_)) <;> (unfold lcmp at e; split at e <;> (try split at e) <;> omega)
theorem g_lc_ne_t {n2 a2 k2 q2 : Nat} {z2 f : Int} (hc : clook cd pc = some (.lcmp, nx, a, k, q, z)) (hc2 : clook cd nx = some (.ifCond .ne f, n2, a2, k2, q2, z2)) (h0 : x ≠ y) (gt : Wk w d cd a2 ls s h Q) : Wk w d cd pc ls (aJ y :: aJ x :: s) h Q := g_lc_ne hc hc2 (fun _ => gt) (fun e => absurd h0 (by omega))
theorem g_lc_ne_f {n2 a2 k2 q2 : Nat} {z2 f : Int} (hc : clook cd pc = some (.lcmp, nx, a, k, q, z)) (hc2 : clook cd nx = some (.ifCond .ne f, n2, a2, k2, q2, z2)) (h0 : x = y) (gf : Wk w d cd n2 ls s h Q) : Wk w d cd pc ls (aJ y :: aJ x :: s) h Q := g_lc_ne hc hc2 (fun e => absurd h0 (by omega)) (fun _ => gf)
theorem g_lc_lt {n2 a2 k2 q2 : Nat} {z2 f : Int} (hc : clook cd pc = some (.lcmp, nx, a, k, q, z)) (hc2 : clook cd nx = some (.ifCond .lt f, n2, a2, k2, q2, z2)) (gt : x < y → Wk w d cd a2 ls s h Q) (gf : y ≤ x → Wk w d cd n2 ls s h Q) : Wk w d cd pc ls (aJ y :: aJ x :: s) h Q := by
  refine g_lcmp hc (g_if_lt hc2 (fun e => gt ?_) (fun e => gf ?_)) <;> (unfold lcmp at e; split at e <;> (try split at e) <;> omega)
theorem g_lc_lt_t {n2 a2 k2 q2 : Nat} {z2 f : Int} (hc : clook cd pc = some (.lcmp, nx, a, k, q, z)) (hc2 : clook cd nx = some (.ifCond .lt f, n2, a2, k2, q2, z2)) (h0 : x < y) (gt : Wk w d cd a2 ls s h Q) : Wk w d cd pc ls (aJ y :: aJ x :: s) h Q := g_lc_lt hc hc2 (fun _ => gt) (fun e => absurd h0 (by omega))
theorem g_lc_lt_f {n2 a2 k2 q2 : Nat} {z2 f : Int} (hc : clook cd pc = some (.lcmp, nx, a, k, q, z)) (hc2 : clook cd nx = some (.ifCond .lt f, n2, a2, k2, q2, z2)) (h0 : y ≤ x) (gf : Wk w d cd n2 ls s h Q) : Wk w d cd pc ls (aJ y :: aJ x :: s) h Q := g_lc_lt hc hc2 (fun e => absurd h0 (by omega)) (fun _ => gf)
theorem g_lc_ge {n2 a2 k2 q2 : Nat} {z2 f : Int} (hc : clook cd pc = some (.lcmp, nx, a, k, q, z)) (hc2 : clook cd nx = some (.ifCond .ge f, n2, a2, k2, q2, z2)) (gt : y ≤ x → Wk w d cd a2 ls s h Q) (gf : x < y → Wk w d cd n2 ls s h Q) : Wk w d cd pc ls (aJ y :: aJ x :: s) h Q := by
  refine g_lcmp hc (g_if_ge hc2 (fun e => gt ?_) (fun e => gf ?_)) <;> (unfold lcmp at e; split at e <;> (try split at e) <;> omega)
theorem g_lc_ge_t {n2 a2 k2 q2 : Nat} {z2 f : Int} (hc : clook cd pc = some (.lcmp, nx, a, k, q, z)) (hc2 : clook cd nx = some (.ifCond .ge f, n2, a2, k2, q2, z2)) (h0 : y ≤ x) (gt : Wk w d cd a2 ls s h Q) : Wk w d cd pc ls (aJ y :: aJ x :: s) h Q := g_lc_ge hc hc2 (fun _ => gt) (fun e => absurd h0 (by omega))
theorem g_lc_ge_f {n2 a2 k2 q2 : Nat} {z2 f : Int} (hc : clook cd pc = some (.lcmp, nx, a, k, q, z)) (hc2 : clook cd nx = some (.ifCond .ge f, n2, a2, k2, q2, z2)) (h0 : x < y) (gf : Wk w d cd n2 ls s h Q) : Wk w d cd pc ls (aJ y :: aJ x :: s) h Q := g_lc_ge hc hc2 (fun e => absurd h0 (by omega)) (fun _ => gf)
theorem g_lc_gt {n2 a2 k2 q2 : Nat} {z2 f : Int} (hc : clook cd pc = some (.lcmp, nx, a, k, q, z)) (hc2 : clook cd nx = some (.ifCond .gt f, n2, a2, k2, q2, z2)) (gt : y < x → Wk w d cd a2 ls s h Q) (gf : x ≤ y → Wk w d cd n2 ls s h Q) : Wk w d cd pc ls (aJ y :: aJ x :: s) h Q := by
  refine g_lcmp hc (g_if_gt hc2 (fun e => gt ?_) (fun e => gf ?_)) <;> (unfold lcmp at e; split at e <;> (try split at e) <;> omega)
theorem g_lc_gt_t {n2 a2 k2 q2 : Nat} {z2 f : Int} (hc : clook cd pc = some (.lcmp, nx, a, k, q, z)) (hc2 : clook cd nx = some (.ifCond .gt f, n2, a2, k2, q2, z2)) (h0 : y < x) (gt : Wk w d cd a2 ls s h Q) : Wk w d cd pc ls (aJ y :: aJ x :: s) h Q := g_lc_gt hc hc2 (fun _ => gt) (fun e => absurd h0 (by omega))
theorem g_lc_gt_f {n2 a2 k2 q2 : Nat} {z2 f : Int} (hc : clook cd pc = some (.lcmp, nx, a, k, q, z)) (hc2 : clook cd nx = some (.ifCond .gt f, n2, a2, k2, q2, z2)) (h0 : x ≤ y) (gf : Wk w d cd n2 ls s h Q) : Wk w d cd pc ls (aJ y :: aJ x :: s) h Q := g_lc_gt hc hc2 (fun e => absurd h0 (by omega)) (fun _ => gf)
theorem g_lc_le {n2 a2 k2 q2 : Nat} {z2 f : Int} (hc : clook cd pc = some (.lcmp, nx, a, k, q, z)) (hc2 : clook cd nx = some (.ifCond .le f, n2, a2, k2, q2, z2)) (gt : x ≤ y → Wk w d cd a2 ls s h Q) (gf : y < x → Wk w d cd n2 ls s h Q) : Wk w d cd pc ls (aJ y :: aJ x :: s) h Q := by
  refine g_lcmp hc (g_if_le hc2 (fun e => gt ?_) (fun e => gf ?_)) <;> (unfold lcmp at e; split at e <;> (try split at e) <;> omega)
theorem g_lc_le_t {n2 a2 k2 q2 : Nat} {z2 f : Int} (hc : clook cd pc = some (.lcmp, nx, a, k, q, z)) (hc2 : clook cd nx = some (.ifCond .le f, n2, a2, k2, q2, z2)) (h0 : x ≤ y) (gt : Wk w d cd a2 ls s h Q) : Wk w d cd pc ls (aJ y :: aJ x :: s) h Q := g_lc_le hc hc2 (fun _ => gt) (fun e => absurd h0 (by omega))
theorem g_lc_le_f {n2 a2 k2 q2 : Nat} {z2 f : Int} (hc : clook cd pc = some (.lcmp, nx, a, k, q, z)) (hc2 : clook cd nx = some (.ifCond .le f, n2, a2, k2, q2, z2)) (h0 : y < x) (gf : Wk w d cd n2 ls s h Q) : Wk w d cd pc ls (aJ y :: aJ x :: s) h Q := g_lc_le hc hc2 (fun e => absurd h0 (by omega)) (fun _ => gf)
theorem g_callSI {c : Nat} (as : List aV) (s : List aV) {st : List aV} {P : Int → aH → Prop} (hc : clook cd pc = some (.invokestatic c, nx, a, k, q, z)) (hst : st = as.reverse ++ s) (hl : as.length = k) (hcat : (acats as : Int) = z) (h8 : acats s ≤ 8) (hw : WP w d a as h (RI P)) (g : ∀ x h1, P x h1 → Wk w d cd nx ls (aI x :: s) h1 Q) : Wk w d cd pc ls st h Q := by
  refine g_callS hc hst hl hcat h8 hw ?_
  intro r h1 hp
  obtain ⟨x, rfl, hp⟩ := hp
  exact g x h1 hp
theorem g_callSJ {c : Nat} (as : List aV) (s : List aV) {st : List aV} {P : Int → aH → Prop} (hc : clook cd pc = some (.invokestatic c, nx, a, k, q, z)) (hst : st = as.reverse ++ s) (hl : as.length = k) (hcat : (acats as : Int) = z) (h8 : acats s ≤ 8) (hw : WP w d a as h (RJ P)) (g : ∀ x h1, P x h1 → Wk w d cd nx ls (aJ x :: s) h1 Q) : Wk w d cd pc ls st h Q := by
  refine g_callS hc hst hl hcat h8 hw ?_
  intro r h1 hp
  obtain ⟨x, rfl, hp⟩ := hp
  exact g x h1 hp
theorem g_callSO {c : Nat} (as : List aV) (s : List aV) {st : List aV} {P : Option Nat → aH → Prop} (hc : clook cd pc = some (.invokestatic c, nx, a, k, q, z)) (hst : st = as.reverse ++ s) (hl : as.length = k) (hcat : (acats as : Int) = z) (h8 : acats s ≤ 8) (hw : WP w d a as h (RO P)) (g : ∀ x h1, P x h1 → Wk w d cd nx ls (aO x :: s) h1 Q) : Wk w d cd pc ls st h Q := by
  refine g_callS hc hst hl hcat h8 hw ?_
  intro r h1 hp
  obtain ⟨x, rfl, hp⟩ := hp
  exact g x h1 hp
theorem g_callSN {c : Nat} (as : List aV) (s : List aV) {st : List aV} {P : aH → Prop} (hc : clook cd pc = some (.invokestatic c, nx, a, k, q, z)) (hst : st = as.reverse ++ s) (hl : as.length = k) (hcat : (acats as : Int) = z) (h8 : acats s ≤ 8) (hw : WP w d a as h (RN P)) (g : ∀ h1, P h1 → Wk w d cd nx ls s h1 Q) : Wk w d cd pc ls st h Q := by
  refine g_callS hc hst hl hcat h8 hw ?_
  intro r h1 hp
  obtain ⟨rfl, hp⟩ := hp
  exact g h1 hp
theorem g_callVI {c : Nat} {o : Nat} (as : List aV) (s : List aV) {st : List aV} {P : Int → aH → Prop} (hc : clook cd pc = some (.invokevirtual c, nx, a, k, q, z)) (hst : st = (aO (some o) :: as).reverse ++ s) (hl : as.length + 1 = k) (hcat : (acats (aO (some o) :: as) : Int) = z) (h8 : acats s ≤ 8) (ho : (hT h o).1 = q) (hw : WP w d a (aO (some o) :: as) h (RI P)) (g : ∀ x h1, P x h1 → Wk w d cd nx ls (aI x :: s) h1 Q) : Wk w d cd pc ls st h Q := by
  refine g_callV hc hst hl hcat h8 ho hw ?_
  intro r h1 hp
  obtain ⟨x, rfl, hp⟩ := hp
  exact g x h1 hp
theorem g_callVJ {c : Nat} {o : Nat} (as : List aV) (s : List aV) {st : List aV} {P : Int → aH → Prop} (hc : clook cd pc = some (.invokevirtual c, nx, a, k, q, z)) (hst : st = (aO (some o) :: as).reverse ++ s) (hl : as.length + 1 = k) (hcat : (acats (aO (some o) :: as) : Int) = z) (h8 : acats s ≤ 8) (ho : (hT h o).1 = q) (hw : WP w d a (aO (some o) :: as) h (RJ P)) (g : ∀ x h1, P x h1 → Wk w d cd nx ls (aJ x :: s) h1 Q) : Wk w d cd pc ls st h Q := by
  refine g_callV hc hst hl hcat h8 ho hw ?_
  intro r h1 hp
  obtain ⟨x, rfl, hp⟩ := hp
  exact g x h1 hp
theorem g_callVO {c : Nat} {o : Nat} (as : List aV) (s : List aV) {st : List aV} {P : Option Nat → aH → Prop} (hc : clook cd pc = some (.invokevirtual c, nx, a, k, q, z)) (hst : st = (aO (some o) :: as).reverse ++ s) (hl : as.length + 1 = k) (hcat : (acats (aO (some o) :: as) : Int) = z) (h8 : acats s ≤ 8) (ho : (hT h o).1 = q) (hw : WP w d a (aO (some o) :: as) h (RO P)) (g : ∀ x h1, P x h1 → Wk w d cd nx ls (aO x :: s) h1 Q) : Wk w d cd pc ls st h Q := by
  refine g_callV hc hst hl hcat h8 ho hw ?_
  intro r h1 hp
  obtain ⟨x, rfl, hp⟩ := hp
  exact g x h1 hp
theorem g_callVN {c : Nat} {o : Nat} (as : List aV) (s : List aV) {st : List aV} {P : aH → Prop} (hc : clook cd pc = some (.invokevirtual c, nx, a, k, q, z)) (hst : st = (aO (some o) :: as).reverse ++ s) (hl : as.length + 1 = k) (hcat : (acats (aO (some o) :: as) : Int) = z) (h8 : acats s ≤ 8) (ho : (hT h o).1 = q) (hw : WP w d a (aO (some o) :: as) h (RN P)) (g : ∀ h1, P h1 → Wk w d cd nx ls s h1 Q) : Wk w d cd pc ls st h Q := by
  refine g_callV hc hst hl hcat h8 ho hw ?_
  intro r h1 hp
  obtain ⟨rfl, hp⟩ := hp
  exact g h1 hp
theorem g_callIN {c : Nat} {o : Nat} (as : List aV) (s : List aV) {st : List aV} {P : aH → Prop} (hc : clook cd pc = some (.invokespecial c, nx, a, k, q, z)) (h0 : a ≠ 0) (hst : st = (aO (some o) :: as).reverse ++ s) (hl : as.length + 1 = k) (hcat : (acats (aO (some o) :: as) : Int) = z) (h8 : acats s ≤ 8) (ho : (hT h o).1 = q) (hw : WP w d a (aO (some o) :: as) h (RN P)) (g : ∀ h1, P h1 → Wk w d cd nx ls s h1 Q) : Wk w d cd pc ls st h Q := by
  refine g_callI hc h0 hst hl hcat h8 ho hw ?_
  intro r h1 hp
  obtain ⟨rfl, hp⟩ := hp
  exact g h1 hp
end GO2
