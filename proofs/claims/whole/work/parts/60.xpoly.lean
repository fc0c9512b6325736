/-! the class's polynomials, the beginnings: printed by wip/whole/s60.py -/
/-- the rows of exponents -/
def XE (V : Nat → Nat → Int) (c : Nat) : Prop := (∀ t < 286, V (c + 18) t = (pE t).1 ∧ V (c + 19) t = (pE t).2.1 ∧ V (c + 20) t = (pE t).2.2) ∧ ∀ i j : Nat, i + j ≤ 10 → V (c + 21) (11 * i + j) = pB i j
/-- the place of exponents i, j, k -/
def pI (i j k : Nat) : Nat := pB i j + k
theorem pI_lt {i j k : Nat} (h : i + j + k ≤ 10) : pI i j k < 286 := by
  have h1 := pB_j i (by omega) j (by omega)
  have h2 := pB_le i (by omega) (j + 1) (by omega)
  unfold pI
  omega
theorem pE_pI {i j k : Nat} (h : i + j + k ≤ 10) : pE (pI i j k) = (i, j, k) := pE_at i (by omega) j (by omega) k (by omega)
theorem pI_pE : ∀ t < 286, (pE t).1 + (pE t).2.1 + (pE t).2.2 ≤ 10 ∧ pI (pE t).1 (pE t).2.1 (pE t).2.2 = t := by decide +kernel
theorem x_clear {w : aW} {d : Nat} (hd : 1 ≤ d) {h : aH} {c : Nat} (cs : CS h c) (V : Nat → Nat → Int) (row : Nat) (tr : hT h row = (2, 286)) : WP w d 128 [aO (some (c + 17)), aO (some row)] (hw h V) (RN (fun h1 => ∃ V1, h1 = hw h V1 ∧ (∀ a, a ≠ row → V1 a = V a) ∧ ∀ j < 286, V1 row j = 0)) := by
  obtain ⟨d, rfl⟩ : ∃ d1, d = d1 + 1 := ⟨d - 1, by omega⟩
  refine WP.enter (cd := cd_X4_clear) rfl ?_
  have hls : largs 0 [aO (some (c + 17)), aO (some row)] = [(0, aO (some (c + 17))), (1, aO (some row))] := rfl
  rw [hls]
  clear hls
  have l2 : ∀ (fuel : Nat) (i : Nat) (V1 : Nat → Nat → Int), (i ≤ 286) → (∀ a, a ≠ row → V1 a = V a) → (∀ j < i, V1 row j = 0) → 286 - i < fuel → Wk w d cd_X4_clear 2 [(2, aI ((i : Int))), (0, aO (some (c + 17))), (1, aO (some row))] [] (hw h V1) (RN (fun h1 => ∃ V1, h1 = hw h V1 ∧ (∀ a, a ≠ row → V1 a = V a) ∧ ∀ j < 286, V1 row j = 0)) := by
    intro fuel
    induction fuel with
    | zero => intros; omega
    | succ fuel ih2 =>
      intro i V1 hi hf hz hfuel
      refine g_iload_n rfl rfl ?_
      refine g_sipush rfl ?_
      refine g_icmp_ge rfl (fun c6 => ?_) (fun c6 => ?_)
      · skip
        refine g_vret rfl ?_
        exact ⟨V1, rfl, hf, fun j hj => hz j (by omega)⟩
      · skip
        refine g_aload_n rfl rfl ?_
        refine g_iload_n rfl rfl ?_
        refine g_lconst0 rfl ?_
        refine g_last (i := i) rfl tr (by omega) (by omega) ?_
        refine g_iinc (l1 := [(2, aI ((i : Int) + 1)), (0, aO (some (c + 17))), (1, aO (some row))]) rfl rfl (by omega) (by omega) rfl ?_
        refine g_goto rfl ?_
        exact ih2 (i + 1) (vset V1 row i 0) (by omega) (by intro a ha; funext j; rw [vset_ne _ _ _ _ (by omega), hf a ha]) (by intro j hj; by_cases e : j = i; (rw [e, vset_eq]); (rw [vset_ne _ _ _ _ (by omega)]; exact hz j (by omega))) (by omega)
  refine g_iconst rfl ?_
  refine g_istore_n (l1 := [(2, aI 0), (0, aO (some (c + 17))), (1, aO (some row))]) rfl rfl ?_
  exact l2 _ 0 V (by omega) (by intro a _; rfl) (by intro j hj; omega) (Nat.lt_succ_self _)
theorem x_copy {w : aW} {d : Nat} (hd : 1 ≤ d) {h : aH} {c : Nat} (cs : CS h c) (V : Nat → Nat → Int) (from_ to_ : Nat) (tf : hT h from_ = (2, 286)) (tt : hT h to_ = (2, 286)) (hne : from_ ≠ to_) : WP w d 129 [aO (some (c + 17)), aO (some from_), aO (some to_)] (hw h V) (RN (fun h1 => ∃ V1, h1 = hw h V1 ∧ (∀ a, a ≠ to_ → V1 a = V a) ∧ ∀ j < 286, V1 to_ j = V from_ j)) := by
  obtain ⟨d, rfl⟩ : ∃ d1, d = d1 + 1 := ⟨d - 1, by omega⟩
  refine WP.enter (cd := cd_X4_copy) rfl ?_
  have hls : largs 0 [aO (some (c + 17)), aO (some from_), aO (some to_)] = [(0, aO (some (c + 17))), (1, aO (some from_)), (2, aO (some to_))] := rfl
  rw [hls]
  clear hls
  have l2 : ∀ (fuel : Nat) (i : Nat) (V1 : Nat → Nat → Int), (i ≤ 286) → (∀ a, a ≠ to_ → V1 a = V a) → (∀ j < i, V1 to_ j = V from_ j) → 286 - i < fuel → Wk w d cd_X4_copy 2 [(3, aI ((i : Int))), (0, aO (some (c + 17))), (1, aO (some from_)), (2, aO (some to_))] [] (hw h V1) (RN (fun h1 => ∃ V1, h1 = hw h V1 ∧ (∀ a, a ≠ to_ → V1 a = V a) ∧ ∀ j < 286, V1 to_ j = V from_ j)) := by
    intro fuel
    induction fuel with
    | zero => intros; omega
    | succ fuel ih2 =>
      intro i V1 hi hf hz hfuel
      refine g_iload_n rfl rfl ?_
      refine g_sipush rfl ?_
      refine g_icmp_ge rfl (fun c6 => ?_) (fun c6 => ?_)
      · skip
        refine g_vret rfl ?_
        exact ⟨V1, rfl, hf, fun j hj => hz j (by omega)⟩
      · skip
        refine g_aload_n rfl rfl ?_
        refine g_iload_n rfl rfl ?_
        refine g_aload_n rfl rfl ?_
        refine g_iload_n rfl rfl ?_
        refine g_lald (i := i) rfl tf (by omega) (by omega) ?_
        refine g_last (i := i) rfl tt (by omega) (by omega) ?_
        refine g_iinc (l1 := [(3, aI ((i : Int) + 1)), (0, aO (some (c + 17))), (1, aO (some from_)), (2, aO (some to_))]) rfl rfl (by omega) (by omega) rfl ?_
        refine g_goto rfl ?_
        exact ih2 (i + 1) (vset V1 to_ i (V1 from_ i)) (by omega) (by intro a ha; funext j; rw [vset_ne _ _ _ _ (by omega), hf a ha]) (by intro j hj; by_cases e : j = i; (rw [e, vset_eq, hf _ hne]); (rw [vset_ne _ _ _ _ (by omega)]; exact hz j (by omega))) (by omega)
  refine g_iconst rfl ?_
  refine g_istore_n (l1 := [(3, aI 0), (0, aO (some (c + 17))), (1, aO (some from_)), (2, aO (some to_))]) rfl rfl ?_
  exact l2 _ 0 V (by omega) (by intro a _; rfl) (by intro j hj; omega) (Nat.lt_succ_self _)
theorem x_indexOf {w : aW} {d : Nat} (hd : 1 ≤ d) {h : aH} {c : Nat} (cs : CS h c) (V : Nat → Nat → Int) (xe : XE V c) (i j k : Int) : WP w d 126 [aO (some (c + 17)), aI i, aI j, aI k] (hw h V) (RI (fun r h1 => h1 = hw h V ∧ ((0 ≤ i ∧ 0 ≤ j ∧ 0 ≤ k ∧ i + j + k ≤ 10) → r = (pI i.toNat j.toNat k.toNat : Nat)) ∧ (¬(0 ≤ i ∧ 0 ≤ j ∧ 0 ≤ k ∧ i + j + k ≤ 10) → r = -1))) := by
  obtain ⟨d, rfl⟩ : ∃ d1, d = d1 + 1 := ⟨d - 1, by omega⟩
  refine WP.enter (cd := cd_X4_indexOf) rfl ?_
  have hls : largs 0 [aO (some (c + 17)), aI i, aI j, aI k] = [(0, aO (some (c + 17))), (1, aI i), (2, aI j), (3, aI k)] := rfl
  rw [hls]
  clear hls
  refine g_iload_n rfl rfl ?_
  refine g_if_lt rfl (fun c1 => ?_) (fun c1 => ?_)
  · skip
    refine g_iconst rfl ?_
    refine g_iret rfl ?_
    exact ⟨rfl, fun u => by omega, fun _ => rfl⟩
  · skip
    refine g_iload_n rfl rfl ?_
    refine g_if_lt rfl (fun c5 => ?_) (fun c5 => ?_)
    · skip
      refine g_iconst rfl ?_
      refine g_iret rfl ?_
      exact ⟨rfl, fun u => by omega, fun _ => rfl⟩
    · skip
      refine g_iload_n rfl rfl ?_
      refine g_if_lt rfl (fun c9 => ?_) (fun c9 => ?_)
      · skip
        refine g_iconst rfl ?_
        refine g_iret rfl ?_
        exact ⟨rfl, fun u => by omega, fun _ => rfl⟩
      · skip
        refine g_iload_n rfl rfl ?_
        refine g_bipush rfl ?_
        refine g_icmp_gt rfl (fun c15 => ?_) (fun c15 => ?_)
        · skip
          refine g_iconst rfl ?_
          refine g_iret rfl ?_
          exact ⟨rfl, fun u => by omega, fun _ => rfl⟩
        · skip
          refine g_iload_n rfl rfl ?_
          refine g_bipush rfl ?_
          refine g_iload_n rfl rfl ?_
          refine g_isub rfl (by omega) (by omega) ?_
          refine g_icmp_gt rfl (fun c23 => ?_) (fun c23 => ?_)
          · skip
            refine g_iconst rfl ?_
            refine g_iret rfl ?_
            exact ⟨rfl, fun u => by omega, fun _ => rfl⟩
          · skip
            refine g_iload_n rfl rfl ?_
            refine g_bipush rfl ?_
            refine g_iload_n rfl rfl ?_
            refine g_isub rfl (by omega) (by omega) ?_
            refine g_iload_n rfl rfl ?_
            refine g_isub rfl (by omega) (by omega) ?_
            refine g_icmp_le rfl (fun c33 => ?_) (fun c33 => ?_)
            · skip
              have hle := pB_le i.toNat (by omega) j.toNat (by omega)
              have hxb := xe.2 i.toNat j.toNat (by omega)
              refine g_aload_n rfl rfl ?_
              refine g_getR rfl (cs.kd 17 (by omega) rfl) (cs.rf 25 (by omega) rfl) ?_
              refine g_iload_n rfl rfl ?_
              refine g_bipush rfl ?_
              refine g_imul rfl (by omega) (by omega) ?_
              refine g_iload_n rfl rfl ?_
              refine g_iadd rfl (by omega) (by omega) ?_
              refine g_iald (i := 11 * i.toNat + j.toNat) rfl (cs.ar 21 (by omega) rfl) (by omega) (by omega) ?_
              rw [show hV (hw h V) (c + 21) (11 * i.toNat + j.toNat) = (pB i.toNat j.toNat : Int) from hxb]
              refine g_iload_n rfl rfl ?_
              refine g_iadd rfl (by omega) (by omega) ?_
              refine g_iret rfl ?_
              refine ⟨rfl, fun _ => ?_, fun u => by omega⟩
              unfold pI
              omega
            · skip
              refine g_iconst rfl ?_
              refine g_iret rfl ?_
              exact ⟨rfl, fun u => by omega, fun _ => rfl⟩
theorem xr_22 : ∀ i < 39, (xrl.getD i (0, 0, 0)).1 ≠ 22 := by decide +kernel
theorem CS.new {h : aH} {c : Nat} (cs : CS h c) (k n : Nat) (hc : c + 34 ≤ hz h) : CS (hnew h k n) c := by
  refine ⟨fun j hj => by rw [hT_new, if_neg (by omega)]; exact cs.1 j hj, fun i hi => ?_⟩
  have hlt : (xrl.getD i (0, 0, 0)).1 < 34 := (by decide +kernel : ∀ i < 39, (xrl.getD i (0, 0, 0)).1 < 34) i hi
  rw [hR_new, if_neg (by omega)]
  exact cs.2 i hi
/-- what a kept row leaves behind -/
def KPost (h : aH) (V : Nat → Nat → Int) (c k : Nat) (h1 : aH) : Prop := ∃ V2, h1 = hw (hput (hnew h 2 286) (c + 22) k (some (hz h))) V2 ∧ (∀ a, a ≠ hz h → a ≠ c + 17 → V2 a = V a) ∧ V2 (c + 17) 9 = (k : Int) + 1 ∧ (∀ f, f ≠ 9 → V2 (c + 17) f = V (c + 17) f) ∧ ∀ t < 286, V2 (hz h) t = V (c + 23) t
theorem x_keepResult {w : aW} {d : Nat} (hd : 2 ≤ d) {h : aH} {c : Nat} (cs : CS h c) (V : Nat → Nat → Int) (k : Nat) (hk : V (c + 17) 9 = k) (hk2 : k ≤ 60) (hc : c + 34 ≤ hz h) : WP w d 132 [aO (some (c + 17))] (hw h V) (RI (fun r h1 => (k = 60 → h1 = hw h V ∧ r = -4) ∧ (k < 60 → KPost h V c k h1 ∧ r = k))) := by
  obtain ⟨d, rfl⟩ : ∃ d1, d = d1 + 1 := ⟨d - 1, by omega⟩
  refine WP.enter (cd := cd_X4_keepResult) rfl ?_
  have hls : largs 0 [aO (some (c + 17))] = [(0, aO (some (c + 17)))] := rfl
  rw [hls]
  clear hls
  refine g_aload_n rfl rfl ?_
  refine g_getI rfl (by (repeat (first | rw [hT_hw] | rw [hT_set] | rw [hT_put] | rw [hT_new, if_neg (by simp only [hz_put, hz_new, hz_hw, hz_set]; omega)])); exact cs.kd 17 (by omega) rfl) ?_
  refine g_top (v2 := aI ((k : Int))) (congrArg aI (by show V (c + 17) 9 = ((k : Int)); rw [hk])) ?_
  refine g_if_lt_f rfl (by omega) ?_
  refine g_aload_n rfl rfl ?_
  refine g_getI rfl (by (repeat (first | rw [hT_hw] | rw [hT_set] | rw [hT_put] | rw [hT_new, if_neg (by simp only [hz_put, hz_new, hz_hw, hz_set]; omega)])); exact cs.kd 17 (by omega) rfl) ?_
  refine g_top (v2 := aI ((k : Int))) (congrArg aI (by show V (c + 17) 9 = ((k : Int)); rw [hk])) ?_
  refine g_bipush rfl ?_
  refine g_icmp_lt rfl (fun c13 => ?_) (fun c13 => ?_)
  · skip
    refine g_sipush rfl ?_
    have csn := cs.new 2 286 hc
    refine g_newarray (m := 286) rfl (by omega) (by omega) (by rfl) ?_
    refine g_hp (h2 := hw (hnew h 2 286) (fun b j => if b = hz h then 0 else V b j)) rfl ?_
    refine g_astore_n (l1 := [(1, aO (some (hz h))), (0, aO (some (c + 17)))]) rfl rfl ?_
    refine g_aload_n rfl rfl ?_
    refine g_aload_n rfl rfl ?_
    refine g_getR rfl ((csn.kd 17 (by omega) rfl)) (csn.rf 27 (by omega) rfl) ?_
    refine g_aload_n rfl rfl ?_
    refine g_callVN [aO (some (c + 23)), aO (some (hz h))] [] rfl rfl rfl rfl (Nat.le_of_ble_eq_true rfl) ((csn.kd 17 (by omega) rfl)) (x_copy (by omega) csn (fun b j => if b = hz h then 0 else V b j) (c + 23) (hz h) (csn.ar 23 (by omega) rfl) (by rw [hT_new, if_pos rfl]) (by omega)) ?_
    rintro _ ⟨V1, rfl, hf, hz1⟩
    have hk1 : V1 (c + 17) 9 = k := by rw [hf _ (by omega)]; show (if c + 17 = hz h then (0 : Int) else V (c + 17) 9) = k; rw [if_neg (by omega)]; exact hk
    refine g_aload_n rfl rfl ?_
    refine g_getR rfl ((csn.kd 17 (by omega) rfl)) (csn.rf 26 (by omega) rfl) ?_
    refine g_aload_n rfl rfl ?_
    refine g_getI rfl ((csn.kd 17 (by omega) rfl)) ?_
    refine g_top (v2 := aI ((k : Int))) (congrArg aI (by exact hk1)) ?_
    refine g_aload_n rfl rfl ?_
    refine g_aast (i := k) rfl (csn.ar 22 (by omega) rfl) (by exact Or.inr ⟨rfl, by rw [hT_hw, hT_new, if_pos rfl]⟩) (by omega) (by omega) ?_
    refine g_hp (h2 := hw (hput (hnew h 2 286) (c + 22) k (some (hz h))) V1) rfl ?_
    have csn : CS (hput (hnew h 2 286) (c + 22) k (some (hz h))) c := csn.put (by intro i hi e; exact xr_22 i hi (by omega))
    refine g_aload_n rfl rfl ?_
    refine g_dup rfl rfl ?_
    refine g_getI rfl ((csn.kd 17 (by omega) rfl)) ?_
    refine g_top (v2 := aI ((k : Int))) (congrArg aI (by exact hk1)) ?_
    refine g_iconst rfl ?_
    refine g_iadd rfl (by omega) (by omega) ?_
    refine g_putI rfl ((csn.kd 17 (by omega) rfl)) ?_
    refine g_aload_n rfl rfl ?_
    refine g_getI rfl ((csn.kd 17 (by omega) rfl)) ?_
    refine g_top (v2 := aI (((k : Int)) + 1)) (congrArg aI (by show (vset V1 (c + 17) 9 (((k : Int)) + 1)) (c + 17) 9 = (((k : Int)) + 1); rw [vset_eq])) ?_
    refine g_iconst rfl ?_
    refine g_isub rfl (by omega) (by omega) ?_
    refine g_iret rfl ?_
    refine ⟨fun u => by omega, fun _ => ⟨⟨vset V1 (c + 17) 9 ((k : Int) + 1), rfl, fun a h1 h2 => ?_, ?_, fun f hf9 => ?_, fun t ht => ?_⟩, by omega⟩⟩
    · funext j
      rw [vset_ne _ _ _ _ (by omega), hf a h1]
      show (if a = hz h then (0 : Int) else V a j) = V a j
      rw [if_neg h1]
    · rw [vset_eq]
    · rw [vset_ne _ _ _ _ (by omega), hf _ (by omega)]
      show (if c + 17 = hz h then (0 : Int) else V (c + 17) f) = V (c + 17) f
      rw [if_neg (by omega)]
    · rw [vset_ne _ _ _ _ (by omega), hz1 t ht]
      show (if c + 23 = hz h then (0 : Int) else V (c + 23) t) = V (c + 23) t
      rw [if_neg (by omega)]
  · skip
    refine g_bipush rfl ?_
    refine g_iret rfl ?_
    exact ⟨fun _ => ⟨rfl, rfl⟩, fun u => by omega⟩
/-- the place of the unknown u, or of none -/
def uI (u : Int) : Nat := if u = 0 then pI 1 0 0 else if u = 1 then pI 0 1 0 else if u = 2 then pI 0 0 1 else pI 0 0 0
theorem uI_lt (u : Int) : uI u < 286 := by
  unfold uI
  split
  · decide +kernel
  · split
    · decide +kernel
    · split <;> decide +kernel
/-- a polynomial of one term -/
def sP (v u : Int) (t : Nat) : Int := if t = uI u then v else 0
theorem x_keepSingle {w : aW} {d : Nat} (hd : 3 ≤ d) {h : aH} {c : Nat} (cs : CS h c) (V : Nat → Nat → Int) (k : Nat) (hk : V (c + 17) 9 = k) (hk2 : k ≤ 60) (hc : c + 34 ≤ hz h) (xe : XE V c) (v u : Int) : WP w d 133 [aO (some (c + 17)), aJ v, aI u] (hw h V) (RI (fun r h1 => if v < -67108864 ∨ 67108864 < v then h1 = hw h V ∧ r = -4 else ∃ V1, (∀ a, a ≠ c + 23 → V1 a = V a) ∧ (∀ t < 286, V1 (c + 23) t = sP v u t) ∧ (k = 60 → h1 = hw h V1 ∧ r = -4) ∧ (k < 60 → KPost h V1 c k h1 ∧ r = k))) := by
  obtain ⟨d, rfl⟩ : ∃ d1, d = d1 + 1 := ⟨d - 1, by omega⟩
  refine WP.enter (cd := cd_X4_keepSingle) rfl ?_
  have hls : largs 0 [aO (some (c + 17)), aJ v, aI u] = [(0, aO (some (c + 17))), (1, aJ v), (3, aI u)] := rfl
  rw [hls]
  clear hls
  have j60 : ∀ (V1 : Nat → Nat → Int), (∀ a, a ≠ c + 23 → V1 a = V a) → (∀ j < 286, V1 (c + 23) j = 0) → (¬(v < -67108864 ∨ 67108864 < v)) → Wk w d cd_X4_keepSingle 60 [(0, aO (some (c + 17))), (1, aJ v), (3, aI u)] [aI (((uI u : Nat) : Int))] (hw h V1) (RI (fun r h1 => if v < -67108864 ∨ 67108864 < v then h1 = hw h V ∧ r = -4 else ∃ V1, (∀ a, a ≠ c + 23 → V1 a = V a) ∧ (∀ t < 286, V1 (c + 23) t = sP v u t) ∧ (k = 60 → h1 = hw h V1 ∧ r = -4) ∧ (k < 60 → KPost h V1 c k h1 ∧ r = k))) := by
    intro V1 hf hz hv
    refine g_istore (l1 := [(4, aI (((uI u : Nat) : Int))), (0, aO (some (c + 17))), (1, aJ v), (3, aI u)]) rfl rfl ?_
    refine g_iload rfl rfl ?_
    refine g_if_lt_f rfl (by omega) ?_
    refine g_iload rfl rfl ?_
    refine g_sipush rfl ?_
    have hul := uI_lt u
    refine g_icmp_ge_f rfl (by omega) ?_
    refine g_aload_n rfl rfl ?_
    refine g_getR rfl (cs.kd 17 (by omega) rfl) (cs.rf 27 (by omega) rfl) ?_
    refine g_iload rfl rfl ?_
    refine g_lload_n rfl rfl ?_
    refine g_last (i := uI u) rfl (cs.ar 23 (by omega) rfl) (by omega) (by omega) ?_
    refine g_aload_n rfl rfl ?_
    refine g_callVI [] [] rfl rfl rfl rfl (Nat.le_of_ble_eq_true rfl) (cs.kd 17 (by omega) rfl) (x_keepResult (by omega) cs (vset V1 (c + 23) (uI u) v) k (by rw [vset_ne _ _ _ _ (by omega), hf _ (by omega)]; exact hk) hk2 hc) ?_
    intro r h2 q
    refine g_iret rfl ?_
    rw [if_neg hv]
    refine ⟨vset V1 (c + 23) (uI u) v, fun a ha => by funext j; rw [vset_ne _ _ _ _ (by omega), hf a ha], fun t ht => ?_, ?_⟩
    · unfold sP
      by_cases e : t = uI u
      · rw [e, vset_eq, if_pos rfl]
      · rw [vset_ne _ _ _ _ (by omega), if_neg e]; exact hz t ht
    · exact q
  refine g_lload_n rfl rfl ?_
  refine g_ldc2 rfl ?_
  refine g_lc_lt rfl rfl (fun c4 => ?_) (fun c4 => ?_)
  · skip
    refine g_bipush rfl ?_
    refine g_iret rfl ?_
    rw [if_pos (by omega)]
    exact ⟨rfl, rfl⟩
  · skip
    refine g_lload_n rfl rfl ?_
    refine g_ldc2 rfl ?_
    refine g_lc_le rfl rfl (fun c12 => ?_) (fun c12 => ?_)
    · skip
      refine g_aload_n rfl rfl ?_
      refine g_aload_n rfl rfl ?_
      refine g_getR rfl (cs.kd 17 (by omega) rfl) (cs.rf 27 (by omega) rfl) ?_
      refine g_callVN [aO (some (c + 23))] [] rfl rfl rfl rfl (Nat.le_of_ble_eq_true rfl) (cs.kd 17 (by omega) rfl) (x_clear (by omega) cs V (c + 23) (cs.ar 23 (by omega) rfl)) ?_
      rintro _ ⟨V1, rfl, hf, hz⟩
      have xe1 : XE V1 c := ⟨fun t ht => by rw [hf _ (by omega), hf _ (by omega), hf _ (by omega)]; exact xe.1 t ht, fun i j hij => by rw [hf _ (by omega)]; exact xe.2 i j hij⟩
      refine g_aload_n rfl rfl ?_
      refine g_iload_n rfl rfl ?_
      refine g_if_ne rfl (fun c29 => ?_) (fun c29 => ?_)
      · skip
        refine g_iconst rfl ?_
        refine g_iload_n rfl rfl ?_
        refine g_iconst rfl ?_
        refine g_icmp_ne rfl (fun c39 => ?_) (fun c39 => ?_)
        · skip
          refine g_iconst rfl ?_
          refine g_iload_n rfl rfl ?_
          refine g_iconst rfl ?_
          refine g_icmp_ne rfl (fun c49 => ?_) (fun c49 => ?_)
          · skip
            refine g_iconst rfl ?_
            refine g_callVI [aI 0, aI 0, aI 0] [] rfl rfl rfl rfl (Nat.le_of_ble_eq_true rfl) (cs.kd 17 (by omega) rfl) (x_indexOf (by omega) cs V1 xe1 _ _ _) ?_
            rintro r _ ⟨rfl, hr, -⟩
            obtain rfl := hr (by omega)
            refine g_top (v2 := aI ((uI u : Nat) : Int)) (congrArg aI (by congr 1; unfold uI; split <;> (try split) <;> (try split) <;> first | rfl | omega)) ?_
            exact j60 V1 (by exact hf) (by exact hz) (by omega)
          · skip
            refine g_iconst rfl ?_
            refine g_goto rfl ?_
            refine g_callVI [aI 0, aI 0, aI 1] [] rfl rfl rfl rfl (Nat.le_of_ble_eq_true rfl) (cs.kd 17 (by omega) rfl) (x_indexOf (by omega) cs V1 xe1 _ _ _) ?_
            rintro r _ ⟨rfl, hr, -⟩
            obtain rfl := hr (by omega)
            refine g_top (v2 := aI ((uI u : Nat) : Int)) (congrArg aI (by congr 1; unfold uI; split <;> (try split) <;> (try split) <;> first | rfl | omega)) ?_
            exact j60 V1 (by exact hf) (by exact hz) (by omega)
        · skip
          refine g_iconst rfl ?_
          refine g_goto rfl ?_
          refine g_iload_n rfl rfl ?_
          refine g_iconst rfl ?_
          refine g_icmp_ne rfl (fun c49 => ?_) (fun c49 => ?_)
          · skip
            refine g_iconst rfl ?_
            refine g_callVI [aI 0, aI 1, aI 0] [] rfl rfl rfl rfl (Nat.le_of_ble_eq_true rfl) (cs.kd 17 (by omega) rfl) (x_indexOf (by omega) cs V1 xe1 _ _ _) ?_
            rintro r _ ⟨rfl, hr, -⟩
            obtain rfl := hr (by omega)
            refine g_top (v2 := aI ((uI u : Nat) : Int)) (congrArg aI (by congr 1; unfold uI; split <;> (try split) <;> (try split) <;> first | rfl | omega)) ?_
            exact j60 V1 (by exact hf) (by exact hz) (by omega)
          · skip
            refine g_iconst rfl ?_
            refine g_goto rfl ?_
            refine g_callVI [aI 0, aI 1, aI 1] [] rfl rfl rfl rfl (Nat.le_of_ble_eq_true rfl) (cs.kd 17 (by omega) rfl) (x_indexOf (by omega) cs V1 xe1 _ _ _) ?_
            rintro r _ ⟨rfl, hr, -⟩
            obtain rfl := hr (by omega)
            refine g_top (v2 := aI ((uI u : Nat) : Int)) (congrArg aI (by congr 1; unfold uI; split <;> (try split) <;> (try split) <;> first | rfl | omega)) ?_
            exact j60 V1 (by exact hf) (by exact hz) (by omega)
      · skip
        refine g_iconst rfl ?_
        refine g_goto rfl ?_
        refine g_iload_n rfl rfl ?_
        refine g_iconst rfl ?_
        refine g_icmp_ne rfl (fun c39 => ?_) (fun c39 => ?_)
        · skip
          refine g_iconst rfl ?_
          refine g_iload_n rfl rfl ?_
          refine g_iconst rfl ?_
          refine g_icmp_ne rfl (fun c49 => ?_) (fun c49 => ?_)
          · skip
            refine g_iconst rfl ?_
            refine g_callVI [aI 1, aI 0, aI 0] [] rfl rfl rfl rfl (Nat.le_of_ble_eq_true rfl) (cs.kd 17 (by omega) rfl) (x_indexOf (by omega) cs V1 xe1 _ _ _) ?_
            rintro r _ ⟨rfl, hr, -⟩
            obtain rfl := hr (by omega)
            refine g_top (v2 := aI ((uI u : Nat) : Int)) (congrArg aI (by congr 1; unfold uI; split <;> (try split) <;> (try split) <;> first | rfl | omega)) ?_
            exact j60 V1 (by exact hf) (by exact hz) (by omega)
          · skip
            refine g_iconst rfl ?_
            refine g_goto rfl ?_
            refine g_callVI [aI 1, aI 0, aI 1] [] rfl rfl rfl rfl (Nat.le_of_ble_eq_true rfl) (cs.kd 17 (by omega) rfl) (x_indexOf (by omega) cs V1 xe1 _ _ _) ?_
            rintro r _ ⟨rfl, hr, -⟩
            obtain rfl := hr (by omega)
            refine g_top (v2 := aI ((uI u : Nat) : Int)) (congrArg aI (by congr 1; unfold uI; split <;> (try split) <;> (try split) <;> first | rfl | omega)) ?_
            exact j60 V1 (by exact hf) (by exact hz) (by omega)
        · skip
          refine g_iconst rfl ?_
          refine g_goto rfl ?_
          refine g_iload_n rfl rfl ?_
          refine g_iconst rfl ?_
          refine g_icmp_ne rfl (fun c49 => ?_) (fun c49 => ?_)
          · skip
            refine g_iconst rfl ?_
            refine g_callVI [aI 1, aI 1, aI 0] [] rfl rfl rfl rfl (Nat.le_of_ble_eq_true rfl) (cs.kd 17 (by omega) rfl) (x_indexOf (by omega) cs V1 xe1 _ _ _) ?_
            rintro r _ ⟨rfl, hr, -⟩
            obtain rfl := hr (by omega)
            refine g_top (v2 := aI ((uI u : Nat) : Int)) (congrArg aI (by congr 1; unfold uI; split <;> (try split) <;> (try split) <;> first | rfl | omega)) ?_
            exact j60 V1 (by exact hf) (by exact hz) (by omega)
          · skip
            refine g_iconst rfl ?_
            refine g_goto rfl ?_
            refine g_callVI [aI 1, aI 1, aI 1] [] rfl rfl rfl rfl (Nat.le_of_ble_eq_true rfl) (cs.kd 17 (by omega) rfl) (x_indexOf (by omega) cs V1 xe1 _ _ _) ?_
            rintro r _ ⟨rfl, hr, -⟩
            obtain rfl := hr (by omega)
            refine g_top (v2 := aI ((uI u : Nat) : Int)) (congrArg aI (by congr 1; unfold uI; split <;> (try split) <;> (try split) <;> first | rfl | omega)) ?_
            exact j60 V1 (by exact hf) (by exact hz) (by omega)
    · skip
      refine g_bipush rfl ?_
      refine g_iret rfl ?_
      rw [if_pos (by omega)]
      exact ⟨rfl, rfl⟩
