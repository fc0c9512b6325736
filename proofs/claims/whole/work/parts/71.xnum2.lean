/-! the class's numbers, by the picture: printed by wip/whole/s71.py -/
theorem mulB {x y : Int} (hx : -1073741824 ≤ x) (hx2 : x ≤ 1073741824) (hy : -1073741824 ≤ y) (hy2 : y ≤ 1073741824) : -1152921504606846976 ≤ x * y ∧ x * y ≤ 1152921504606846976 := by
  have h1 := Int.mul_nonneg (show 0 ≤ 1073741824 - x by omega) (show 0 ≤ 1073741824 - y by omega)
  have h2 := Int.mul_nonneg (show 0 ≤ 1073741824 + x by omega) (show 0 ≤ 1073741824 + y by omega)
  have h3 := Int.mul_nonneg (show 0 ≤ 1073741824 - x by omega) (show 0 ≤ 1073741824 + y by omega)
  have h4 := Int.mul_nonneg (show 0 ≤ 1073741824 + x by omega) (show 0 ≤ 1073741824 - y by omega)
  simp only [Int.sub_mul, Int.mul_sub, Int.add_mul, Int.mul_add] at h1 h2 h3 h4
  omega
theorem OkN.at {S : aS} (ok : OkN S) {a : Int} (ha : 0 ≤ a ∧ a < sN S) : 0 < (sNu S a.toNat).2 ∧ (sNu S a.toNat).2 ≤ 1073741824 ∧ -1073741824 ≤ (sNu S a.toNat).1 ∧ (sNu S a.toNat).1 ≤ 1073741824 ∧ Int.gcd (sNu S a.toNat).1 (sNu S a.toNat).2 = 1 := ok.2 _ (by omega)
theorem x_upS {w : aW} {d : Nat} (hd : 2 ≤ d) {h : aH} {c : Nat} (cs : CS h c) (V : Nat → Nat → Int) {S : aS} (xn : XN V c S) (ok : OkN S) (a : Int) (ha : 0 ≤ a ∧ a < sN S) : WP w d 21 [aO (some (c + 3)), aI a] (hw h V) (RJ (fun v h1 => h1 = hw h V ∧ v = (sNu S a.toNat).1)) := by
  refine (x_upOf hd cs V (sN S) xn.1 ok.1 a).imp ?_
  rintro _ h1 ⟨r, rfl, rfl, q⟩
  refine ⟨r, rfl, rfl, ?_⟩
  rw [q, if_pos ha]
  exact (xn.2 _ (by omega)).1
theorem x_downS {w : aW} {d : Nat} (hd : 2 ≤ d) {h : aH} {c : Nat} (cs : CS h c) (V : Nat → Nat → Int) {S : aS} (xn : XN V c S) (ok : OkN S) (a : Int) (ha : 0 ≤ a ∧ a < sN S) : WP w d 22 [aO (some (c + 3)), aI a] (hw h V) (RJ (fun v h1 => h1 = hw h V ∧ v = (sNu S a.toNat).2)) := by
  refine (x_downOf hd cs V (sN S) xn.1 ok.1 a).imp ?_
  rintro _ h1 ⟨r, rfl, rfl, q⟩
  refine ⟨r, rfl, rfl, ?_⟩
  rw [q, if_pos ha]
  exact (xn.2 _ (by omega)).2
def spR (S : aS) (op : Int) (p q : Int × Int) : Int × aS := if op = 0 then spF S (p.1 * q.2 + q.1 * p.2) (p.2 * q.2) else if op = 1 then spF S (p.1 * q.2 - q.1 * p.2) (p.2 * q.2) else if op = 2 then spF S (p.1 * q.1) (p.2 * q.2) else if q.1 = 0 then (-3, S) else spF S (p.1 * q.2) (p.2 * q.1)
theorem x_reckon {w : aW} {d : Nat} (hd : 6 ≤ d) {h : aH} {c : Nat} (cs : CS h c) (V : Nat → Nat → Int) {S : aS} (xn : XN V c S) (ok : OkN S) (op : Int) (hop : 0 ≤ op ∧ op < 4) (a b : Int) (ha : 0 ≤ a ∧ a < sN S) (hb : 0 ≤ b ∧ b < sN S) : WP w d 26 [aO (some (c + 3)), aI op, aI a, aI b] (hw h V) (RI (fun r h1 => ∃ V1, h1 = hw h V1 ∧ XN V1 c (spR S op (sNu S a.toNat) (sNu S b.toNat)).2 ∧ FN V V1 c ∧ r = (spR S op (sNu S a.toNat) (sNu S b.toNat)).1)) := by
  obtain ⟨d, rfl⟩ : ∃ d1, d = d1 + 1 := ⟨d - 1, by omega⟩
  refine WP.enter (cd := cd_X1_reckon) rfl ?_
  have hp := ok.at ha
  have hq := ok.at hb
  have m0 := mulB (x := (sNu S a.toNat).1) (y := (sNu S b.toNat).2) (by omega) (by omega) (by omega) (by omega)
  have m1 := mulB (x := (sNu S b.toNat).1) (y := (sNu S a.toNat).2) (by omega) (by omega) (by omega) (by omega)
  have m2 := mulB (x := (sNu S a.toNat).2) (y := (sNu S b.toNat).2) (by omega) (by omega) (by omega) (by omega)
  have m3 := mulB (x := (sNu S a.toNat).1) (y := (sNu S b.toNat).1) (by omega) (by omega) (by omega) (by omega)
  have m4 := mulB (x := (sNu S a.toNat).2) (y := (sNu S b.toNat).1) (by omega) (by omega) (by omega) (by omega)
  have hls : largs 0 [aO (some (c + 3)), aI op, aI a, aI b] = [(0, aO (some (c + 3))), (1, aI op), (2, aI a), (3, aI b)] := rfl
  rw [hls]
  clear hls
  refine g_aload_n rfl rfl ?_
  refine g_iload_n rfl rfl ?_
  refine g_callVJ [aI a] [] rfl rfl rfl rfl (Nat.le_of_ble_eq_true rfl) (cs.kd 3 (by omega) rfl) (x_upS (by omega) cs V xn ok a (by omega)) ?_
  rintro _ _ ⟨rfl, rfl⟩
  refine g_lstore (l1 := [(4, aJ ((sNu S (a).toNat).1)), (0, aO (some (c + 3))), (1, aI op), (2, aI a), (3, aI b)]) rfl rfl ?_
  refine g_aload_n rfl rfl ?_
  refine g_iload_n rfl rfl ?_
  refine g_callVJ [aI a] [] rfl rfl rfl rfl (Nat.le_of_ble_eq_true rfl) (cs.kd 3 (by omega) rfl) (x_downS (by omega) cs V xn ok a (by omega)) ?_
  rintro _ _ ⟨rfl, rfl⟩
  refine g_lstore (l1 := [(6, aJ ((sNu S (a).toNat).2)), (4, aJ ((sNu S (a).toNat).1)), (0, aO (some (c + 3))), (1, aI op), (2, aI a), (3, aI b)]) rfl rfl ?_
  refine g_aload_n rfl rfl ?_
  refine g_iload_n rfl rfl ?_
  refine g_callVJ [aI b] [] rfl rfl rfl rfl (Nat.le_of_ble_eq_true rfl) (cs.kd 3 (by omega) rfl) (x_upS (by omega) cs V xn ok b (by omega)) ?_
  rintro _ _ ⟨rfl, rfl⟩
  refine g_lstore (l1 := [(8, aJ ((sNu S (b).toNat).1)), (6, aJ ((sNu S (a).toNat).2)), (4, aJ ((sNu S (a).toNat).1)), (0, aO (some (c + 3))), (1, aI op), (2, aI a), (3, aI b)]) rfl rfl ?_
  refine g_aload_n rfl rfl ?_
  refine g_iload_n rfl rfl ?_
  refine g_callVJ [aI b] [] rfl rfl rfl rfl (Nat.le_of_ble_eq_true rfl) (cs.kd 3 (by omega) rfl) (x_downS (by omega) cs V xn ok b (by omega)) ?_
  rintro _ _ ⟨rfl, rfl⟩
  refine g_lstore (l1 := [(10, aJ ((sNu S (b).toNat).2)), (8, aJ ((sNu S (b).toNat).1)), (6, aJ ((sNu S (a).toNat).2)), (4, aJ ((sNu S (a).toNat).1)), (0, aO (some (c + 3))), (1, aI op), (2, aI a), (3, aI b)]) rfl rfl ?_
  refine g_iload_n rfl rfl ?_
  refine g_if_ne rfl (fun c29 => ?_) (fun c29 => ?_)
  · skip
    refine g_iload_n rfl rfl ?_
    refine g_iconst rfl ?_
    refine g_icmp_ne rfl (fun c55 => ?_) (fun c55 => ?_)
    · skip
      refine g_iload_n rfl rfl ?_
      refine g_iconst rfl ?_
      refine g_icmp_ne rfl (fun c81 => ?_) (fun c81 => ?_)
      · skip
        refine g_lload rfl rfl ?_
        refine g_lconst0 rfl ?_
        refine g_lc_ne rfl rfl (fun c102 => ?_) (fun c102 => ?_)
        · skip
          refine g_aload_n rfl rfl ?_
          refine g_lload rfl rfl ?_
          refine g_lload rfl rfl ?_
          refine g_lmul rfl (by omega) (by omega) ?_
          refine g_lload rfl rfl ?_
          refine g_lload rfl rfl ?_
          refine g_lmul rfl (by omega) (by omega) ?_
          refine g_callVI [aJ (((sNu S (a).toNat).1) * ((sNu S (b).toNat).2)), aJ (((sNu S (a).toNat).2) * ((sNu S (b).toNat).1))] [] rfl rfl rfl rfl (Nat.le_of_ble_eq_true rfl) (cs.kd 3 (by omega) rfl) (x_keepS (by omega) cs V xn ok (((sNu S (a).toNat).1) * ((sNu S (b).toNat).2)) (((sNu S (a).toNat).2) * ((sNu S (b).toNat).1)) (by omega) (by omega)) ?_
          rintro _ _ ⟨W5, rfl, hx, hf, rfl⟩
          refine g_iret rfl ?_
          unfold spR
          first
            | (rw [if_pos (by omega)]; exact ⟨_, rfl, hx, hf, rfl⟩)
            | (rw [if_neg (by omega), if_pos (by omega)]; exact ⟨_, rfl, hx, hf, rfl⟩)
            | (rw [if_neg (by omega), if_neg (by omega), if_pos (by omega)]; exact ⟨_, rfl, hx, hf, rfl⟩)
            | (rw [if_neg (by omega), if_neg (by omega), if_neg (by omega), if_neg (by omega)]; exact ⟨_, rfl, hx, hf, rfl⟩)
            | (rw [if_neg (by omega), if_neg (by omega), if_neg (by omega), if_pos (by omega)]; exact ⟨V, rfl, xn, fun _ _ _ _ => rfl, rfl⟩)
        · skip
          refine g_bipush rfl ?_
          refine g_goto rfl ?_
          refine g_iret rfl ?_
          unfold spR
          first
            | (rw [if_pos (by omega)]; exact ⟨_, rfl, hx, hf, rfl⟩)
            | (rw [if_neg (by omega), if_pos (by omega)]; exact ⟨_, rfl, hx, hf, rfl⟩)
            | (rw [if_neg (by omega), if_neg (by omega), if_pos (by omega)]; exact ⟨_, rfl, hx, hf, rfl⟩)
            | (rw [if_neg (by omega), if_neg (by omega), if_neg (by omega), if_neg (by omega)]; exact ⟨_, rfl, hx, hf, rfl⟩)
            | (rw [if_neg (by omega), if_neg (by omega), if_neg (by omega), if_pos (by omega)]; exact ⟨V, rfl, xn, fun _ _ _ _ => rfl, rfl⟩)
      · skip
        refine g_aload_n rfl rfl ?_
        refine g_lload rfl rfl ?_
        refine g_lload rfl rfl ?_
        refine g_lmul rfl (by omega) (by omega) ?_
        refine g_lload rfl rfl ?_
        refine g_lload rfl rfl ?_
        refine g_lmul rfl (by omega) (by omega) ?_
        refine g_callVI [aJ (((sNu S (a).toNat).1) * ((sNu S (b).toNat).1)), aJ (((sNu S (a).toNat).2) * ((sNu S (b).toNat).2))] [] rfl rfl rfl rfl (Nat.le_of_ble_eq_true rfl) (cs.kd 3 (by omega) rfl) (x_keepS (by omega) cs V xn ok (((sNu S (a).toNat).1) * ((sNu S (b).toNat).1)) (((sNu S (a).toNat).2) * ((sNu S (b).toNat).2)) (by omega) (by omega)) ?_
        rintro _ _ ⟨W6, rfl, hx, hf, rfl⟩
        refine g_iret rfl ?_
        unfold spR
        first
          | (rw [if_pos (by omega)]; exact ⟨_, rfl, hx, hf, rfl⟩)
          | (rw [if_neg (by omega), if_pos (by omega)]; exact ⟨_, rfl, hx, hf, rfl⟩)
          | (rw [if_neg (by omega), if_neg (by omega), if_pos (by omega)]; exact ⟨_, rfl, hx, hf, rfl⟩)
          | (rw [if_neg (by omega), if_neg (by omega), if_neg (by omega), if_neg (by omega)]; exact ⟨_, rfl, hx, hf, rfl⟩)
          | (rw [if_neg (by omega), if_neg (by omega), if_neg (by omega), if_pos (by omega)]; exact ⟨V, rfl, xn, fun _ _ _ _ => rfl, rfl⟩)
    · skip
      refine g_aload_n rfl rfl ?_
      refine g_lload rfl rfl ?_
      refine g_lload rfl rfl ?_
      refine g_lmul rfl (by omega) (by omega) ?_
      refine g_lload rfl rfl ?_
      refine g_lload rfl rfl ?_
      refine g_lmul rfl (by omega) (by omega) ?_
      refine g_lsub rfl (by omega) (by omega) ?_
      refine g_lload rfl rfl ?_
      refine g_lload rfl rfl ?_
      refine g_lmul rfl (by omega) (by omega) ?_
      refine g_callVI [aJ ((((sNu S (a).toNat).1) * ((sNu S (b).toNat).2)) - (((sNu S (b).toNat).1) * ((sNu S (a).toNat).2))), aJ (((sNu S (a).toNat).2) * ((sNu S (b).toNat).2))] [] rfl rfl rfl rfl (Nat.le_of_ble_eq_true rfl) (cs.kd 3 (by omega) rfl) (x_keepS (by omega) cs V xn ok ((((sNu S (a).toNat).1) * ((sNu S (b).toNat).2)) - (((sNu S (b).toNat).1) * ((sNu S (a).toNat).2))) (((sNu S (a).toNat).2) * ((sNu S (b).toNat).2)) (by omega) (by omega)) ?_
      rintro _ _ ⟨W7, rfl, hx, hf, rfl⟩
      refine g_iret rfl ?_
      unfold spR
      first
        | (rw [if_pos (by omega)]; exact ⟨_, rfl, hx, hf, rfl⟩)
        | (rw [if_neg (by omega), if_pos (by omega)]; exact ⟨_, rfl, hx, hf, rfl⟩)
        | (rw [if_neg (by omega), if_neg (by omega), if_pos (by omega)]; exact ⟨_, rfl, hx, hf, rfl⟩)
        | (rw [if_neg (by omega), if_neg (by omega), if_neg (by omega), if_neg (by omega)]; exact ⟨_, rfl, hx, hf, rfl⟩)
        | (rw [if_neg (by omega), if_neg (by omega), if_neg (by omega), if_pos (by omega)]; exact ⟨V, rfl, xn, fun _ _ _ _ => rfl, rfl⟩)
  · skip
    refine g_aload_n rfl rfl ?_
    refine g_lload rfl rfl ?_
    refine g_lload rfl rfl ?_
    refine g_lmul rfl (by omega) (by omega) ?_
    refine g_lload rfl rfl ?_
    refine g_lload rfl rfl ?_
    refine g_lmul rfl (by omega) (by omega) ?_
    refine g_ladd rfl (by omega) (by omega) ?_
    refine g_lload rfl rfl ?_
    refine g_lload rfl rfl ?_
    refine g_lmul rfl (by omega) (by omega) ?_
    refine g_callVI [aJ ((((sNu S (a).toNat).1) * ((sNu S (b).toNat).2)) + (((sNu S (b).toNat).1) * ((sNu S (a).toNat).2))), aJ (((sNu S (a).toNat).2) * ((sNu S (b).toNat).2))] [] rfl rfl rfl rfl (Nat.le_of_ble_eq_true rfl) (cs.kd 3 (by omega) rfl) (x_keepS (by omega) cs V xn ok ((((sNu S (a).toNat).1) * ((sNu S (b).toNat).2)) + (((sNu S (b).toNat).1) * ((sNu S (a).toNat).2))) (((sNu S (a).toNat).2) * ((sNu S (b).toNat).2)) (by omega) (by omega)) ?_
    rintro _ _ ⟨W8, rfl, hx, hf, rfl⟩
    refine g_iret rfl ?_
    unfold spR
    first
      | (rw [if_pos (by omega)]; exact ⟨_, rfl, hx, hf, rfl⟩)
      | (rw [if_neg (by omega), if_pos (by omega)]; exact ⟨_, rfl, hx, hf, rfl⟩)
      | (rw [if_neg (by omega), if_neg (by omega), if_pos (by omega)]; exact ⟨_, rfl, hx, hf, rfl⟩)
      | (rw [if_neg (by omega), if_neg (by omega), if_neg (by omega), if_neg (by omega)]; exact ⟨_, rfl, hx, hf, rfl⟩)
      | (rw [if_neg (by omega), if_neg (by omega), if_neg (by omega), if_pos (by omega)]; exact ⟨V, rfl, xn, fun _ _ _ _ => rfl, rfl⟩)
theorem c_cmp {w : aW} {d : Nat} (hd : 1 ≤ d) (x y : Int) (h : aH) : WP w d 382 [aJ x, aJ y] h (RI (fun v h1 => h1 = h ∧ v = if x < y then -1 else if x = y then 0 else 1)) := by
  obtain ⟨d, rfl⟩ : ∃ d1, d = d1 + 1 := ⟨d - 1, by omega⟩
  refine WP.enter (cd := cd_J13_compare_74951) rfl ?_
  have hls : largs 0 [aJ x, aJ y] = [(0, aJ x), (2, aJ y)] := rfl
  rw [hls]
  clear hls
  refine g_lload_n rfl rfl ?_
  refine g_lload_n rfl rfl ?_
  refine g_lc_ge rfl rfl (fun c2 => ?_) (fun c2 => ?_)
  · skip
    refine g_lload_n rfl rfl ?_
    refine g_lload_n rfl rfl ?_
    refine g_lc_ne rfl rfl (fun c12 => ?_) (fun c12 => ?_)
    · skip
      refine g_iconst rfl ?_
      refine g_iret rfl ?_
      refine ⟨rfl, ?_⟩
      split
      · omega
      · first
          | omega
          | (split <;> omega)
    · skip
      refine g_iconst rfl ?_
      refine g_goto rfl ?_
      refine g_iret rfl ?_
      refine ⟨rfl, ?_⟩
      split
      · omega
      · first
          | omega
          | (split <;> omega)
  · skip
    refine g_iconst rfl ?_
    refine g_goto rfl ?_
    refine g_iret rfl ?_
    refine ⟨rfl, ?_⟩
    split
    · omega
    · first
        | omega
        | (split <;> omega)
def ordF (p q : Int × Int) : Int := if p.1 * q.2 < q.1 * p.2 then -1 else if p.1 * q.2 = q.1 * p.2 then 0 else 1
theorem ordF_b (p q : Int × Int) : -1 ≤ ordF p q ∧ ordF p q ≤ 1 := by
  unfold ordF
  split
  · omega
  · split <;> omega
theorem x_orderN {w : aW} {d : Nat} (hd : 3 ≤ d) {h : aH} {c : Nat} (cs : CS h c) (V : Nat → Nat → Int) {S : aS} (xn : XN V c S) (ok : OkN S) (a b : Int) (ha : 0 ≤ a ∧ a < sN S) (hb : 0 ≤ b ∧ b < sN S) : WP w d 29 [aO (some (c + 3)), aI a, aI b] (hw h V) (RI (fun r h1 => h1 = hw h V ∧ r = ordF (sNu S a.toNat) (sNu S b.toNat))) := by
  obtain ⟨d, rfl⟩ : ∃ d1, d = d1 + 1 := ⟨d - 1, by omega⟩
  refine WP.enter (cd := cd_X1_order) rfl ?_
  have hp := ok.at ha
  have hq := ok.at hb
  have m0 := mulB (x := (sNu S a.toNat).1) (y := (sNu S b.toNat).2) (by omega) (by omega) (by omega) (by omega)
  have m1 := mulB (x := (sNu S b.toNat).1) (y := (sNu S a.toNat).2) (by omega) (by omega) (by omega) (by omega)
  have m2 := mulB (x := (sNu S a.toNat).2) (y := (sNu S b.toNat).2) (by omega) (by omega) (by omega) (by omega)
  have m3 := mulB (x := (sNu S a.toNat).1) (y := (sNu S b.toNat).1) (by omega) (by omega) (by omega) (by omega)
  have m4 := mulB (x := (sNu S a.toNat).2) (y := (sNu S b.toNat).1) (by omega) (by omega) (by omega) (by omega)
  have hls : largs 0 [aO (some (c + 3)), aI a, aI b] = [(0, aO (some (c + 3))), (1, aI a), (2, aI b)] := rfl
  rw [hls]
  clear hls
  refine g_aload_n rfl rfl ?_
  refine g_iload_n rfl rfl ?_
  refine g_callVJ [aI a] [] rfl rfl rfl rfl (Nat.le_of_ble_eq_true rfl) (cs.kd 3 (by omega) rfl) (x_upS (by omega) cs V xn ok a (by omega)) ?_
  rintro _ _ ⟨rfl, rfl⟩
  refine g_aload_n rfl rfl ?_
  refine g_iload_n rfl rfl ?_
  refine g_callVJ [aI b] [aJ ((sNu S (a).toNat).1)] rfl rfl rfl rfl (Nat.le_of_ble_eq_true rfl) (cs.kd 3 (by omega) rfl) (x_downS (by omega) cs V xn ok b (by omega)) ?_
  rintro _ _ ⟨rfl, rfl⟩
  refine g_lmul rfl (by omega) (by omega) ?_
  refine g_aload_n rfl rfl ?_
  refine g_iload_n rfl rfl ?_
  refine g_callVJ [aI b] [aJ (((sNu S (a).toNat).1) * ((sNu S (b).toNat).2))] rfl rfl rfl rfl (Nat.le_of_ble_eq_true rfl) (cs.kd 3 (by omega) rfl) (x_upS (by omega) cs V xn ok b (by omega)) ?_
  rintro _ _ ⟨rfl, rfl⟩
  refine g_aload_n rfl rfl ?_
  refine g_iload_n rfl rfl ?_
  refine g_callVJ [aI a] [aJ ((sNu S (b).toNat).1), aJ (((sNu S (a).toNat).1) * ((sNu S (b).toNat).2))] rfl rfl rfl rfl (Nat.le_of_ble_eq_true rfl) (cs.kd 3 (by omega) rfl) (x_downS (by omega) cs V xn ok a (by omega)) ?_
  rintro _ _ ⟨rfl, rfl⟩
  refine g_lmul rfl (by omega) (by omega) ?_
  refine g_callSI [aJ (((sNu S (a).toNat).1) * ((sNu S (b).toNat).2)), aJ (((sNu S (b).toNat).1) * ((sNu S (a).toNat).2))] [] rfl rfl rfl rfl (Nat.le_of_ble_eq_true rfl) (c_cmp (by omega) (((sNu S (a).toNat).1) * ((sNu S (b).toNat).2)) (((sNu S (b).toNat).1) * ((sNu S (a).toNat).2)) _) ?_
  rintro _ _ ⟨rfl, rfl⟩
  refine g_iret rfl ?_
  exact ⟨rfl, rfl⟩
theorem lowF_id {p : Int × Int} (h : NuOk p) : lowF p.1 p.2 = p := by
  obtain ⟨h1, -, -, -, h5⟩ := h
  unfold lowF
  rw [if_neg (by omega), h5]
  simp
theorem spF_id (S : aS) {p : Int × Int} (h : NuOk p) : spF S p.1 p.2 = keepN S p := by
  unfold spF
  rw [lowF_id h, if_neg]
  rw [badF_iff]
  obtain ⟨h1, h2, h3, h4, h5⟩ := h
  omega
theorem spF_neg1 (S : aS) {n d1 : Int} (h : NuOk (n, d1)) : spF S n d1 = keepN S (n, d1) := spF_id S h
theorem x_keepAgain {w : aW} {d : Nat} (hd : 6 ≤ d) {h : aH} {c : Nat} (cs : CS h c) (V : Nat → Nat → Int) {S : aS} (xn : XN V c S) (ok : OkN S) (a : Int) (ha : 0 ≤ a ∧ a < sN S) : WP w d 28 [aO (some (c + 3)), aI a] (hw h V) (RI (fun r h1 => ∃ V1, h1 = hw h V1 ∧ XN V1 c (keepN S (sNu S a.toNat)).2 ∧ FN V V1 c ∧ r = (keepN S (sNu S a.toNat)).1)) := by
  obtain ⟨d, rfl⟩ : ∃ d1, d = d1 + 1 := ⟨d - 1, by omega⟩
  refine WP.enter (cd := cd_X1_keepAgain) rfl ?_
  have hp := ok.at ha
  have hls : largs 0 [aO (some (c + 3)), aI a] = [(0, aO (some (c + 3))), (1, aI a)] := rfl
  rw [hls]
  clear hls
  refine g_aload_n rfl rfl ?_
  refine g_aload_n rfl rfl ?_
  refine g_iload_n rfl rfl ?_
  refine g_callVJ [aI a] [aO (some (c + 3))] rfl rfl rfl rfl (Nat.le_of_ble_eq_true rfl) (cs.kd 3 (by omega) rfl) (x_upS (by omega) cs V xn ok a (by omega)) ?_
  rintro _ _ ⟨rfl, rfl⟩
  refine g_aload_n rfl rfl ?_
  refine g_iload_n rfl rfl ?_
  refine g_callVJ [aI a] [aJ ((sNu S (a).toNat).1), aO (some (c + 3))] rfl rfl rfl rfl (Nat.le_of_ble_eq_true rfl) (cs.kd 3 (by omega) rfl) (x_downS (by omega) cs V xn ok a (by omega)) ?_
  rintro _ _ ⟨rfl, rfl⟩
  refine g_callVI [aJ ((sNu S (a).toNat).1), aJ ((sNu S (a).toNat).2)] [] rfl rfl rfl rfl (Nat.le_of_ble_eq_true rfl) (cs.kd 3 (by omega) rfl) (x_keepS (by omega) cs V xn ok ((sNu S (a).toNat).1) ((sNu S (a).toNat).2) (by omega) (by omega)) ?_
  rintro _ _ ⟨W3, rfl, hx, hf, rfl⟩
  refine g_iret rfl ?_
  rw [spF_id S (ok.2 a.toNat (by omega))] at hx ⊢
  exact ⟨_, rfl, hx, hf, rfl⟩
