/-! the class chooses numbers: printed by wip/whole/s79.py -/
def smF (x y z t : Int) : Int × Int := (((smW x.toNat y.toNat z.toNat t.toNat 0 1 1 0).1 : Nat), ((smW x.toNat y.toNat z.toNat t.toNat 0 1 1 0).2 : Nat))
theorem smF_start {x y z t : Int} (hx : 0 < x ∧ x ≤ 1073741824) (hy : 0 < y ∧ y ≤ 1073741824) (hz : z ≤ 1073741824) (ht : 0 < t ∧ t ≤ 1073741824) (ho : x * t ≤ z * y) : ∃ a b u f : Nat, x = a ∧ y = b ∧ z = u ∧ t = f ∧ SmI a b u f 0 1 1 0 := by
  have hz0 : 0 ≤ z := by
    rcases Int.lt_or_le z 0 with q | q
    · exfalso
      have h1 := Int.mul_pos hx.1 ht.1
      have h2 := Int.mul_neg_of_neg_of_pos q hy.1
      omega
    · exact q
  refine ⟨x.toNat, y.toNat, z.toNat, t.toNat, by omega, by omega, by omega, by omega, SmI.start (by omega) (by omega) ?_ (by omega) (by omega) (by omega) (by omega)⟩
  obtain ⟨a, rfl⟩ : ∃ a : Nat, x = a := ⟨x.toNat, by omega⟩
  obtain ⟨b, rfl⟩ : ∃ b : Nat, y = b := ⟨y.toNat, by omega⟩
  obtain ⟨u, rfl⟩ : ∃ u : Nat, z = u := ⟨z.toNat, by omega⟩
  obtain ⟨f, rfl⟩ : ∃ f : Nat, t = f := ⟨t.toNat, by omega⟩
  simp only [Int.toNat_natCast]
  exact_mod_cast ho
theorem smF_ok {x y z t : Int} (hx : 0 < x ∧ x ≤ 1073741824) (hy : 0 < y ∧ y ≤ 1073741824) (hz : z ≤ 1073741824) (ht : 0 < t ∧ t ≤ 1073741824) (ho : x * t ≤ z * y) : NuOk (smF x y z t) := by
  obtain ⟨a, b, u, f, rfl, rfl, rfl, rfl, i⟩ := smF_start hx hy hz ht ho
  exact smW_ok _ (Nat.le_refl _) i
theorem NuOk.b {p : Int × Int} (h : NuOk p) : 0 < p.2 ∧ p.2 ≤ 1073741824 ∧ -1073741824 ≤ p.1 ∧ p.1 ≤ 1073741824 := ⟨h.1, h.2.1, h.2.2.1, h.2.2.2.1⟩
theorem NuOk.neg {p : Int × Int} (h : NuOk p) : NuOk (-p.1, p.2) := by
  obtain ⟨h1, h2, h3, h4, h5⟩ := h
  exact ⟨h1, h2, by show -1073741824 ≤ -p.1; omega, by show -p.1 ≤ 1073741824; omega, by show Int.gcd (-p.1) p.2 = 1; rw [Int.neg_gcd]; exact h5⟩
theorem XN.fr {V V1 : Nat → Nat → Int} {c : Nat} {S : aS} (x : XN V c S) (hF : ∀ a i, ¬(a = c + 3 ∧ (i = 3 ∨ i = 4)) → V1 a i = V a i) : XN V1 c S ∧ FN V V1 c := by
  refine ⟨⟨by rw [hF _ _ (by omega)]; exact x.1, fun i hi => ?_⟩, fun a h1 h2 h3 => ?_⟩
  · rw [hF _ _ (by omega), hF _ _ (by omega)]
    exact x.2 i hi
  · funext i
    exact hF _ _ (by omega)
theorem FN.trans {V V1 V2 : Nat → Nat → Int} {c : Nat} (h : FN V V1 c) (g : FN V1 V2 c) : FN V V2 c := fun a h1 h2 h3 => by rw [g a h1 h2 h3, h a h1 h2 h3]
theorem x_simplestS {w : aW} {d : Nat} (hd : 3 ≤ d) {h : aH} {c : Nat} (cs : CS h c) (V : Nat → Nat → Int) {S : aS} (xn : XN V c S) (ok : OkN S) (x y z t : Int) (hx : 0 < x ∧ x ≤ 1073741824) (hy : 0 < y ∧ y ≤ 1073741824) (hz : z ≤ 1073741824) (ht : 0 < t ∧ t ≤ 1073741824) (ho : x * t ≤ z * y) : WP w d 34 [aO (some (c + 3)), aJ x, aJ y, aJ z, aJ t] (hw h V) (RN (fun h1 => ∃ V1, h1 = hw h V1 ∧ XN V1 c S ∧ FN V V1 c ∧ V1 (c + 3) 3 = (smF x y z t).1 ∧ V1 (c + 3) 4 = (smF x y z t).2)) := by
  obtain ⟨a, b, u, f, rfl, rfl, rfl, rfl, i⟩ := smF_start hx hy hz ht ho
  refine (x_simplest hd cs V a b u f i).imp ?_
  rintro r h1 ⟨rfl, V1, e, hF, h3, h4⟩
  exact ⟨rfl, V1, e, (xn.fr hF).1, (xn.fr hF).2, h3, h4⟩
def smpF (p q : Int × Int) : Int × Int := if 0 < p.1 then smF p.1 p.2 q.1 q.2 else if q.1 < 0 then (-(smF (-q.1) q.2 (-p.1) p.2).1, (smF (-q.1) q.2 (-p.1) p.2).2) else (0, 1)
theorem ordF_le {p q : Int × Int} (h : ordF p q ≤ 0) : p.1 * q.2 ≤ q.1 * p.2 := by
  unfold ordF at h
  split at h
  · omega
  · split at h <;> omega
theorem ordF_swap (p q : Int × Int) : ordF q p = -ordF p q := by
  unfold ordF
  split <;> split <;> (try split) <;> (try split) <;> omega
theorem rtF_ok {p : Int × Int} (h : NuOk p) (h1 : (rtF p.1 : Int) * rtF p.1 = p.1) (h2 : (rtF p.2 : Int) * rtF p.2 = p.2) : NuOk ((rtF p.1 : Int), (rtF p.2 : Int)) := by
  obtain ⟨a1, a2, a3, a4, a5⟩ := h
  have e1 : 0 < rtF p.2 := by
    rcases Nat.eq_zero_or_pos (rtF p.2) with q | q
    · rw [q] at h2
      simp at h2
      omega
    · exact q
  have l1 : rtF p.1 ≤ rtF p.1 * rtF p.1 := Nat.le_mul_self _
  have l2 : rtF p.2 ≤ rtF p.2 * rtF p.2 := Nat.le_mul_self _
  have m1 : ((rtF p.1 * rtF p.1 : Nat) : Int) = p.1 := by rw [Int.natCast_mul]; exact h1
  have m2 : ((rtF p.2 * rtF p.2 : Nat) : Int) = p.2 := by rw [Int.natCast_mul]; exact h2
  refine ⟨by show (0 : Int) < (rtF p.2 : Int); omega, by show (rtF p.2 : Int) ≤ 1073741824; omega, by show (-1073741824 : Int) ≤ (rtF p.1 : Int); omega, by show (rtF p.1 : Int) ≤ 1073741824; omega, ?_⟩
  show Int.gcd (rtF p.1 : Int) (rtF p.2 : Int) = 1
  rw [← m1, ← m2] at a5
  rw [Int.gcd_natCast_natCast] at a5 ⊢
  have d1 : Nat.gcd (rtF p.1) (rtF p.2) ∣ rtF p.1 * rtF p.1 := Nat.dvd_trans (Nat.gcd_dvd_left _ _) (Nat.dvd_mul_right _ _)
  have d2 : Nat.gcd (rtF p.1) (rtF p.2) ∣ rtF p.2 * rtF p.2 := Nat.dvd_trans (Nat.gcd_dvd_right _ _) (Nat.dvd_mul_right _ _)
  have := Nat.dvd_gcd d1 d2
  rw [a5] at this
  exact Nat.dvd_one.mp this
def spRt (S : aS) (p : Int × Int) : Int × aS := if (rtF p.1 : Int) * rtF p.1 = p.1 ∧ (rtF p.2 : Int) * rtF p.2 = p.2 then keepN S ((rtF p.1 : Int), (rtF p.2 : Int)) else (-3, S)
theorem rtS_le (k : Nat) : ∀ (r : Nat) (v : Int), rtS k r v + 1 ≤ r + 2 ^ k := by
  induction k with
  | zero => intro r v; show r + 1 ≤ r + 1; omega
  | succ k ih =>
    intro r v
    show rtS k _ v + 1 ≤ _
    have h2 : 2 ^ (k + 1) = 2 ^ k + 2 ^ k := by rw [Nat.pow_succ]; omega
    have h0 : 0 < 2 ^ k := Nat.two_pow_pos k
    split
    · have := ih (r + 2 ^ k) v
      omega
    · have := ih r v
      omega
theorem rtF_le (v : Int) : rtF v ≤ 65535 := by
  have := rtS_le 16 0 v
  unfold rtF
  omega
theorem x_keepRoot {w : aW} {d : Nat} (hd : 6 ≤ d) {h : aH} {c : Nat} (cs : CS h c) (V : Nat → Nat → Int) {S : aS} (xn : XN V c S) (ok : OkN S) (p : Int × Int) (hp : NuOk p) : WP w d 31 [aO (some (c + 3)), aJ p.1, aJ p.2] (hw h V) (RI (fun r h1 => ∃ V1, h1 = hw h V1 ∧ XN V1 c (spRt S p).2 ∧ FN V V1 c ∧ r = (spRt S p).1)) := by
  obtain ⟨d, rfl⟩ : ∃ d1, d = d1 + 1 := ⟨d - 1, by omega⟩
  refine WP.enter (cd := cd_X1_keepRoot) rfl ?_
  have hb := hp.b
  have r1 := rtF_le p.1
  have q1 := mulB (x := (rtF p.1 : Int)) (y := (rtF p.1 : Int)) (by omega) (by omega) (by omega) (by omega)
  have r2 := rtF_le p.2
  have q2 := mulB (x := (rtF p.2 : Int)) (y := (rtF p.2 : Int)) (by omega) (by omega) (by omega) (by omega)
  have hls : largs 0 [aO (some (c + 3)), aJ p.1, aJ p.2] = [(0, aO (some (c + 3))), (1, aJ p.1), (3, aJ p.2)] := rfl
  rw [hls]
  clear hls
  refine g_lload_n rfl rfl ?_
  refine g_callSJ [aJ p.1] [] rfl rfl rfl rfl (Nat.le_of_ble_eq_true rfl) (c_wholeRoot (by omega) p.1 _) ?_
  rintro _ _ ⟨rfl, rfl⟩
  refine g_lstore (l1 := [(5, aJ ((rtF p.1 : Int))), (0, aO (some (c + 3))), (1, aJ p.1), (3, aJ p.2)]) rfl rfl ?_
  refine g_lload_n rfl rfl ?_
  refine g_callSJ [aJ p.2] [] rfl rfl rfl rfl (Nat.le_of_ble_eq_true rfl) (c_wholeRoot (by omega) p.2 _) ?_
  rintro _ _ ⟨rfl, rfl⟩
  refine g_lstore (l1 := [(7, aJ ((rtF p.2 : Int))), (5, aJ ((rtF p.1 : Int))), (0, aO (some (c + 3))), (1, aJ p.1), (3, aJ p.2)]) rfl rfl ?_
  refine g_lload rfl rfl ?_
  refine g_lload rfl rfl ?_
  refine g_lmul rfl (by omega) (by omega) ?_
  refine g_lload_n rfl rfl ?_
  refine g_lc_ne rfl rfl (fun c18 => ?_) (fun c18 => ?_)
  · skip
    refine g_bipush rfl ?_
    refine g_iret rfl ?_
    unfold spRt
    first
      | (rw [if_neg (by omega)]; exact ⟨V, rfl, xn, fun _ _ _ _ => rfl, rfl⟩)
      | (rw [spF_id S (p := ((rtF p.1 : Int), (rtF p.2 : Int))) hk] at hx ⊢; rw [if_pos ⟨by omega, by omega⟩]; exact ⟨_, rfl, hx, hf, rfl⟩)
  · skip
    refine g_lload rfl rfl ?_
    refine g_lload rfl rfl ?_
    refine g_lmul rfl (by omega) (by omega) ?_
    refine g_lload_n rfl rfl ?_
    refine g_lc_eq rfl rfl (fun c28 => ?_) (fun c28 => ?_)
    · skip
      refine g_aload_n rfl rfl ?_
      refine g_lload rfl rfl ?_
      refine g_lload rfl rfl ?_
      have hk := rtF_ok hp (by omega) (by omega)
      refine g_callVI [aJ ((rtF p.1 : Int)), aJ ((rtF p.2 : Int))] [] rfl rfl rfl rfl (Nat.le_of_ble_eq_true rfl) (cs.kd 3 (by omega) rfl) (x_keepS (by omega) cs V xn ok ((rtF p.1 : Int)) ((rtF p.2 : Int)) (by omega) (by omega)) ?_
      rintro _ _ ⟨W3, rfl, hx, hf, rfl⟩
      refine g_iret rfl ?_
      unfold spRt
      first
        | (rw [if_neg (by omega)]; exact ⟨V, rfl, xn, fun _ _ _ _ => rfl, rfl⟩)
        | (rw [spF_id S (p := ((rtF p.1 : Int), (rtF p.2 : Int))) hk] at hx ⊢; rw [if_pos ⟨by omega, by omega⟩]; exact ⟨_, rfl, hx, hf, rfl⟩)
    · skip
      refine g_bipush rfl ?_
      refine g_iret rfl ?_
      unfold spRt
      first
        | (rw [if_neg (by omega)]; exact ⟨V, rfl, xn, fun _ _ _ _ => rfl, rfl⟩)
        | (rw [spF_id S (p := ((rtF p.1 : Int), (rtF p.2 : Int))) hk] at hx ⊢; rw [if_pos ⟨by omega, by omega⟩]; exact ⟨_, rfl, hx, hf, rfl⟩)
