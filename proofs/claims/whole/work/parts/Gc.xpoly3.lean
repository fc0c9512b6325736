/-! the class's polygons, on: wraps, triangulations: printed by wip/whole/gc_.py -/
abbrev lexL (S : aS) (p a b : Nat) : Prop := gx S p a < gx S p b ∨ (gx S p a = gx S p b ∧ gy S p a < gy S p b)
/-- a first corner by x, then y -/
def gLe (S : aS) (p k : Nat) : Prop := k < sGn S p ∧ ∀ a < sGn S p, ¬ lexL S p a k
abbrev gBet (S : aS) (p q : Nat) (b : Int) (i : Nat) : Prop := b < 0 ∨ gT S p q b.toNat i < 0 ∨ (gT S p q b.toNat i = 0 ∧ gQ S p q b.toNat < gQ S p q i)
def gNx (S : aS) (p q : Nat) : Nat → Int
  | 0 => -1
  | i + 1 => if ¬ gSame S p q i ∧ gBet S p q (gNx S p q i) i then (i : Int) else gNx S p q i
theorem gNx_b (S : aS) (p q : Nat) : ∀ i, gNx S p q i = -1 ∨ (0 ≤ gNx S p q i ∧ gNx S p q i < i)
  | 0 => Or.inl rfl
  | i + 1 => by
    have ih := gNx_b S p q i
    unfold gNx
    split <;> omega
def gIt (S : aS) (p f : Nat) : Nat → Int
  | 0 => f
  | t + 1 => if gIt S p f t < 0 then -1 else if gNx S p (gIt S p f t).toNat (sGn S p) < 0 ∨ gSame S p (gNx S p (gIt S p f t).toNat (sGn S p)).toNat f then -1 else gNx S p (gIt S p f t).toNat (sGn S p)
def gEnd (S : aS) (p f t : Nat) : Prop := t ≤ 12 ∧ (∀ j < t, 0 ≤ gIt S p f j) ∧ (t = 12 ∨ gIt S p f t < 0)
theorem gIt_b {S : aS} {p f : Nat} (hf : f < sGn S p) : ∀ t, gIt S p f t < sGn S p
  | 0 => by unfold gIt; omega
  | t + 1 => by
    have h := gNx_b S p (gIt S p f t).toNat (sGn S p)
    unfold gIt
    split
    · omega
    · split <;> omega
/-- ways of a part -/
def gSum (g : Nat → Nat → Int) (i j : Nat) : Nat → Int
  | 0 => 0
  | m + 1 => gSum g i j m + g i (i + 1 + m) * g (i + 1 + m) j
theorem gSum_co {g g2 : Nat → Nat → Int} {i j : Nat} : ∀ m, (∀ k, i < k → k < i + 1 + m → g i k = g2 i k ∧ g k j = g2 k j) → gSum g i j m = gSum g2 i j m
  | 0, _ => rfl
  | m + 1, h => by
    unfold gSum
    rw [gSum_co m (fun k h1 h2 => h k h1 (by omega)), (h (i + 1 + m) (by omega) (by omega)).1, (h (i + 1 + m) (by omega) (by omega)).2]
noncomputable def gWy (S : aS) (p i j : Nat) (s : Int) : Int := if (j = i + 1 ∨ j - i = sGn S p - 1) ∨ (0 < s ∧ bt (gDiag S p i j) = true) then s else 0
noncomputable def gTf (S : aS) (p : Nat) : Nat → Nat → Nat → Int
  | 0, _, _ => 0
  | f + 1, i, j => gWy S p i j (if j = i + 1 then 1 else gSum (gTf S p f) i j (j - i - 1))
theorem gTf_st (S : aS) (p : Nat) : ∀ f f2 i j, i < j → j - i ≤ f → j - i ≤ f2 → gTf S p f i j = gTf S p f2 i j := by
  intro f
  induction f with
  | zero => intro f2 i j h1 h2 h3; omega
  | succ f ih =>
    intro f2 i j h1 h2 h3
    obtain ⟨f2, rfl⟩ : ∃ k, f2 = k + 1 := ⟨f2 - 1, by omega⟩
    unfold gTf
    by_cases e : j = i + 1
    · rw [if_pos e, if_pos e]
    · rw [if_neg e, if_neg e, gSum_co (g2 := gTf S p f2) (j - i - 1) (fun k h4 h5 => ⟨ih f2 i k h4 (by omega) (by omega), ih f2 k j (by omega) (by omega) (by omega)⟩)]
noncomputable def gTr (S : aS) (p i j : Nat) : Int := gTf S p 12 i j
theorem gTr_eq {S : aS} {p i j : Nat} (h : i < j) (hj : j - i ≤ 11) : gTr S p i j = gWy S p i j (if j = i + 1 then 1 else gSum (gTr S p) i j (j - i - 1)) := by
  show gTf S p 12 i j = _
  have e : gTf S p 12 i j = gWy S p i j (if j = i + 1 then 1 else gSum (gTf S p 11) i j (j - i - 1)) := by conv => lhs; unfold gTf
  rw [e]
  by_cases q : j = i + 1
  · rw [if_pos q, if_pos q]
  · rw [if_neg q, if_neg q, gSum_co (g2 := gTr S p) (j - i - 1) (fun k h4 h5 => ⟨gTf_st S p 11 12 i k h4 (by omega) (by omega), gTf_st S p 11 12 k j (by omega) (by omega) (by omega)⟩)]
theorem gSum_b {g : Nat → Nat → Int} {i j : Nat} : ∀ m, i + 1 + m ≤ j → m ≤ 11 → (∀ a b, a < b → i ≤ a → b ≤ j → b - a < j - i → 0 ≤ g a b ∧ g a b ≤ (16 : Int) ^ (b - a - 1)) → 0 ≤ gSum g i j m ∧ gSum g i j m ≤ (m : Int) * (16 : Int) ^ (j - i - 2)
  | 0, _, _, _ => by unfold gSum; omega
  | m + 1, h1, h2, hg => by
    have ih := gSum_b m (by omega) (by omega) hg
    have a1 := hg i (i + 1 + m) (by omega) (by omega) (by omega) (by omega)
    have a2 := hg (i + 1 + m) j (by omega) (by omega) (by omega) (by omega)
    have e : (16 : Int) ^ (i + 1 + m - i - 1) * (16 : Int) ^ (j - (i + 1 + m) - 1) = (16 : Int) ^ (j - i - 2) := by
      rw [← Int.pow_add]
      congr 1
      omega
    have p1 := Int.mul_nonneg a1.1 a2.1
    have p2 := Int.mul_le_mul a1.2 a2.2 a2.1 (Int.le_trans a1.1 a1.2)
    rw [e] at p2
    have e2 : ((m + 1 : Nat) : Int) * (16 : Int) ^ (j - i - 2) = (m : Int) * (16 : Int) ^ (j - i - 2) + (16 : Int) ^ (j - i - 2) := by
      rw [Int.natCast_add, Int.add_mul]
      show _ + 1 * _ = _
      omega
    unfold gSum
    omega
theorem gTf_b (S : aS) (p : Nat) : ∀ f i j, i < j → j - i ≤ 11 → 0 ≤ gTf S p f i j ∧ gTf S p f i j ≤ (16 : Int) ^ (j - i - 1) := by
  intro f
  induction f with
  | zero =>
    intro i j h1 h2
    have hp : (0 : Int) < 16 ^ (j - i - 1) := Int.pow_pos (by omega)
    unfold gTf
    omega
  | succ f ih =>
    intro i j h1 h2
    have hp : (0 : Int) < 16 ^ (j - i - 1) := Int.pow_pos (by omega)
    have hs : 0 ≤ (if j = i + 1 then (1 : Int) else gSum (gTf S p f) i j (j - i - 1)) ∧ (if j = i + 1 then (1 : Int) else gSum (gTf S p f) i j (j - i - 1)) ≤ 16 ^ (j - i - 1) := by
      by_cases e : j = i + 1
      · rw [if_pos e]
        omega
      · rw [if_neg e]
        have h := gSum_b (g := gTf S p f) (i := i) (j := j) (j - i - 1) (by omega) (by omega) (fun a b h3 h4 h5 h6 => ih a b h3 (by omega))
        have e1 : (16 : Int) ^ (j - i - 1) = 16 ^ (j - i - 2) * 16 := by
          rw [← Int.pow_succ]
          congr 1
          omega
        have hq : (0 : Int) < 16 ^ (j - i - 2) := Int.pow_pos (by omega)
        have h3 : ((j - i - 1 : Nat) : Int) * 16 ^ (j - i - 2) ≤ 11 * 16 ^ (j - i - 2) := Int.mul_le_mul_of_nonneg_right (by omega) (by omega)
        rw [e1]
        omega
    show 0 ≤ gWy S p i j (if j = i + 1 then (1 : Int) else gSum (gTf S p f) i j (j - i - 1)) ∧ gWy S p i j (if j = i + 1 then (1 : Int) else gSum (gTf S p f) i j (j - i - 1)) ≤ 16 ^ (j - i - 1)
    generalize (if j = i + 1 then (1 : Int) else gSum (gTf S p f) i j (j - i - 1)) = s at hs ⊢
    unfold gWy
    split <;> omega
theorem p16 : ∀ k, k ≤ 10 → (16 : Int) ^ k ≤ 1099511627776 := by decide +kernel
theorem gTr_b {S : aS} {p i j : Nat} (h : i < j) (hj : j - i ≤ 11) : 0 ≤ gTr S p i j ∧ gTr S p i j ≤ 1099511627776 := by
  have h1 := gTf_b S p 12 i j h hj
  have h2 := p16 (j - i - 1) (by omega)
  exact ⟨h1.1, Int.le_trans h1.2 h2⟩
theorem gSm_b {S : aS} {p i j m : Nat} (h : i < j) (hj : j - i ≤ 11) (hm : i + 1 + m ≤ j) : 0 ≤ gSum (gTr S p) i j m ∧ gSum (gTr S p) i j m ≤ 11 * 1099511627776 := by
  have h1 := gSum_b (g := gTr S p) (i := i) (j := j) m hm (by omega) (fun a b h3 h4 h5 h6 => gTf_b S p 12 a b h3 (by omega))
  refine ⟨h1.1, ?_⟩
  have h2 := p16 (j - i - 2) (by omega)
  have hq : (0 : Int) < 16 ^ (j - i - 2) := Int.pow_pos (by omega)
  have h3 : (m : Int) * 16 ^ (j - i - 2) ≤ 11 * 16 ^ (j - i - 2) := Int.mul_le_mul_of_nonneg_right (by omega) (by omega)
  omega
set_option maxRecDepth 100000 in
theorem x_pgLeast {w : aW} {d : Nat} (hd : 4 ≤ d) {h : aH} {c : Nat} (cs : CS h c) (V : Nat → Nat → Int) {S : aS} (xg : XG V c S) (ok : OkG S) (p : Nat) (hp : p < sG S) (hn : 0 < sGn S p) : WP w d 114 [aO (some (c + 11)), aI ((p : Int))] (hw h V) (RI (fun r h1 => h1 = hw h V ∧ ∃ k : Nat, r = k ∧ gLe S p k)) := by
  obtain ⟨d, rfl⟩ : ∃ d1, d = d1 + 1 := ⟨d - 1, by omega⟩
  refine WP.enter (cd := cd_X3_leastCorner) rfl ?_
  have hls : largs 0 [aO (some (c + 11)), aI ((p : Int))] = [(0, aO (some (c + 11))), (1, aI ((p : Int)))] := rfl
  rw [hls]
  clear hls
  have l16 : ∀ (fuel : Nat) (i k : Nat), (1 ≤ i) → (i ≤ sGn S p) → (k < sGn S p) → (∀ a < i, ¬ lexL S p a k) → sGn S p - i < fuel → Wk w d cd_X3_leastCorner 16 [(3, aI ((i : Int))), (2, aI ((k : Int))), (0, aO (some (c + 11))), (1, aI ((p : Int)))] [] (hw h V) (RI (fun r h1 => h1 = hw h V ∧ ∃ k : Nat, r = k ∧ gLe S p k)) := by
    intro fuel
    induction fuel with
    | zero => intros; omega
    | succ fuel ih16 =>
      intro i k hi hi2 hk hl hfuel
      have hok2 := (ok.2 p hp).1
      refine g_iload_n rfl rfl ?_
      refine g_aload_n rfl rfl ?_
      refine g_iload_n rfl rfl ?_
      refine g_callVI [aI ((p : Int))] [aI ((i : Int))] rfl rfl rfl rfl (Nat.le_of_ble_eq_true rfl) (cs.kd 11 (by omega) rfl) (x_pgSize (by omega) cs V xg ok p (by omega)) ?_
      rintro r1 hx1 ⟨ehx1, rfl⟩
      rw [ehx1]
      clear ehx1 hx1
      refine g_icmp_ge rfl (fun cq22 => ?_) (fun cq22 => ?_)
      · skip
        refine g_iload_n rfl rfl ?_
        refine g_iret rfl ?_
        exact ⟨rfl, k, rfl, hk, fun a ha => hl a (by omega)⟩
      · skip
        refine g_aload_n rfl rfl ?_
        refine g_iload_n rfl rfl ?_
        refine g_iload_n rfl rfl ?_
        refine g_callVI [aI ((p : Int)), aI ((i : Int))] [] rfl rfl rfl rfl (Nat.le_of_ble_eq_true rfl) (cs.kd 11 (by omega) rfl) (x_pgX (by omega) cs V xg ok p (by omega) i (by omega)) ?_
        rintro r2 hx2 ⟨ehx2, rfl⟩
        rw [ehx2]
        clear ehx2 hx2
        refine g_aload_n rfl rfl ?_
        refine g_iload_n rfl rfl ?_
        refine g_iload_n rfl rfl ?_
        refine g_callVI [aI ((p : Int)), aI ((k : Int))] [aI (gx S p i)] rfl rfl rfl rfl (Nat.le_of_ble_eq_true rfl) (cs.kd 11 (by omega) rfl) (x_pgX (by omega) cs V xg ok p (by omega) k (by omega)) ?_
        rintro r3 hx3 ⟨ehx3, rfl⟩
        rw [ehx3]
        clear ehx3 hx3
        refine g_icmp_lt rfl (fun cq37 => ?_) (fun cq37 => ?_)
        · skip
          refine g_iload_n rfl rfl ?_
          refine g_istore_n (l1 := [(2, aI ((i : Int))), (3, aI ((i : Int))), (0, aO (some (c + 11))), (1, aI ((p : Int)))]) rfl rfl ?_
          refine g_iinc (l1 := [(3, aI ((i : Int) + 1)), (2, aI ((i : Int))), (0, aO (some (c + 11))), (1, aI ((p : Int)))]) rfl rfl (by omega) (by omega) rfl ?_
          refine g_goto rfl ?_
          exact ih16 (i + 1) _ (by omega) (by omega) (by omega) (by exact fun a h1 z => if e : a = i then by subst e; omega else (by have := hl a (by omega); omega)) (by omega)
        · skip
          refine g_aload_n rfl rfl ?_
          refine g_iload_n rfl rfl ?_
          refine g_iload_n rfl rfl ?_
          refine g_callVI [aI ((p : Int)), aI ((i : Int))] [] rfl rfl rfl rfl (Nat.le_of_ble_eq_true rfl) (cs.kd 11 (by omega) rfl) (x_pgX (by omega) cs V xg ok p (by omega) i (by omega)) ?_
          rintro r4 hx4 ⟨ehx4, rfl⟩
          rw [ehx4]
          clear ehx4 hx4
          refine g_aload_n rfl rfl ?_
          refine g_iload_n rfl rfl ?_
          refine g_iload_n rfl rfl ?_
          refine g_callVI [aI ((p : Int)), aI ((k : Int))] [aI (gx S p i)] rfl rfl rfl rfl (Nat.le_of_ble_eq_true rfl) (cs.kd 11 (by omega) rfl) (x_pgX (by omega) cs V xg ok p (by omega) k (by omega)) ?_
          rintro r5 hx5 ⟨ehx5, rfl⟩
          rw [ehx5]
          clear ehx5 hx5
          refine g_icmp_ne rfl (fun cq52 => ?_) (fun cq52 => ?_)
          · skip
            refine g_iinc (l1 := [(3, aI ((i : Int) + 1)), (2, aI ((k : Int))), (0, aO (some (c + 11))), (1, aI ((p : Int)))]) rfl rfl (by omega) (by omega) rfl ?_
            refine g_goto rfl ?_
            exact ih16 (i + 1) _ (by omega) (by omega) (by omega) (by exact fun a h1 z => if e : a = i then by subst e; omega else (by have := hl a (by omega); omega)) (by omega)
          · skip
            refine g_aload_n rfl rfl ?_
            refine g_iload_n rfl rfl ?_
            refine g_iload_n rfl rfl ?_
            refine g_callVI [aI ((p : Int)), aI ((i : Int))] [] rfl rfl rfl rfl (Nat.le_of_ble_eq_true rfl) (cs.kd 11 (by omega) rfl) (x_pgY (by omega) cs V xg ok p (by omega) i (by omega)) ?_
            rintro r6 hx6 ⟨ehx6, rfl⟩
            rw [ehx6]
            clear ehx6 hx6
            refine g_aload_n rfl rfl ?_
            refine g_iload_n rfl rfl ?_
            refine g_iload_n rfl rfl ?_
            refine g_callVI [aI ((p : Int)), aI ((k : Int))] [aI (gy S p i)] rfl rfl rfl rfl (Nat.le_of_ble_eq_true rfl) (cs.kd 11 (by omega) rfl) (x_pgY (by omega) cs V xg ok p (by omega) k (by omega)) ?_
            rintro r7 hx7 ⟨ehx7, rfl⟩
            rw [ehx7]
            clear ehx7 hx7
            refine g_icmp_ge rfl (fun cq67 => ?_) (fun cq67 => ?_)
            · skip
              refine g_iinc (l1 := [(3, aI ((i : Int) + 1)), (2, aI ((k : Int))), (0, aO (some (c + 11))), (1, aI ((p : Int)))]) rfl rfl (by omega) (by omega) rfl ?_
              refine g_goto rfl ?_
              exact ih16 (i + 1) _ (by omega) (by omega) (by omega) (by exact fun a h1 z => if e : a = i then by subst e; omega else (by have := hl a (by omega); omega)) (by omega)
            · skip
              refine g_iload_n rfl rfl ?_
              refine g_istore_n (l1 := [(2, aI ((i : Int))), (3, aI ((i : Int))), (0, aO (some (c + 11))), (1, aI ((p : Int)))]) rfl rfl ?_
              refine g_iinc (l1 := [(3, aI ((i : Int) + 1)), (2, aI ((i : Int))), (0, aO (some (c + 11))), (1, aI ((p : Int)))]) rfl rfl (by omega) (by omega) rfl ?_
              refine g_goto rfl ?_
              exact ih16 (i + 1) _ (by omega) (by omega) (by omega) (by exact fun a h1 z => if e : a = i then by subst e; omega else (by have := hl a (by omega); omega)) (by omega)
  refine g_aload_n rfl rfl ?_
  refine g_iload_n rfl rfl ?_
  refine g_callVI [aI ((p : Int))] [] rfl rfl rfl rfl (Nat.le_of_ble_eq_true rfl) (cs.kd 11 (by omega) rfl) (x_pgSize (by omega) cs V xg ok p (by omega)) ?_
  rintro r8 hx8 ⟨ehx8, rfl⟩
  rw [ehx8]
  clear ehx8 hx8
  refine g_if_le_f rfl (by omega) ?_
  refine g_iconst rfl ?_
  refine g_goto rfl ?_
  refine g_istore_n (l1 := [(2, aI 0), (0, aO (some (c + 11))), (1, aI ((p : Int)))]) rfl rfl ?_
  refine g_iconst rfl ?_
  refine g_istore_n (l1 := [(3, aI 1), (2, aI 0), (0, aO (some (c + 11))), (1, aI ((p : Int)))]) rfl rfl ?_
  exact l16 _ 1 0 (by omega) (by omega) (by omega) (by exact fun a h1 => (show a = 0 by omega) ▸ (fun z => by omega)) (Nat.lt_succ_self _)
set_option maxRecDepth 100000 in
theorem x_pgLeast0 {w : aW} {d : Nat} (hd : 4 ≤ d) {h : aH} {c : Nat} (cs : CS h c) (V : Nat → Nat → Int) {S : aS} (xg : XG V c S) (ok : OkG S) (p : Nat) (hp : p < sG S) (hn : sGn S p = 0) : WP w d 114 [aO (some (c + 11)), aI ((p : Int))] (hw h V) (RI (fun r h1 => h1 = hw h V ∧ r = -1)) := by
  obtain ⟨d, rfl⟩ : ∃ d1, d = d1 + 1 := ⟨d - 1, by omega⟩
  refine WP.enter (cd := cd_X3_leastCorner) rfl ?_
  have hls : largs 0 [aO (some (c + 11)), aI ((p : Int))] = [(0, aO (some (c + 11))), (1, aI ((p : Int)))] := rfl
  rw [hls]
  clear hls
  refine g_aload_n rfl rfl ?_
  refine g_iload_n rfl rfl ?_
  refine g_callVI [aI ((p : Int))] [] rfl rfl rfl rfl (Nat.le_of_ble_eq_true rfl) (cs.kd 11 (by omega) rfl) (x_pgSize (by omega) cs V xg ok p (by omega)) ?_
  rintro r1 hx1 ⟨ehx1, rfl⟩
  rw [ehx1]
  clear ehx1 hx1
  refine g_if_le_t rfl (by omega) ?_
  refine g_iconst rfl ?_
  refine g_istore_n (l1 := [(2, aI ((-1))), (0, aO (some (c + 11))), (1, aI ((p : Int)))]) rfl rfl ?_
  refine g_iconst rfl ?_
  refine g_istore_n (l1 := [(3, aI 1), (2, aI ((-1))), (0, aO (some (c + 11))), (1, aI ((p : Int)))]) rfl rfl ?_
  refine g_iload_n rfl rfl ?_
  refine g_aload_n rfl rfl ?_
  refine g_iload_n rfl rfl ?_
  refine g_callVI [aI ((p : Int))] [aI 1] rfl rfl rfl rfl (Nat.le_of_ble_eq_true rfl) (cs.kd 11 (by omega) rfl) (x_pgSize (by omega) cs V xg ok p (by omega)) ?_
  rintro r2 hx2 ⟨ehx2, rfl⟩
  rw [ehx2]
  clear ehx2 hx2
  refine g_icmp_ge_t rfl (by omega) ?_
  refine g_iload_n rfl rfl ?_
  refine g_iret rfl ?_
  exact ⟨rfl, rfl⟩
set_option maxRecDepth 100000 in
theorem x_pgNext {w : aW} {d : Nat} (hd : 5 ≤ d) {h : aH} {c : Nat} (cs : CS h c) (V : Nat → Nat → Int) {S : aS} (xg : XG V c S) (ok : OkG S) (p : Nat) (hp : p < sG S) (q : Nat) (hq : q < sGn S p) : WP w d 115 [aO (some (c + 11)), aI ((p : Int)), aI ((q : Int))] (hw h V) (RI (fun r h1 => h1 = hw h V ∧ r = gNx S p q (sGn S p))) := by
  obtain ⟨d, rfl⟩ : ∃ d1, d = d1 + 1 := ⟨d - 1, by omega⟩
  refine WP.enter (cd := cd_X3_nextOnWrap) rfl ?_
  have hls : largs 0 [aO (some (c + 11)), aI ((p : Int)), aI ((q : Int))] = [(0, aO (some (c + 11))), (1, aI ((p : Int))), (2, aI ((q : Int)))] := rfl
  rw [hls]
  clear hls
  have l5 : ∀ (fuel : Nat) (i : Nat) (b : Int), (i ≤ sGn S p) → (b = gNx S p q i) → sGn S p - i < fuel → Wk w d cd_X3_nextOnWrap 5 [(4, aI ((i : Int))), (3, aI b), (0, aO (some (c + 11))), (1, aI ((p : Int))), (2, aI ((q : Int)))] [] (hw h V) (RI (fun r h1 => h1 = hw h V ∧ r = gNx S p q (sGn S p))) := by
    intro fuel
    induction fuel with
    | zero => intros; omega
    | succ fuel ih5 =>
      intro i b hi hb hfuel
      have hok2 := (ok.2 p hp).1
      have hnb := gNx_b S p q i
      refine g_iload rfl rfl ?_
      refine g_aload_n rfl rfl ?_
      refine g_iload_n rfl rfl ?_
      refine g_callVI [aI ((p : Int))] [aI ((i : Int))] rfl rfl rfl rfl (Nat.le_of_ble_eq_true rfl) (cs.kd 11 (by omega) rfl) (x_pgSize (by omega) cs V xg ok p (by omega)) ?_
      rintro r1 hx1 ⟨ehx1, rfl⟩
      rw [ehx1]
      clear ehx1 hx1
      refine g_icmp_ge rfl (fun cq12 => ?_) (fun cq12 => ?_)
      · skip
        refine g_iload_n rfl rfl ?_
        refine g_iret rfl ?_
        refine ⟨rfl, ?_⟩
        rw [show sGn S p = i by omega]
        exact hb
      · skip
        refine g_aload_n rfl rfl ?_
        refine g_iload_n rfl rfl ?_
        refine g_iload_n rfl rfl ?_
        refine g_iload rfl rfl ?_
        refine g_callVI [aI ((p : Int)), aI ((q : Int)), aI ((i : Int))] [] rfl rfl rfl rfl (Nat.le_of_ble_eq_true rfl) (cs.kd 11 (by omega) rfl) (x_pgSame (by omega) cs V xg ok p (by omega) q (by omega) i (by omega)) ?_
        rintro r2 hx2 ⟨ehx2, rfl⟩
        rw [ehx2]
        clear ehx2 hx2
        refine g_b_ne rfl (fun cq23 => ?_) (fun cq23 => ?_)
        · skip
          refine g_iinc (l1 := [(4, aI ((i : Int) + 1)), (3, aI b), (0, aO (some (c + 11))), (1, aI ((p : Int))), (2, aI ((q : Int)))]) rfl rfl (by omega) (by omega) rfl ?_
          refine g_goto rfl ?_
          exact ih5 (i + 1) _ (by omega) (by 
                                                                                                                                                                                                                                                                                                                                                                                                                first
                                                                                                                                                                                                                                                                                                                                                                                                                | (refine (if_pos ?_).symm; refine ⟨cq23, Or.inl ?_⟩ <;> omega)
                                                                                                                                                                                                                                                                                                                                                                                                                | (refine (if_pos ?_).symm; refine ⟨cq23, Or.inr ?_⟩; rw [← hb]; exact cq39)
                                                                                                                                                                                                                                                                                                                                                                                                                | (refine hb.trans (if_neg ?_).symm; intro z; exact z.1 cq23)
                                                                                                                                                                                                                                                                                                                                                                                                                | (refine hb.trans (if_neg ?_).symm; intro z; have z2 := z.2; rw [← hb] at z2; exact z2.elim (fun y => by omega) (fun y => cq39 y))) (by omega)
        · skip
          refine g_iload_n rfl rfl ?_
          refine g_if_lt rfl (fun cq27 => ?_) (fun cq27 => ?_)
          · skip
            refine g_iload rfl rfl ?_
            refine g_istore_n (l1 := [(3, aI ((i : Int))), (4, aI ((i : Int))), (0, aO (some (c + 11))), (1, aI ((p : Int))), (2, aI ((q : Int)))]) rfl rfl ?_
            refine g_iinc (l1 := [(4, aI ((i : Int) + 1)), (3, aI ((i : Int))), (0, aO (some (c + 11))), (1, aI ((p : Int))), (2, aI ((q : Int)))]) rfl rfl (by omega) (by omega) rfl ?_
            refine g_goto rfl ?_
            exact ih5 (i + 1) _ (by omega) (by 
                                                                                                                                                                                                                                                                                                                                                                                                                first
                                                                                                                                                                                                                                                                                                                                                                                                                | (refine (if_pos ?_).symm; refine ⟨cq23, Or.inl ?_⟩ <;> omega)
                                                                                                                                                                                                                                                                                                                                                                                                                | (refine (if_pos ?_).symm; refine ⟨cq23, Or.inr ?_⟩; rw [← hb]; exact cq39)
                                                                                                                                                                                                                                                                                                                                                                                                                | (refine hb.trans (if_neg ?_).symm; intro z; exact z.1 cq23)
                                                                                                                                                                                                                                                                                                                                                                                                                | (refine hb.trans (if_neg ?_).symm; intro z; have z2 := z.2; rw [← hb] at z2; exact z2.elim (fun y => by omega) (fun y => cq39 y))) (by omega)
          · skip
            obtain ⟨kb, rfl⟩ : ∃ k : Nat, b = k := ⟨b.toNat, by omega⟩
            refine g_aload_n rfl rfl ?_
            refine g_iload_n rfl rfl ?_
            refine g_iload_n rfl rfl ?_
            refine g_iload_n rfl rfl ?_
            refine g_iload rfl rfl ?_
            refine g_callVI [aI ((p : Int)), aI ((q : Int)), aI ((kb : Int)), aI ((i : Int))] [] rfl rfl rfl rfl (Nat.le_of_ble_eq_true rfl) (cs.kd 11 (by omega) rfl) (x_pgBetter (by omega) cs V xg ok p (by omega) q (by omega) kb (by omega) i (by omega)) ?_
            rintro r3 hx3 ⟨ehx3, rfl⟩
            rw [ehx3]
            clear ehx3 hx3
            refine g_b_eq rfl (fun cq39 => ?_) (fun cq39 => ?_)
            · skip
              refine g_iinc (l1 := [(4, aI ((i : Int) + 1)), (3, aI ((kb : Int))), (0, aO (some (c + 11))), (1, aI ((p : Int))), (2, aI ((q : Int)))]) rfl rfl (by omega) (by omega) rfl ?_
              refine g_goto rfl ?_
              exact ih5 (i + 1) _ (by omega) (by 
                                                                                                                                                                                                                                                                                                                                                                                                                first
                                                                                                                                                                                                                                                                                                                                                                                                                | (refine (if_pos ?_).symm; refine ⟨cq23, Or.inl ?_⟩ <;> omega)
                                                                                                                                                                                                                                                                                                                                                                                                                | (refine (if_pos ?_).symm; refine ⟨cq23, Or.inr ?_⟩; rw [← hb]; exact cq39)
                                                                                                                                                                                                                                                                                                                                                                                                                | (refine hb.trans (if_neg ?_).symm; intro z; exact z.1 cq23)
                                                                                                                                                                                                                                                                                                                                                                                                                | (refine hb.trans (if_neg ?_).symm; intro z; have z2 := z.2; rw [← hb] at z2; exact z2.elim (fun y => by omega) (fun y => cq39 y))) (by omega)
            · skip
              refine g_iload rfl rfl ?_
              refine g_istore_n (l1 := [(3, aI ((i : Int))), (4, aI ((i : Int))), (0, aO (some (c + 11))), (1, aI ((p : Int))), (2, aI ((q : Int)))]) rfl rfl ?_
              refine g_iinc (l1 := [(4, aI ((i : Int) + 1)), (3, aI ((i : Int))), (0, aO (some (c + 11))), (1, aI ((p : Int))), (2, aI ((q : Int)))]) rfl rfl (by omega) (by omega) rfl ?_
              refine g_goto rfl ?_
              exact ih5 (i + 1) _ (by omega) (by 
                                                                                                                                                                                                                                                                                                                                                                                                                first
                                                                                                                                                                                                                                                                                                                                                                                                                | (refine (if_pos ?_).symm; refine ⟨cq23, Or.inl ?_⟩ <;> omega)
                                                                                                                                                                                                                                                                                                                                                                                                                | (refine (if_pos ?_).symm; refine ⟨cq23, Or.inr ?_⟩; rw [← hb]; exact cq39)
                                                                                                                                                                                                                                                                                                                                                                                                                | (refine hb.trans (if_neg ?_).symm; intro z; exact z.1 cq23)
                                                                                                                                                                                                                                                                                                                                                                                                                | (refine hb.trans (if_neg ?_).symm; intro z; have z2 := z.2; rw [← hb] at z2; exact z2.elim (fun y => by omega) (fun y => cq39 y))) (by omega)
  refine g_iconst rfl ?_
  refine g_istore_n (l1 := [(3, aI ((-1))), (0, aO (some (c + 11))), (1, aI ((p : Int))), (2, aI ((q : Int)))]) rfl rfl ?_
  refine g_iconst rfl ?_
  refine g_istore (l1 := [(4, aI 0), (3, aI ((-1))), (0, aO (some (c + 11))), (1, aI ((p : Int))), (2, aI ((q : Int)))]) rfl rfl ?_
  exact l5 _ 0 _ (by omega) (by rfl) (Nat.lt_succ_self _)
set_option maxRecDepth 100000 in
theorem x_pgWrap {w : aW} {d : Nat} (hd : 6 ≤ d) {h : aH} {c : Nat} (cs : CS h c) (V : Nat → Nat → Int) {S : aS} (xg : XG V c S) (ok : OkG S) (p : Nat) (hp : p < sG S) (hn : 0 < sGn S p) : WP w d 113 [aO (some (c + 11)), aI ((p : Int))] (hw h V) (RI (fun r h1 => ∃ V1, h1 = hw h V1 ∧ (∀ a, a ≠ c + 15 → V1 a = V a) ∧ ∃ t f : Nat, r = t ∧ gLe S p f ∧ gEnd S p f t ∧ ∀ j < t, V1 (c + 15) j = gIt S p f j)) := by
  obtain ⟨d, rfl⟩ : ∃ d1, d = d1 + 1 := ⟨d - 1, by omega⟩
  refine WP.enter (cd := cd_X3_wrap) rfl ?_
  have hls : largs 0 [aO (some (c + 11)), aI ((p : Int))] = [(0, aO (some (c + 11))), (1, aI ((p : Int)))] := rfl
  rw [hls]
  clear hls
  have l14 : ∀ (f : Nat), (gLe S p f) → ∀ (fuel : Nat) (t : Nat) (q : Int) (V1 : Nat → Nat → Int), (t ≤ 12) → (q = gIt S p f t) → (∀ a, a ≠ c + 15 → V1 a = V a) → (∀ j < t, 0 ≤ gIt S p f j ∧ V1 (c + 15) j = gIt S p f j) → 12 - t < fuel → Wk w d cd_X3_wrap 14 [(5, aI ((t : Int))), (4, aI ((t : Int))), (3, aI q), (2, aI ((f : Int))), (0, aO (some (c + 11))), (1, aI ((p : Int)))] [] (hw h V1) (RI (fun r h1 => ∃ V1, h1 = hw h V1 ∧ (∀ a, a ≠ c + 15 → V1 a = V a) ∧ ∃ t f : Nat, r = t ∧ gLe S p f ∧ gEnd S p f t ∧ ∀ j < t, V1 (c + 15) j = gIt S p f j)) := by
    intro f hf0 fuel
    induction fuel with
    | zero => intros; omega
    | succ fuel ih14 =>
      intro t q V1 ht hq hv hw_ hfuel
      have hok2 := (ok.2 p hp).1
      have hf1 := hf0.1
      have xg1 : XG V1 c S := xg.fr (fun a h1 h2 => hv a (by omega))
      have hib := gIt_b hf1 t
      refine g_iload rfl rfl ?_
      refine g_bipush rfl ?_
      refine g_icmp_ge rfl (fun cq18 => ?_) (fun cq18 => ?_)
      · skip
        refine g_iload rfl rfl ?_
        refine g_iret rfl ?_
        refine ⟨V1, rfl, hv, t, f, rfl, hf0, ⟨ht, fun j hj => (hw_ j hj).1, by omega⟩, fun j hj => (hw_ j hj).2⟩
      · skip
        refine g_iload_n rfl rfl ?_
        refine g_if_lt rfl (fun cq22 => ?_) (fun cq22 => ?_)
        · skip
          refine g_iload rfl rfl ?_
          refine g_iret rfl ?_
          refine ⟨V1, rfl, hv, t, f, rfl, hf0, ⟨ht, fun j hj => (hw_ j hj).1, by omega⟩, fun j hj => (hw_ j hj).2⟩
        · skip
          obtain ⟨qk, rfl⟩ : ∃ k : Nat, q = k := ⟨q.toNat, by omega⟩
          have eqk : ((qk : Nat) : Int).toNat = qk := rfl
          refine g_aload_n rfl rfl ?_
          refine g_getR rfl (cs.kd 11 (by omega) rfl) (cs.rf 19 (by omega) rfl) ?_
          refine g_iload rfl rfl ?_
          refine g_iload_n rfl rfl ?_
          refine g_iast (i := t) rfl (cs.ar 15 (by omega) rfl) (by omega) (by omega) ?_
          refine g_hp (h2 := hw h (vset V1 (c + 15) t ((qk : Int)))) rfl ?_
          refine g_iinc (l1 := [(4, aI ((t : Int) + 1)), (5, aI ((t : Int))), (3, aI ((qk : Int))), (2, aI ((f : Int))), (0, aO (some (c + 11))), (1, aI ((p : Int)))]) rfl rfl (by omega) (by omega) rfl ?_
          have hnb := gNx_b S p qk (sGn S p)
          refine g_aload_n rfl rfl ?_
          refine g_iload_n rfl rfl ?_
          refine g_iload_n rfl rfl ?_
          refine g_callVI [aI ((p : Int)), aI ((qk : Int))] [] rfl rfl rfl rfl (Nat.le_of_ble_eq_true rfl) (cs.kd 11 (by omega) rfl) (x_pgNext (by omega) cs ((vset V1 (c + 15) t ((qk : Int)))) (xg1.fr (fun a h1 h2 => by funext z; rw [vset_ne _ _ _ _ (by omega)])) ok p (by omega) qk (by omega)) ?_
          rintro r1 hx1 ⟨ehx1, rfl⟩
          rw [ehx1]
          clear ehx1 hx1
          refine g_istore (l1 := [(6, aI (gNx S p qk (sGn S p))), (4, aI ((t : Int) + 1)), (5, aI ((t : Int))), (3, aI ((qk : Int))), (2, aI ((f : Int))), (0, aO (some (c + 11))), (1, aI ((p : Int)))]) rfl rfl ?_
          refine g_iload rfl rfl ?_
          refine g_if_lt rfl (fun cq46 => ?_) (fun cq46 => ?_)
          · skip
            refine g_iconst rfl ?_
            refine g_goto rfl ?_
            refine g_istore_n (l1 := [(3, aI ((-1))), (6, aI (gNx S p qk (sGn S p))), (4, aI ((t : Int) + 1)), (5, aI ((t : Int))), (2, aI ((f : Int))), (0, aO (some (c + 11))), (1, aI ((p : Int)))]) rfl rfl ?_
            refine g_iinc (l1 := [(5, aI ((t : Int) + 1)), (3, aI ((-1))), (6, aI (gNx S p qk (sGn S p))), (4, aI ((t : Int) + 1)), (2, aI ((f : Int))), (0, aO (some (c + 11))), (1, aI ((p : Int)))]) rfl rfl (by omega) (by omega) rfl ?_
            refine g_goto rfl ?_
            refine g_ls [0, 3, 1, 4, 5, 6] rfl rfl ?_
            exact ih14 (t + 1) _ _ (by omega) (by 
                                                                                                                                                                                                                                                                                                                                                                                                                show _ = if gIt S p f t < 0 then -1 else if gNx S p (gIt S p f t).toNat (sGn S p) < 0 ∨ gSame S p (gNx S p (gIt S p f t).toNat (sGn S p)).toNat f then -1 else gNx S p (gIt S p f t).toNat (sGn S p)
                                                                                                                                                                                                                                                                                                                                                                                                                rw [if_neg (by omega), ← hq, eqk]
                                                                                                                                                                                                                                                                                                                                                                                                                first
                                                                                                                                                                                                                                                                                                                                                                                                                  | (refine (if_pos ?_).symm; exact Or.inl cq46)
                                                                                                                                                                                                                                                                                                                                                                                                                  | (refine (if_pos ?_).symm; rw [enk]; exact Or.inr cq57)
                                                                                                                                                                                                                                                                                                                                                                                                                  | (rw [enk]; refine enx.symm.trans (if_neg ?_).symm; intro z; exact z.elim (fun y => by omega) (fun y => cq57 y))) (by exact fun a h1 => by funext z; rw [vset_ne _ _ _ _ (by omega), hv a h1]) (by exact fun j hj => if e : j = t then by (subst e; exact ⟨by omega, by rw [vset_eq]; exact hq⟩) else ⟨(hw_ j (by omega)).1, by rw [vset_ne _ _ _ _ (by omega)]; exact (hw_ j (by omega)).2⟩) (by omega)
          · skip
            obtain ⟨nk, enx⟩ : ∃ k : Nat, gNx S p qk (sGn S p) = k := ⟨(gNx S p qk (sGn S p)).toNat, by omega⟩
            have enk : (gNx S p qk (sGn S p)).toNat = nk := by omega
            rw [enx]
            refine g_aload_n rfl rfl ?_
            refine g_iload_n rfl rfl ?_
            refine g_iload rfl rfl ?_
            refine g_iload_n rfl rfl ?_
            refine g_callVI [aI ((p : Int)), aI ((nk : Int)), aI ((f : Int))] [] rfl rfl rfl rfl (Nat.le_of_ble_eq_true rfl) (cs.kd 11 (by omega) rfl) (x_pgSame (by omega) cs ((vset V1 (c + 15) t ((qk : Int)))) (xg1.fr (fun a h1 h2 => by funext z; rw [vset_ne _ _ _ _ (by omega)])) ok p (by omega) nk (by omega) f (by omega)) ?_
            rintro r2 hx2 ⟨ehx2, rfl⟩
            rw [ehx2]
            clear ehx2 hx2
            refine g_b_eq rfl (fun cq57 => ?_) (fun cq57 => ?_)
            · skip
              refine g_iload rfl rfl ?_
              refine g_istore_n (l1 := [(3, aI ((nk : Int))), (6, aI ((nk : Int))), (4, aI ((t : Int) + 1)), (5, aI ((t : Int))), (2, aI ((f : Int))), (0, aO (some (c + 11))), (1, aI ((p : Int)))]) rfl rfl ?_
              refine g_iinc (l1 := [(5, aI ((t : Int) + 1)), (3, aI ((nk : Int))), (6, aI ((nk : Int))), (4, aI ((t : Int) + 1)), (2, aI ((f : Int))), (0, aO (some (c + 11))), (1, aI ((p : Int)))]) rfl rfl (by omega) (by omega) rfl ?_
              refine g_goto rfl ?_
              refine g_ls [0, 3, 1, 4, 5, 6] rfl rfl ?_
              exact ih14 (t + 1) _ _ (by omega) (by 
                                                                                                                                                                                                                                                                                                                                                                                                                show _ = if gIt S p f t < 0 then -1 else if gNx S p (gIt S p f t).toNat (sGn S p) < 0 ∨ gSame S p (gNx S p (gIt S p f t).toNat (sGn S p)).toNat f then -1 else gNx S p (gIt S p f t).toNat (sGn S p)
                                                                                                                                                                                                                                                                                                                                                                                                                rw [if_neg (by omega), ← hq, eqk]
                                                                                                                                                                                                                                                                                                                                                                                                                first
                                                                                                                                                                                                                                                                                                                                                                                                                  | (refine (if_pos ?_).symm; exact Or.inl cq46)
                                                                                                                                                                                                                                                                                                                                                                                                                  | (refine (if_pos ?_).symm; rw [enk]; exact Or.inr cq57)
                                                                                                                                                                                                                                                                                                                                                                                                                  | (rw [enk]; refine enx.symm.trans (if_neg ?_).symm; intro z; exact z.elim (fun y => by omega) (fun y => cq57 y))) (by exact fun a h1 => by funext z; rw [vset_ne _ _ _ _ (by omega), hv a h1]) (by exact fun j hj => if e : j = t then by (subst e; exact ⟨by omega, by rw [vset_eq]; exact hq⟩) else ⟨(hw_ j (by omega)).1, by rw [vset_ne _ _ _ _ (by omega)]; exact (hw_ j (by omega)).2⟩) (by omega)
            · skip
              refine g_iconst rfl ?_
              refine g_goto rfl ?_
              refine g_istore_n (l1 := [(3, aI ((-1))), (6, aI ((nk : Int))), (4, aI ((t : Int) + 1)), (5, aI ((t : Int))), (2, aI ((f : Int))), (0, aO (some (c + 11))), (1, aI ((p : Int)))]) rfl rfl ?_
              refine g_iinc (l1 := [(5, aI ((t : Int) + 1)), (3, aI ((-1))), (6, aI ((nk : Int))), (4, aI ((t : Int) + 1)), (2, aI ((f : Int))), (0, aO (some (c + 11))), (1, aI ((p : Int)))]) rfl rfl (by omega) (by omega) rfl ?_
              refine g_goto rfl ?_
              refine g_ls [0, 3, 1, 4, 5, 6] rfl rfl ?_
              exact ih14 (t + 1) _ _ (by omega) (by 
                                                                                                                                                                                                                                                                                                                                                                                                                show _ = if gIt S p f t < 0 then -1 else if gNx S p (gIt S p f t).toNat (sGn S p) < 0 ∨ gSame S p (gNx S p (gIt S p f t).toNat (sGn S p)).toNat f then -1 else gNx S p (gIt S p f t).toNat (sGn S p)
                                                                                                                                                                                                                                                                                                                                                                                                                rw [if_neg (by omega), ← hq, eqk]
                                                                                                                                                                                                                                                                                                                                                                                                                first
                                                                                                                                                                                                                                                                                                                                                                                                                  | (refine (if_pos ?_).symm; exact Or.inl cq46)
                                                                                                                                                                                                                                                                                                                                                                                                                  | (refine (if_pos ?_).symm; rw [enk]; exact Or.inr cq57)
                                                                                                                                                                                                                                                                                                                                                                                                                  | (rw [enk]; refine enx.symm.trans (if_neg ?_).symm; intro z; exact z.elim (fun y => by omega) (fun y => cq57 y))) (by exact fun a h1 => by funext z; rw [vset_ne _ _ _ _ (by omega), hv a h1]) (by exact fun j hj => if e : j = t then by (subst e; exact ⟨by omega, by rw [vset_eq]; exact hq⟩) else ⟨(hw_ j (by omega)).1, by rw [vset_ne _ _ _ _ (by omega)]; exact (hw_ j (by omega)).2⟩) (by omega)
  refine g_aload_n rfl rfl ?_
  refine g_iload_n rfl rfl ?_
  refine g_callVI [aI ((p : Int))] [] rfl rfl rfl rfl (Nat.le_of_ble_eq_true rfl) (cs.kd 11 (by omega) rfl) (x_pgLeast (by omega) cs V xg ok p (by omega) hn) ?_
  rintro _ _ ⟨rfl, f, rfl, hf0⟩
  have hf1 := hf0.1
  refine g_istore_n (l1 := [(2, aI ((f : Int))), (0, aO (some (c + 11))), (1, aI ((p : Int)))]) rfl rfl ?_
  refine g_iload_n rfl rfl ?_
  refine g_istore_n (l1 := [(3, aI ((f : Int))), (2, aI ((f : Int))), (0, aO (some (c + 11))), (1, aI ((p : Int)))]) rfl rfl ?_
  refine g_iconst rfl ?_
  refine g_istore (l1 := [(4, aI 0), (3, aI ((f : Int))), (2, aI ((f : Int))), (0, aO (some (c + 11))), (1, aI ((p : Int)))]) rfl rfl ?_
  refine g_iconst rfl ?_
  refine g_istore (l1 := [(5, aI 0), (4, aI 0), (3, aI ((f : Int))), (2, aI ((f : Int))), (0, aO (some (c + 11))), (1, aI ((p : Int)))]) rfl rfl ?_
  exact l14 f (by exact hf0) _ 0 _ V (by omega) (by rfl) (by exact fun a _ => rfl) (by exact fun j hj => by omega) (Nat.lt_succ_self _)
set_option maxRecDepth 100000 in
theorem x_pgWrap0 {w : aW} {d : Nat} (hd : 6 ≤ d) {h : aH} {c : Nat} (cs : CS h c) (V : Nat → Nat → Int) {S : aS} (xg : XG V c S) (ok : OkG S) (p : Nat) (hp : p < sG S) (hn : sGn S p = 0) : WP w d 113 [aO (some (c + 11)), aI ((p : Int))] (hw h V) (RI (fun r h1 => h1 = hw h V ∧ r = 0)) := by
  obtain ⟨d, rfl⟩ : ∃ d1, d = d1 + 1 := ⟨d - 1, by omega⟩
  refine WP.enter (cd := cd_X3_wrap) rfl ?_
  have hls : largs 0 [aO (some (c + 11)), aI ((p : Int))] = [(0, aO (some (c + 11))), (1, aI ((p : Int)))] := rfl
  rw [hls]
  clear hls
  refine g_aload_n rfl rfl ?_
  refine g_iload_n rfl rfl ?_
  refine g_callVI [aI ((p : Int))] [] rfl rfl rfl rfl (Nat.le_of_ble_eq_true rfl) (cs.kd 11 (by omega) rfl) (x_pgLeast0 (by omega) cs V xg ok p (by omega) hn) ?_
  rintro _ _ ⟨rfl, rfl⟩
  refine g_istore_n (l1 := [(2, aI ((-1))), (0, aO (some (c + 11))), (1, aI ((p : Int)))]) rfl rfl ?_
  refine g_iload_n rfl rfl ?_
  refine g_istore_n (l1 := [(3, aI ((-1))), (2, aI ((-1))), (0, aO (some (c + 11))), (1, aI ((p : Int)))]) rfl rfl ?_
  refine g_iconst rfl ?_
  refine g_istore (l1 := [(4, aI 0), (3, aI ((-1))), (2, aI ((-1))), (0, aO (some (c + 11))), (1, aI ((p : Int)))]) rfl rfl ?_
  refine g_iconst rfl ?_
  refine g_istore (l1 := [(5, aI 0), (4, aI 0), (3, aI ((-1))), (2, aI ((-1))), (0, aO (some (c + 11))), (1, aI ((p : Int)))]) rfl rfl ?_
  refine g_iload rfl rfl ?_
  refine g_bipush rfl ?_
  refine g_icmp_ge_f rfl (by omega) ?_
  refine g_iload_n rfl rfl ?_
  refine g_if_lt_t rfl (by omega) ?_
  refine g_iload rfl rfl ?_
  refine g_iret rfl ?_
  exact ⟨rfl, rfl⟩
set_option maxRecDepth 100000 in
theorem x_pgWays {w : aW} {d : Nat} (hd : 2 ≤ d) {h : aH} {c : Nat} (cs : CS h c) (V : Nat → Nat → Int) (i j : Nat) (hij : 12 * i + j < 144) : WP w d 121 [aO (some (c + 11)), aI ((i : Int)), aI ((j : Int))] (hw h V) (RJ (fun r h1 => h1 = hw h V ∧ r = V (c + 16) (12 * i + j))) := by
  obtain ⟨d, rfl⟩ : ∃ d1, d = d1 + 1 := ⟨d - 1, by omega⟩
  refine WP.enter (cd := cd_X3_waysOf) rfl ?_
  have hls : largs 0 [aO (some (c + 11)), aI ((i : Int)), aI ((j : Int))] = [(0, aO (some (c + 11))), (1, aI ((i : Int))), (2, aI ((j : Int)))] := rfl
  rw [hls]
  clear hls
  refine g_iload_n rfl rfl ?_
  refine g_bipush rfl ?_
  refine g_imul rfl (by omega) (by omega) ?_
  refine g_iload_n rfl rfl ?_
  refine g_iadd rfl (by omega) (by omega) ?_
  refine g_istore_n (l1 := [(3, aI ((((i : Int)) * 12) + ((j : Int)))), (0, aO (some (c + 11))), (1, aI ((i : Int))), (2, aI ((j : Int)))]) rfl rfl ?_
  refine g_iload_n rfl rfl ?_
  refine g_if_lt_f rfl (by omega) ?_
  refine g_iload_n rfl rfl ?_
  refine g_aload_n rfl rfl ?_
  refine g_getR rfl (cs.kd 11 (by omega) rfl) (cs.rf 20 (by omega) rfl) ?_
  refine g_alen rfl (cs.ar 16 (by omega) rfl) (by decide) ?_
  refine g_icmp_lt_t rfl (by omega) ?_
  refine g_aload_n rfl rfl ?_
  refine g_getR rfl (cs.kd 11 (by omega) rfl) (cs.rf 20 (by omega) rfl) ?_
  refine g_iload_n rfl rfl ?_
  refine g_lald (i := 12 * i + j) rfl (cs.ar 16 (by omega) rfl) (by omega) (by omega) ?_
  refine g_lret rfl ?_
  exact ⟨rfl, rfl⟩
set_option maxRecDepth 100000 in
theorem x_pgKeepW {w : aW} {d : Nat} (hd : 2 ≤ d) {h : aH} {c : Nat} (cs : CS h c) (V : Nat → Nat → Int) (i j : Nat) (hij : 12 * i + j < 144) (v : Int) : WP w d 122 [aO (some (c + 11)), aI ((i : Int)), aI ((j : Int)), aJ v] (hw h V) (RN (fun h1 => h1 = hw h (vset V (c + 16) (12 * i + j) v))) := by
  obtain ⟨d, rfl⟩ : ∃ d1, d = d1 + 1 := ⟨d - 1, by omega⟩
  refine WP.enter (cd := cd_X3_keepWays) rfl ?_
  have hls : largs 0 [aO (some (c + 11)), aI ((i : Int)), aI ((j : Int)), aJ v] = [(0, aO (some (c + 11))), (1, aI ((i : Int))), (2, aI ((j : Int))), (3, aJ v)] := rfl
  rw [hls]
  clear hls
  refine g_iload_n rfl rfl ?_
  refine g_bipush rfl ?_
  refine g_imul rfl (by omega) (by omega) ?_
  refine g_iload_n rfl rfl ?_
  refine g_iadd rfl (by omega) (by omega) ?_
  refine g_istore (l1 := [(5, aI ((((i : Int)) * 12) + ((j : Int)))), (0, aO (some (c + 11))), (1, aI ((i : Int))), (2, aI ((j : Int))), (3, aJ v)]) rfl rfl ?_
  refine g_iload rfl rfl ?_
  refine g_if_lt_f rfl (by omega) ?_
  refine g_iload rfl rfl ?_
  refine g_aload_n rfl rfl ?_
  refine g_getR rfl (cs.kd 11 (by omega) rfl) (cs.rf 20 (by omega) rfl) ?_
  refine g_alen rfl (cs.ar 16 (by omega) rfl) (by decide) ?_
  refine g_icmp_ge_f rfl (by omega) ?_
  refine g_aload_n rfl rfl ?_
  refine g_getR rfl (cs.kd 11 (by omega) rfl) (cs.rf 20 (by omega) rfl) ?_
  refine g_iload rfl rfl ?_
  refine g_lload_n rfl rfl ?_
  refine g_last (i := 12 * i + j) rfl (cs.ar 16 (by omega) rfl) (by omega) (by omega) ?_
  refine g_hp (h2 := hw h (vset V (c + 16) (12 * i + j) v)) rfl ?_
  refine g_vret rfl ?_
  rfl
set_option maxRecDepth 100000 in
theorem x_pgTri {w : aW} {d : Nat} (hd : 7 ≤ d) {h : aH} {c : Nat} (cs : CS h c) (V : Nat → Nat → Int) {S : aS} (xg : XG V c S) (ok : OkG S) (p : Nat) (hp : p < sG S) (hn : 3 ≤ sGn S p) : WP w d 120 [aO (some (c + 11)), aI ((p : Int))] (hw h V) (RJ (fun r h1 => ∃ V1, h1 = hw h V1 ∧ (∀ q, q ≠ c + 16 → V1 q = V q) ∧ r = gTr S p 0 (sGn S p - 1))) := by
  obtain ⟨d, rfl⟩ : ∃ d1, d = d1 + 1 := ⟨d - 1, by omega⟩
  refine WP.enter (cd := cd_X3_triangulations) rfl ?_
  have hok2 := (ok.2 p hp).1
  have hls : largs 0 [aO (some (c + 11)), aI ((p : Int))] = [(0, aO (some (c + 11))), (1, aI ((p : Int)))] := rfl
  rw [hls]
  clear hls
  have l8 : ∀ (fuel : Nat) (a : Nat) (V1 : Nat → Nat → Int), (1 ≤ a) → (a ≤ sGn S p) → (∀ q, q ≠ c + 16 → V1 q = V q) → (∀ u v, u < v → v < sGn S p → v - u < a → V1 (c + 16) (12 * u + v) = gTr S p u v) → sGn S p - a < fuel → Wk w d cd_X3_triangulations 8 [(3, aI ((a : Int))), (2, aI (((sGn S p : Nat) : Int))), (0, aO (some (c + 11))), (1, aI ((p : Int)))] [] (hw h V1) (RJ (fun r h1 => ∃ V1, h1 = hw h V1 ∧ (∀ q, q ≠ c + 16 → V1 q = V q) ∧ r = gTr S p 0 (sGn S p - 1))) := by
    intro fuel
    induction fuel with
    | zero => intros; omega
    | succ fuel ih8 =>
      intro a V1 ha ha2 hv ht hfuel
      have hok2 := (ok.2 p hp).1
      have l16 : (a < sGn S p) → ∀ (fuel : Nat) (i : Nat) (V1 : Nat → Nat → Int), (i + a ≤ sGn S p) → (∀ q, q ≠ c + 16 → V1 q = V q) → (∀ u v, u < v → v < sGn S p → v - u < a → V1 (c + 16) (12 * u + v) = gTr S p u v) → (∀ u v, u < v → v < sGn S p → v - u = a → u < i → V1 (c + 16) (12 * u + v) = gTr S p u v) → sGn S p - i < fuel → Wk w d cd_X3_triangulations 16 [(4, aI ((i : Int))), (3, aI ((a : Int))), (2, aI (((sGn S p : Nat) : Int))), (0, aO (some (c + 11))), (1, aI ((p : Int)))] [] (hw h V1) (RJ (fun r h1 => ∃ V1, h1 = hw h V1 ∧ (∀ q, q ≠ c + 16 → V1 q = V q) ∧ r = gTr S p 0 (sGn S p - 1))) := by
        intro ha3 fuel
        induction fuel with
        | zero => intros; omega
        | succ fuel ih16 =>
          intro i V1 hi hv ht ht2 hfuel
          have xg1 : XG V1 c S := xg.fr (fun q h1 h2 => hv q (by omega))
          have l48 : (i + a < sGn S p) → ∀ (fuel : Nat) (m : Nat) (s : Int), (m + 1 ≤ a) → (s = if a = 1 then 1 else gSum (gTr S p) i (i + a) m) → a - m < fuel → Wk w d cd_X3_triangulations 48 [(8, aI ((i + 1 + m : Int))), (6, aJ s), (5, aI ((i + a : Int))), (4, aI ((i : Int))), (3, aI ((a : Int))), (2, aI (((sGn S p : Nat) : Int))), (0, aO (some (c + 11))), (1, aI ((p : Int)))] [] (hw h V1) (RJ (fun r h1 => ∃ V1, h1 = hw h V1 ∧ (∀ q, q ≠ c + 16 → V1 q = V q) ∧ r = gTr S p 0 (sGn S p - 1))) := by
            intro hia fuel
            induction fuel with
            | zero => intros; omega
            | succ fuel ih48 =>
              intro m s hm hs hfuel
              have hsb := gSm_b (S := S) (p := p) (i := i) (j := i + a) (m := m) (by omega) (by omega) (by omega)
              have hs0 : 0 ≤ s ∧ s ≤ 11 * 1099511627776 := by rw [hs]; split <;> omega
              refine g_iload rfl rfl ?_
              refine g_iload rfl rfl ?_
              refine g_icmp_ge rfl (fun cq52 => ?_) (fun cq52 => ?_)
              · skip
                refine g_iload_n rfl rfl ?_
                have hsum : (if i + a = i + 1 then 1 else gSum (gTr S p) i (i + a) (i + a - i - 1)) = s := by
                  rw [hs]
                  by_cases e : a = 1
                  · rw [if_pos e, if_pos (by omega)]
                  · rw [if_neg e, if_neg (by omega), show i + a - i - 1 = m by omega]
                refine g_iconst rfl ?_
                refine g_icmp_eq rfl (fun cq85 => ?_) (fun cq85 => ?_)
                · skip
                  refine g_iconst rfl ?_
                  refine g_goto rfl ?_
                  refine g_istore (l1 := [(8, aI 1), (6, aJ s), (5, aI ((i + a : Int))), (4, aI ((i : Int))), (3, aI ((a : Int))), (2, aI (((sGn S p : Nat) : Int))), (0, aO (some (c + 11))), (1, aI ((p : Int)))]) rfl rfl ?_
                  refine g_aload_n rfl rfl ?_
                  refine g_iload rfl rfl ?_
                  refine g_iload rfl rfl ?_
                  refine g_iload rfl rfl ?_
                  refine g_if_ne_t rfl (by omega) ?_
                  refine g_lload rfl rfl ?_
                  refine g_goto rfl ?_
                  refine g_callVN [aI ((i : Int)), aI ((i + a : Int)), aJ s] [] rfl rfl rfl rfl (Nat.le_of_ble_eq_true rfl) (cs.kd 11 (by omega) rfl) (x_pgKeepW (by omega) cs V1 i (i + a) (by omega) s) ?_
                  rintro _ rfl
                  refine g_iinc (l1 := [(4, aI ((i : Int) + 1)), (8, aI 1), (6, aJ s), (5, aI ((i + a : Int))), (3, aI ((a : Int))), (2, aI (((sGn S p : Nat) : Int))), (0, aO (some (c + 11))), (1, aI ((p : Int)))]) rfl rfl (by omega) (by omega) rfl ?_
                  refine g_goto rfl ?_
                  refine g_ls [0, 4, 5, 6, 7] rfl rfl ?_
                  exact ih16 (i + 1) _ (by omega) (by exact fun q hq => by funext z; rw [vset_ne _ _ _ _ (by omega), hv q hq]) (by exact fun u v h1 h2 h3 => by rw [vset_ne _ _ _ _ (by omega)]; exact ht u v h1 h2 h3) (by 
                                                                                                                                                                                                                                                                                                                                                                                                                exact fun u v h1 h2 h3 h4 => if e : u = i then by
                                                                                                                                                                                                                                                                                                                                                                                                                    subst e
                                                                                                                                                                                                                                                                                                                                                                                                                    obtain rfl : v = u + a := by omega
                                                                                                                                                                                                                                                                                                                                                                                                                    rw [vset_eq, gTr_eq (by omega) (by omega)]
                                                                                                                                                                                                                                                                                                                                                                                                                    unfold gWy
                                                                                                                                                                                                                                                                                                                                                                                                                    rw [hsum]
                                                                                                                                                                                                                                                                                                                                                                                                                    first
                                                                                                                                                                                                                                                                                                                                                                                                                      | (refine (if_pos ?_).symm; refine (Or.inl (Or.inl ?_)) <;> omega)
                                                                                                                                                                                                                                                                                                                                                                                                                      | (refine (if_pos ?_).symm; refine (Or.inl (Or.inr ?_)) <;> omega)
                                                                                                                                                                                                                                                                                                                                                                                                                      | (refine (if_pos ?_).symm; refine (Or.inr ⟨?_, cq128⟩) <;> omega)
                                                                                                                                                                                                                                                                                                                                                                                                                      | (refine (if_neg ?_).symm; intro z; refine z.elim (fun z => ?_) (fun z => by have := z.1; omega) <;> omega)
                                                                                                                                                                                                                                                                                                                                                                                                                      | (refine (if_neg ?_).symm; intro z; refine z.elim (fun z => ?_) (fun z => cq128 z.2) <;> omega)
                                                                                                                                                                                                                                                                                                                                                                                                                  else by rw [vset_ne _ _ _ _ (by omega)]; exact ht2 u v h1 h2 h3 (by omega)) (by omega)
                · skip
                  refine g_iload_n rfl rfl ?_
                  refine g_iload_n rfl rfl ?_
                  refine g_iconst rfl ?_
                  refine g_isub rfl (by omega) (by omega) ?_
                  refine g_icmp_ne rfl (fun cq92 => ?_) (fun cq92 => ?_)
                  · skip
                    refine g_iconst rfl ?_
                    refine g_istore (l1 := [(8, aI 0), (6, aJ s), (5, aI ((i + a : Int))), (4, aI ((i : Int))), (3, aI ((a : Int))), (2, aI (((sGn S p : Nat) : Int))), (0, aO (some (c + 11))), (1, aI ((p : Int)))]) rfl rfl ?_
                    refine g_aload_n rfl rfl ?_
                    refine g_iload rfl rfl ?_
                    refine g_iload rfl rfl ?_
                    refine g_iload rfl rfl ?_
                    refine g_if_ne_f rfl (by omega) ?_
                    refine g_lload rfl rfl ?_
                    refine g_lconst0 rfl ?_
                    refine g_lc_le rfl rfl (fun cq115 => ?_) (fun cq115 => ?_)
                    · skip
                      refine g_lconst0 rfl ?_
                      refine g_callVN [aI ((i : Int)), aI ((i + a : Int)), aJ 0] [] rfl rfl rfl rfl (Nat.le_of_ble_eq_true rfl) (cs.kd 11 (by omega) rfl) (x_pgKeepW (by omega) cs V1 i (i + a) (by omega) 0) ?_
                      rintro _ rfl
                      refine g_iinc (l1 := [(4, aI ((i : Int) + 1)), (8, aI 0), (6, aJ s), (5, aI ((i + a : Int))), (3, aI ((a : Int))), (2, aI (((sGn S p : Nat) : Int))), (0, aO (some (c + 11))), (1, aI ((p : Int)))]) rfl rfl (by omega) (by omega) rfl ?_
                      refine g_goto rfl ?_
                      refine g_ls [0, 4, 5, 6, 7] rfl rfl ?_
                      exact ih16 (i + 1) _ (by omega) (by exact fun q hq => by funext z; rw [vset_ne _ _ _ _ (by omega), hv q hq]) (by exact fun u v h1 h2 h3 => by rw [vset_ne _ _ _ _ (by omega)]; exact ht u v h1 h2 h3) (by 
                                                                                                                                                                                                                                                                                                                                                                                                                exact fun u v h1 h2 h3 h4 => if e : u = i then by
                                                                                                                                                                                                                                                                                                                                                                                                                    subst e
                                                                                                                                                                                                                                                                                                                                                                                                                    obtain rfl : v = u + a := by omega
                                                                                                                                                                                                                                                                                                                                                                                                                    rw [vset_eq, gTr_eq (by omega) (by omega)]
                                                                                                                                                                                                                                                                                                                                                                                                                    unfold gWy
                                                                                                                                                                                                                                                                                                                                                                                                                    rw [hsum]
                                                                                                                                                                                                                                                                                                                                                                                                                    first
                                                                                                                                                                                                                                                                                                                                                                                                                      | (refine (if_pos ?_).symm; refine (Or.inl (Or.inl ?_)) <;> omega)
                                                                                                                                                                                                                                                                                                                                                                                                                      | (refine (if_pos ?_).symm; refine (Or.inl (Or.inr ?_)) <;> omega)
                                                                                                                                                                                                                                                                                                                                                                                                                      | (refine (if_pos ?_).symm; refine (Or.inr ⟨?_, cq128⟩) <;> omega)
                                                                                                                                                                                                                                                                                                                                                                                                                      | (refine (if_neg ?_).symm; intro z; refine z.elim (fun z => ?_) (fun z => by have := z.1; omega) <;> omega)
                                                                                                                                                                                                                                                                                                                                                                                                                      | (refine (if_neg ?_).symm; intro z; refine z.elim (fun z => ?_) (fun z => cq128 z.2) <;> omega)
                                                                                                                                                                                                                                                                                                                                                                                                                  else by rw [vset_ne _ _ _ _ (by omega)]; exact ht2 u v h1 h2 h3 (by omega)) (by omega)
                    · skip
                      refine g_aload_n rfl rfl ?_
                      refine g_iload_n rfl rfl ?_
                      refine g_iload rfl rfl ?_
                      refine g_iload rfl rfl ?_
                      refine g_callVI [aI ((p : Int)), aI ((i : Int)), aI ((i + a : Int))] [aI ((i + a : Int)), aI ((i : Int)), aO (some (c + 11))] rfl rfl rfl rfl (Nat.le_of_ble_eq_true rfl) (cs.kd 11 (by omega) rfl) (x_pgDiag (by omega) cs V1 xg1 ok p (by omega) i (by omega) (i + a) (by omega)) ?_
                      rintro r1 hx1 ⟨ehx1, rfl⟩
                      rw [ehx1]
                      clear ehx1 hx1
                      refine g_b_eq rfl (fun cq128 => ?_) (fun cq128 => ?_)
                      · skip
                        refine g_lconst0 rfl ?_
                        refine g_callVN [aI ((i : Int)), aI ((i + a : Int)), aJ 0] [] rfl rfl rfl rfl (Nat.le_of_ble_eq_true rfl) (cs.kd 11 (by omega) rfl) (x_pgKeepW (by omega) cs V1 i (i + a) (by omega) 0) ?_
                        rintro _ rfl
                        refine g_iinc (l1 := [(4, aI ((i : Int) + 1)), (8, aI 0), (6, aJ s), (5, aI ((i + a : Int))), (3, aI ((a : Int))), (2, aI (((sGn S p : Nat) : Int))), (0, aO (some (c + 11))), (1, aI ((p : Int)))]) rfl rfl (by omega) (by omega) rfl ?_
                        refine g_goto rfl ?_
                        refine g_ls [0, 4, 5, 6, 7] rfl rfl ?_
                        exact ih16 (i + 1) _ (by omega) (by exact fun q hq => by funext z; rw [vset_ne _ _ _ _ (by omega), hv q hq]) (by exact fun u v h1 h2 h3 => by rw [vset_ne _ _ _ _ (by omega)]; exact ht u v h1 h2 h3) (by 
                                                                                                                                                                                                                                                                                                                                                                                                                exact fun u v h1 h2 h3 h4 => if e : u = i then by
                                                                                                                                                                                                                                                                                                                                                                                                                    subst e
                                                                                                                                                                                                                                                                                                                                                                                                                    obtain rfl : v = u + a := by omega
                                                                                                                                                                                                                                                                                                                                                                                                                    rw [vset_eq, gTr_eq (by omega) (by omega)]
                                                                                                                                                                                                                                                                                                                                                                                                                    unfold gWy
                                                                                                                                                                                                                                                                                                                                                                                                                    rw [hsum]
                                                                                                                                                                                                                                                                                                                                                                                                                    first
                                                                                                                                                                                                                                                                                                                                                                                                                      | (refine (if_pos ?_).symm; refine (Or.inl (Or.inl ?_)) <;> omega)
                                                                                                                                                                                                                                                                                                                                                                                                                      | (refine (if_pos ?_).symm; refine (Or.inl (Or.inr ?_)) <;> omega)
                                                                                                                                                                                                                                                                                                                                                                                                                      | (refine (if_pos ?_).symm; refine (Or.inr ⟨?_, cq128⟩) <;> omega)
                                                                                                                                                                                                                                                                                                                                                                                                                      | (refine (if_neg ?_).symm; intro z; refine z.elim (fun z => ?_) (fun z => by have := z.1; omega) <;> omega)
                                                                                                                                                                                                                                                                                                                                                                                                                      | (refine (if_neg ?_).symm; intro z; refine z.elim (fun z => ?_) (fun z => cq128 z.2) <;> omega)
                                                                                                                                                                                                                                                                                                                                                                                                                  else by rw [vset_ne _ _ _ _ (by omega)]; exact ht2 u v h1 h2 h3 (by omega)) (by omega)
                      · skip
                        refine g_lload rfl rfl ?_
                        refine g_goto rfl ?_
                        refine g_callVN [aI ((i : Int)), aI ((i + a : Int)), aJ s] [] rfl rfl rfl rfl (Nat.le_of_ble_eq_true rfl) (cs.kd 11 (by omega) rfl) (x_pgKeepW (by omega) cs V1 i (i + a) (by omega) s) ?_
                        rintro _ rfl
                        refine g_iinc (l1 := [(4, aI ((i : Int) + 1)), (8, aI 0), (6, aJ s), (5, aI ((i + a : Int))), (3, aI ((a : Int))), (2, aI (((sGn S p : Nat) : Int))), (0, aO (some (c + 11))), (1, aI ((p : Int)))]) rfl rfl (by omega) (by omega) rfl ?_
                        refine g_goto rfl ?_
                        refine g_ls [0, 4, 5, 6, 7] rfl rfl ?_
                        exact ih16 (i + 1) _ (by omega) (by exact fun q hq => by funext z; rw [vset_ne _ _ _ _ (by omega), hv q hq]) (by exact fun u v h1 h2 h3 => by rw [vset_ne _ _ _ _ (by omega)]; exact ht u v h1 h2 h3) (by 
                                                                                                                                                                                                                                                                                                                                                                                                                exact fun u v h1 h2 h3 h4 => if e : u = i then by
                                                                                                                                                                                                                                                                                                                                                                                                                    subst e
                                                                                                                                                                                                                                                                                                                                                                                                                    obtain rfl : v = u + a := by omega
                                                                                                                                                                                                                                                                                                                                                                                                                    rw [vset_eq, gTr_eq (by omega) (by omega)]
                                                                                                                                                                                                                                                                                                                                                                                                                    unfold gWy
                                                                                                                                                                                                                                                                                                                                                                                                                    rw [hsum]
                                                                                                                                                                                                                                                                                                                                                                                                                    first
                                                                                                                                                                                                                                                                                                                                                                                                                      | (refine (if_pos ?_).symm; refine (Or.inl (Or.inl ?_)) <;> omega)
                                                                                                                                                                                                                                                                                                                                                                                                                      | (refine (if_pos ?_).symm; refine (Or.inl (Or.inr ?_)) <;> omega)
                                                                                                                                                                                                                                                                                                                                                                                                                      | (refine (if_pos ?_).symm; refine (Or.inr ⟨?_, cq128⟩) <;> omega)
                                                                                                                                                                                                                                                                                                                                                                                                                      | (refine (if_neg ?_).symm; intro z; refine z.elim (fun z => ?_) (fun z => by have := z.1; omega) <;> omega)
                                                                                                                                                                                                                                                                                                                                                                                                                      | (refine (if_neg ?_).symm; intro z; refine z.elim (fun z => ?_) (fun z => cq128 z.2) <;> omega)
                                                                                                                                                                                                                                                                                                                                                                                                                  else by rw [vset_ne _ _ _ _ (by omega)]; exact ht2 u v h1 h2 h3 (by omega)) (by omega)
                  · skip
                    refine g_iconst rfl ?_
                    refine g_goto rfl ?_
                    refine g_istore (l1 := [(8, aI 1), (6, aJ s), (5, aI ((i + a : Int))), (4, aI ((i : Int))), (3, aI ((a : Int))), (2, aI (((sGn S p : Nat) : Int))), (0, aO (some (c + 11))), (1, aI ((p : Int)))]) rfl rfl ?_
                    refine g_aload_n rfl rfl ?_
                    refine g_iload rfl rfl ?_
                    refine g_iload rfl rfl ?_
                    refine g_iload rfl rfl ?_
                    refine g_if_ne_t rfl (by omega) ?_
                    refine g_lload rfl rfl ?_
                    refine g_goto rfl ?_
                    refine g_callVN [aI ((i : Int)), aI ((i + a : Int)), aJ s] [] rfl rfl rfl rfl (Nat.le_of_ble_eq_true rfl) (cs.kd 11 (by omega) rfl) (x_pgKeepW (by omega) cs V1 i (i + a) (by omega) s) ?_
                    rintro _ rfl
                    refine g_iinc (l1 := [(4, aI ((i : Int) + 1)), (8, aI 1), (6, aJ s), (5, aI ((i + a : Int))), (3, aI ((a : Int))), (2, aI (((sGn S p : Nat) : Int))), (0, aO (some (c + 11))), (1, aI ((p : Int)))]) rfl rfl (by omega) (by omega) rfl ?_
                    refine g_goto rfl ?_
                    refine g_ls [0, 4, 5, 6, 7] rfl rfl ?_
                    exact ih16 (i + 1) _ (by omega) (by exact fun q hq => by funext z; rw [vset_ne _ _ _ _ (by omega), hv q hq]) (by exact fun u v h1 h2 h3 => by rw [vset_ne _ _ _ _ (by omega)]; exact ht u v h1 h2 h3) (by 
                                                                                                                                                                                                                                                                                                                                                                                                                exact fun u v h1 h2 h3 h4 => if e : u = i then by
                                                                                                                                                                                                                                                                                                                                                                                                                    subst e
                                                                                                                                                                                                                                                                                                                                                                                                                    obtain rfl : v = u + a := by omega
                                                                                                                                                                                                                                                                                                                                                                                                                    rw [vset_eq, gTr_eq (by omega) (by omega)]
                                                                                                                                                                                                                                                                                                                                                                                                                    unfold gWy
                                                                                                                                                                                                                                                                                                                                                                                                                    rw [hsum]
                                                                                                                                                                                                                                                                                                                                                                                                                    first
                                                                                                                                                                                                                                                                                                                                                                                                                      | (refine (if_pos ?_).symm; refine (Or.inl (Or.inl ?_)) <;> omega)
                                                                                                                                                                                                                                                                                                                                                                                                                      | (refine (if_pos ?_).symm; refine (Or.inl (Or.inr ?_)) <;> omega)
                                                                                                                                                                                                                                                                                                                                                                                                                      | (refine (if_pos ?_).symm; refine (Or.inr ⟨?_, cq128⟩) <;> omega)
                                                                                                                                                                                                                                                                                                                                                                                                                      | (refine (if_neg ?_).symm; intro z; refine z.elim (fun z => ?_) (fun z => by have := z.1; omega) <;> omega)
                                                                                                                                                                                                                                                                                                                                                                                                                      | (refine (if_neg ?_).symm; intro z; refine z.elim (fun z => ?_) (fun z => cq128 z.2) <;> omega)
                                                                                                                                                                                                                                                                                                                                                                                                                  else by rw [vset_ne _ _ _ _ (by omega)]; exact ht2 u v h1 h2 h3 (by omega)) (by omega)
              · skip
                refine g_lload rfl rfl ?_
                refine g_aload_n rfl rfl ?_
                refine g_iload rfl rfl ?_
                refine g_iload rfl rfl ?_
                refine g_callVJ [aI ((i : Int)), aI ((i + 1 + m : Int))] [aJ s] rfl rfl rfl rfl (Nat.le_of_ble_eq_true rfl) (cs.kd 11 (by omega) rfl) (x_pgWays (by omega) cs V1 i (i + 1 + m) (by omega)) ?_
                rintro r2 hx2 ⟨ehx2, rfl⟩
                rw [ehx2, ht i (i + 1 + m) (by omega) (by omega) (by omega)]
                clear ehx2 hx2
                refine g_aload_n rfl rfl ?_
                refine g_iload rfl rfl ?_
                refine g_iload rfl rfl ?_
                refine g_callVJ [aI ((i + 1 + m : Int)), aI ((i + a : Int))] [aJ (gTr S p i (i + 1 + m)), aJ s] rfl rfl rfl rfl (Nat.le_of_ble_eq_true rfl) (cs.kd 11 (by omega) rfl) (x_pgWays (by omega) cs V1 (i + 1 + m) (i + a) (by omega)) ?_
                rintro r3 hx3 ⟨ehx3, rfl⟩
                rw [ehx3, ht (i + 1 + m) (i + a) (by omega) (by omega) (by omega)]
                clear ehx3 hx3
                have b1 := gTr_b (S := S) (p := p) (i := i) (j := i + 1 + m) (by omega) (by omega)
                have b2 := gTr_b (S := S) (p := p) (i := i + 1 + m) (j := i + a) (by omega) (by omega)
                have hsb2 := gSm_b (S := S) (p := p) (i := i) (j := i + a) (m := m + 1) (by omega) (by omega) (by omega)
                have hsm : gSum (gTr S p) i (i + a) (m + 1) = gSum (gTr S p) i (i + a) m + gTr S p i (i + 1 + m) * gTr S p (i + 1 + m) (i + a) := rfl
                have hs1 := hs
                rw [if_neg (by omega)] at hs1
                refine g_lmul rfl (by omega) (by omega) ?_
                refine g_ladd rfl (by omega) (by omega) ?_
                refine g_lstore (l1 := [(6, aJ (s + ((gTr S p i (i + 1 + m)) * (gTr S p (i + 1 + m) (i + a))))), (8, aI ((i + 1 + m : Int))), (5, aI ((i + a : Int))), (4, aI ((i : Int))), (3, aI ((a : Int))), (2, aI (((sGn S p : Nat) : Int))), (0, aO (some (c + 11))), (1, aI ((p : Int)))]) rfl rfl ?_
                refine g_iinc (l1 := [(8, aI ((i + 1 + m : Int) + 1)), (6, aJ (s + ((gTr S p i (i + 1 + m)) * (gTr S p (i + 1 + m) (i + a))))), (5, aI ((i + a : Int))), (4, aI ((i : Int))), (3, aI ((a : Int))), (2, aI (((sGn S p : Nat) : Int))), (0, aO (some (c + 11))), (1, aI ((p : Int)))]) rfl rfl (by omega) (by omega) rfl ?_
                rw [show ((i + 1 + m : Int) + 1 : Int) = (i + 1 + (m + 1) : Int) by omega]
                refine g_goto rfl ?_
                exact ih48 (m + 1) _ (by omega) (by rw [if_neg (by omega)] at hs; rw [hs, if_neg (by omega)]; rfl) (by omega)
          refine g_iload rfl rfl ?_
          refine g_iload_n rfl rfl ?_
          refine g_iadd rfl (by omega) (by omega) ?_
          refine g_iload_n rfl rfl ?_
          refine g_icmp_ge rfl (fun cq21 => ?_) (fun cq21 => ?_)
          · skip
            refine g_iinc (l1 := [(3, aI ((a : Int) + 1)), (4, aI ((i : Int))), (2, aI (((sGn S p : Nat) : Int))), (0, aO (some (c + 11))), (1, aI ((p : Int)))]) rfl rfl (by omega) (by omega) rfl ?_
            refine g_goto rfl ?_
            refine g_ls [0, 2, 3, 4] rfl rfl ?_
            exact ih8 (a + 1) _ (by omega) (by omega) (by exact hv) (by exact fun u v h1 h2 h3 => if e : v - u < a then ht u v h1 h2 e else ht2 u v h1 h2 (by omega) (by omega)) (by omega)
          · skip
            refine g_iload rfl rfl ?_
            refine g_iload_n rfl rfl ?_
            refine g_iadd rfl (by omega) (by omega) ?_
            refine g_istore (l1 := [(5, aI (((i : Int)) + ((a : Int)))), (4, aI ((i : Int))), (3, aI ((a : Int))), (2, aI (((sGn S p : Nat) : Int))), (0, aO (some (c + 11))), (1, aI ((p : Int)))]) rfl rfl ?_
            refine g_iload_n rfl rfl ?_
            refine g_iconst rfl ?_
            refine g_icmp_ne rfl (fun cq32 => ?_) (fun cq32 => ?_)
            · skip
              refine g_lconst0 rfl ?_
              refine g_lstore (l1 := [(6, aJ 0), (5, aI (((i : Int)) + ((a : Int)))), (4, aI ((i : Int))), (3, aI ((a : Int))), (2, aI (((sGn S p : Nat) : Int))), (0, aO (some (c + 11))), (1, aI ((p : Int)))]) rfl rfl ?_
              refine g_iload rfl rfl ?_
              refine g_iconst rfl ?_
              refine g_iadd rfl (by omega) (by omega) ?_
              refine g_istore (l1 := [(8, aI (((i : Int)) + 1)), (6, aJ 0), (5, aI (((i : Int)) + ((a : Int)))), (4, aI ((i : Int))), (3, aI ((a : Int))), (2, aI (((sGn S p : Nat) : Int))), (0, aO (some (c + 11))), (1, aI ((p : Int)))]) rfl rfl ?_
              exact l48 (by omega) _ 0 _ (by omega) (by 
                                                                                                                                                                                                                                                                                                                                                                                                                first
                                                                                                                                                                                                                                                                                                                                                                                                                | (refine (if_pos ?_).symm; refine ?_ <;> omega)
                                                                                                                                                                                                                                                                                                                                                                                                                | (refine (if_neg ?_).symm; refine ?_ <;> omega)) (Nat.lt_succ_self _)
            · skip
              refine g_lconst1 rfl ?_
              refine g_goto rfl ?_
              refine g_lstore (l1 := [(6, aJ 1), (5, aI (((i : Int)) + ((a : Int)))), (4, aI ((i : Int))), (3, aI ((a : Int))), (2, aI (((sGn S p : Nat) : Int))), (0, aO (some (c + 11))), (1, aI ((p : Int)))]) rfl rfl ?_
              refine g_iload rfl rfl ?_
              refine g_iconst rfl ?_
              refine g_iadd rfl (by omega) (by omega) ?_
              refine g_istore (l1 := [(8, aI (((i : Int)) + 1)), (6, aJ 1), (5, aI (((i : Int)) + ((a : Int)))), (4, aI ((i : Int))), (3, aI ((a : Int))), (2, aI (((sGn S p : Nat) : Int))), (0, aO (some (c + 11))), (1, aI ((p : Int)))]) rfl rfl ?_
              exact l48 (by omega) _ 0 _ (by omega) (by 
                                                                                                                                                                                                                                                                                                                                                                                                                first
                                                                                                                                                                                                                                                                                                                                                                                                                | (refine (if_pos ?_).symm; refine ?_ <;> omega)
                                                                                                                                                                                                                                                                                                                                                                                                                | (refine (if_neg ?_).symm; refine ?_ <;> omega)) (Nat.lt_succ_self _)
      refine g_iload_n rfl rfl ?_
      refine g_iload_n rfl rfl ?_
      refine g_icmp_ge rfl (fun cq10 => ?_) (fun cq10 => ?_)
      · skip
        refine g_aload_n rfl rfl ?_
        refine g_iconst rfl ?_
        refine g_iload_n rfl rfl ?_
        refine g_iconst rfl ?_
        refine g_isub rfl (by omega) (by omega) ?_
        refine g_top (v2 := aI (((sGn S p - 1 : Nat) : Int))) (congrArg aI (by omega)) ?_
        refine g_callVJ [aI 0, aI (((sGn S p - 1 : Nat) : Int))] [] rfl rfl rfl rfl (Nat.le_of_ble_eq_true rfl) (cs.kd 11 (by omega) rfl) (x_pgWays (by omega) cs V1 0 (sGn S p - 1) (by omega)) ?_
        rintro r4 hx4 ⟨ehx4, rfl⟩
        rw [ehx4, ht 0 (sGn S p - 1) (by omega) (by omega) (by omega)]
        clear ehx4 hx4
        refine g_lret rfl ?_
        exact ⟨V1, rfl, hv, rfl⟩
      · skip
        refine g_iconst rfl ?_
        refine g_istore (l1 := [(4, aI 0), (3, aI ((a : Int))), (2, aI (((sGn S p : Nat) : Int))), (0, aO (some (c + 11))), (1, aI ((p : Int)))]) rfl rfl ?_
        exact l16 (by omega) _ 0 _ (by omega) (by exact hv) (by exact ht) (by exact fun u v h1 h2 h3 h4 => by omega) (Nat.lt_succ_self _)
  refine g_aload_n rfl rfl ?_
  refine g_iload_n rfl rfl ?_
  refine g_callVI [aI ((p : Int))] [] rfl rfl rfl rfl (Nat.le_of_ble_eq_true rfl) (cs.kd 11 (by omega) rfl) (x_pgSize (by omega) cs V xg ok p (by omega)) ?_
  rintro r5 hx5 ⟨ehx5, rfl⟩
  rw [ehx5]
  clear ehx5 hx5
  refine g_istore_n (l1 := [(2, aI ((sGn S p : Int))), (0, aO (some (c + 11))), (1, aI ((p : Int)))]) rfl rfl ?_
  refine g_iconst rfl ?_
  refine g_istore_n (l1 := [(3, aI 1), (2, aI ((sGn S p : Int))), (0, aO (some (c + 11))), (1, aI ((p : Int)))]) rfl rfl ?_
  exact l8 _ 1 V (by omega) (by omega) (by exact fun q _ => rfl) (by exact fun u v h1 h2 h3 => by omega) (Nat.lt_succ_self _)
