/-! the law's start: both sides are made (by hand) -/
def S00 : aS := ((0, fun _ => (0, 1)), (0, fun _ => 0, fun _ _ => 0), (0, fun _ => 0, fun _ _ => (0, 0)), (0, fun _ _ => 0))
theorem ok_S00 : OkS S00 := by
  refine ⟨⟨⟨?_, ?_⟩, ⟨?_, ?_⟩⟩, ⟨?_, ⟨?_, ?_⟩⟩, ⟨?_, ?_⟩⟩
  · show (0 : Nat) ≤ 200
    omega
  · intro i hi
    exact absurd hi (Nat.not_lt_zero _)
  · show (0 : Nat) ≤ 100
    omega
  · intro i hi
    exact absurd hi (Nat.not_lt_zero _)
  · intro t ht
    have h : t < ((0 : Nat) : Int) := ht.2
    omega
  · show (0 : Nat) ≤ 12
    omega
  · intro i hi
    exact absurd hi (Nat.not_lt_zero _)
  · show (0 : Nat) ≤ 60
    omega
  · intro i hi
    exact absurd hi (Nat.not_lt_zero _)
theorem start_IX {w : aW} {h0 h1 H : aH} {c s : Nat} (x : Xs h0 h1 c 34 39 s) (te : ∀ t < 286, hV h1 (c + 18) t = (pE t).1 ∧ hV h1 (c + 19) t = (pE t).2.1 ∧ hV h1 (c + 20) t = (pE t).2.2) (tb : ∀ i1 j1 : Nat, i1 + j1 ≤ 10 → hV h1 (c + 21) (11 * i1 + j1) = pB i1 j1) (tk : ∀ t < 32, hV h1 (c + 33) t = -1) (hz1 : c + 67 ≤ hz H) (eT : ∀ a < c + 34, hT H a = hT h1 a) (eR : ∀ a < c + 34, hR H a = hR h1 a) (eV : ∀ a < c + 34, hV H a = hV h1 a) (tx : ∀ i < 12, w i < c ∧ hT h0 (w i) = (8, i)) : IX w H c S00 := by
  obtain ⟨x1, x2, x3, x4, x5, x6, x7⟩ := x
  have cs : CS H c := ⟨fun j hj => by rw [eT _ (by omega)]; exact x2 j hj, fun i hi => by
    have h := (x3 i hi).1
    rw [eR _ (by omega)]
    exact (x3 i hi).2⟩
  have z : ∀ j < 34, ∀ i, xE j i = false → hV H (c + j) i = 0 := fun j hj i he => by rw [eV _ (by omega)]; exact x4 j hj i he
  have n : ∀ j < 34, ∀ i, xN j i = true → hR H (c + j) i = none := fun j hj i he => by rw [eR _ (by omega)]; exact x5 j hj i he
  refine ⟨⟨cs, hz1, ?_, ?_, ?_⟩, ⟨⟨?_, ?_⟩, ⟨?_, ?_⟩, ⟨?_, ?_⟩, ⟨?_, ?_⟩, ?_⟩, ⟨fun _ => 0, ?_, ?_⟩, Or.inl ⟨n 27 (by omega) 0 rfl, n 27 (by omega) 1 rfl⟩, fun i hi => ⟨?_, ?_⟩⟩
  · rw [z 1 (by omega) 1 rfl]
    omega
  · intro i hi p hp
    rw [n 2 (by omega) i rfl] at hp
    cases hp
  · intro i hi j hj p hp
    rw [n 2 (by omega) i rfl] at hp
    cases hp
  · exact z 3 (by omega) 2 rfl
  · intro i hi
    exact absurd hi (Nat.not_lt_zero _)
  · exact z 7 (by omega) 4 rfl
  · intro i hi
    exact absurd hi (Nat.not_lt_zero _)
  · exact z 11 (by omega) 5 rfl
  · intro i hi
    exact absurd hi (Nat.not_lt_zero _)
  · intro t ht
    rw [eV (c + 18) (by omega), eV (c + 19) (by omega), eV (c + 20) (by omega)]
    exact te t ht
  · intro i j h
    rw [eV (c + 21) (by omega)]
    exact tb i j h
  · intro j hj
    rw [eV (c + 33) (by omega)]
    exact Or.inl (tk j hj)
  · exact z 17 (by omega) 9 rfl
  · intro i hi
    exact absurd hi (Nat.not_lt_zero _)
  · have := (tx i hi).1
    omega
  · have h := (tx i hi).1
    rw [eT _ (by omega), (x6 _ h).1]
    exact (tx i hi).2
theorem start_IM {h H : aH} {o : Nat} (hz0 : hz h = o) (eT : ∀ a < o + 32, hT H a = hT (mk (hnew h 22 40) o mrows) a) (eR : ∀ a < o + 32, hR H a = hR (mk (hnew h 22 40) o mrows) a) (eV : ∀ a < o + 32, hV H a = hV (mk (hnew h 22 40) o mrows) a) : IM H o S00 := by
  have ta : (hT (hnew h 22 40) o).1 = 22 := by rw [hT_new, if_pos hz0.symm]
  have ms := MS_mk ta (by rw [hz_new, hz0])
  have v : ∀ i, hV H o i = 0 := fun i => by
    rw [eV _ (by omega), (mk_old o mrows (hnew h 22 40) o (by rw [hz_new]; omega)).2.1, hV_new, if_pos hz0.symm]
  refine ⟨⟨by rw [eT _ (by omega)]; exact ms.1, fun j k n f e => ?_⟩, ⟨v 2, ?_⟩, ⟨v 7, ?_⟩, ⟨v 10, ?_⟩, ⟨v 17, ?_⟩⟩
  · have hj : j < 31 := by
      rcases Nat.lt_or_ge j 31 with q | q
      · exact q
      · rw [List.getElem?_eq_none (by have : mrows.length = 31 := rfl; omega)] at e
        cases e
    rw [eT _ (by omega), eR _ (by omega)]
    exact ms.2 j k n f e
  all_goals (intro i hi; exact absurd hi (Nat.not_lt_zero _))
/-- what stands at each turn of the law's loop: n calls are done -/
def LI (w : aW) (h0 : aH) (b L c n : Nat) (H : aH) (S : aS) : Prop := (IX w H c S ∧ IM H (c + 34) S ∧ OkS S) ∧ (hT H (c + 66) = (2, 1) ∧ hT H b = (6, L) ∧ b < c) ∧ (∀ j, hV H b j = hV h0 b j) ∧ hz H ≤ hz h0 + 67 + 1001 * n ∧ hs H + tmC H c ≤ hs h0 + 200000 + 6506 * n
theorem KX.b {H H1 : aH} {b c : Nat} (k : KX H H1 c) (hb : b < c) (hc : c ≤ hz H) : hT H1 b = hT H b ∧ ∀ j, hV H1 b j = hV H b j := ⟨k.2.2.1 b (by omega), fun j => by rw [(k.2.2.2 b (by omega) (Or.inl hb)).2]⟩
theorem li_g {x y z a b q e : Nat} (h1 : y ≤ x + a) (h2 : x ≤ z + b + q) (h3 : a ≤ e) : y ≤ z + b + (q + e) := by omega
theorem li_z {x y z n : Nat} (h1 : y ≤ x + 1000) (h2 : x ≤ z + 67 + 1001 * n) : y ≤ z + 67 + 1001 * (n + 1) := by
  rw [Nat.mul_add]
  exact li_g h1 h2 (Nat.le_of_ble_eq_true rfl)
theorem li_t {x t y u z a b q e : Nat} (h1 : y + u ≤ x + a + t) (h2 : x + t ≤ z + b + q) (h3 : a ≤ e) : y + u ≤ z + b + (q + e) := by omega
theorem li_s {x t y u z n : Nat} (h1 : y + u ≤ x + 6500 + t) (h2 : x + t ≤ z + 200000 + 6506 * n) : y + u ≤ z + 200000 + 6506 * (n + 1) := by
  rw [Nat.mul_add]
  exact li_t h1 h2 (Nat.le_of_ble_eq_true rfl)
theorem LI.next {w : aW} {h0 : aH} {b L c n : Nat} {H H1 H2 : aH} {S S2 : aS} (li : LI w h0 b L c n H S) (x1 : IX w H1 c S2) (k1 : KX H H1 c) (m2 : IM H2 (c + 34) S2) (o2 : KO H1 H2 (c + 34)) (ok2 : OkS S2) : LI w h0 b L c (n + 1) H2 S2 := by
  obtain ⟨⟨x, m, ok⟩, ⟨t1, t2, hb⟩, hv, hz1, hs1⟩ := li
  have hcz := x.cz
  have x2 := x1.ko o2
  obtain ⟨V1, rfl, f⟩ := o2
  have kb := k1.b hb (by omega)
  obtain ⟨⟨k1a, k1b⟩, k2, k3, k4⟩ := k1
  refine ⟨⟨x2, m2, ok2⟩, ⟨?_, ?_, hb⟩, fun j => ?_, ?_, ?_⟩
  · show hT H1 (c + 66) = _
    rw [k3 _ (by omega)]
    exact t1
  · show hT H1 b = _
    rw [kb.1]
    exact t2
  · show V1 b j = _
    rw [f b (by omega), kb.2 j]
    exact hv j
  · exact li_z k1b hz1
  · exact li_s k2 hs1
/-- the law up to its loop -/
theorem law_begin {w : aW} {h0 : aH} {b L : Nat} {Q : Option aV → aH → Prop} (st : Start w h0 b L) (K : ∀ H, LI w h0 b L (hz h0) 0 H S00 → Wk w 1000 cd_L_law 23 [(4, aI 0), (3, aO (some (hz h0 + 66))), (2, aO (some (hz h0 + 34))), (1, aO (some (hz h0))), (0, aO (some b))] [] H Q) : Wk w 1000 cd_L_law 0 [(0, aO (some b))] [] h0 Q := by
  obtain ⟨tb, tx, tz, hb, hwz, hr⟩ := st
  have e0 : Xs h0 h0 (hz h0) 0 0 (hs h0) := ⟨rfl, fun j hj => absurd hj (Nat.not_lt_zero _), fun j hj => absurd hj (Nat.not_lt_zero _), fun j hj => absurd hj (Nat.not_lt_zero _), fun j hj => absurd hj (Nat.not_lt_zero _), fun b hb => ⟨rfl, fun _ => rfl, fun _ => rfl⟩, rfl⟩
  have e1 : Xs h0 (hnew h0 21 8) (hz h0) 1 0 (hs h0 + 8) := e0.new rfl
  refine g_new rfl ?_
  refine g_hp (h2 := hnew h0 21 8) rfl ?_
  refine g_dup rfl rfl ?_
  refine g_callIN [] [aO (some (hz h0))] rfl (by decide) rfl rfl rfl (Nat.le_of_ble_eq_true rfl) (by rw [hT_new, if_pos rfl]) (k_PlainGeometry (by omega) e1) ?_
  rintro H1 ⟨x, te, tb1, tk⟩
  have z1 : hz H1 = hz h0 + 34 := x.1
  refine g_astore_n (l1 := [(1, aO (some (hz h0))), (0, aO (some b))]) rfl rfl ?_
  refine g_new rfl ?_
  refine g_hp (h2 := hnew H1 22 40) rfl ?_
  refine g_dup rfl rfl ?_
  refine g_callIN [] [aO (some (hz H1))] rfl (by decide) rfl rfl rfl (Nat.le_of_ble_eq_true rfl) (by rw [hT_new, if_pos rfl]) (k_Model (by omega) (by rw [hT_new, if_pos rfl]) (by rw [hz_new]; omega)) ?_
  rintro _ rfl
  refine g_astore_n (l1 := [(2, aO (some (hz H1))), (1, aO (some (hz h0))), (0, aO (some b))]) rfl rfl ?_
  refine g_iconst rfl ?_
  refine g_newarray (m := 1) rfl (by omega) (by omega) rfl ?_
  refine g_astore_n (l1 := [(3, aO (some (hz (mk (hnew H1 22 40) (hz H1) mrows)))), (2, aO (some (hz H1))), (1, aO (some (hz h0))), (0, aO (some b))]) rfl rfl ?_
  refine g_iconst rfl ?_
  refine g_istore (l1 := [(4, aI 0), (3, aO (some (hz (mk (hnew H1 22 40) (hz H1) mrows)))), (2, aO (some (hz H1))), (1, aO (some (hz h0))), (0, aO (some b))]) rfl rfl ?_
  have z3 : hz (mk (hnew H1 22 40) (hz H1) mrows) = hz h0 + 66 := by
    rw [mk_hz, hz_new, z1]
    show hz h0 + 34 + 1 + 31 = hz h0 + 66
    omega
  rw [z3]
  rw [z1] at z3 ⊢
  obtain ⟨H3, e3⟩ : ∃ z, z = mk (hnew H1 22 40) (hz h0 + 34) mrows := ⟨_, rfl⟩
  rw [← e3] at z3 ⊢
  have old : ∀ a < hz h0 + 34, hT (hnew H3 2 1) a = hT H1 a ∧ hR (hnew H3 2 1) a = hR H1 a ∧ hV (hnew H3 2 1) a = hV H1 a := fun a ha => by
    obtain ⟨p1, p2, p3⟩ := mk_old (hz h0 + 34) mrows (hnew H1 22 40) a (by rw [hz_new]; omega)
    rw [← e3] at p1 p2 p3
    refine ⟨?_, ?_, ?_⟩
    · rw [hT_new, if_neg (by omega), p1, hT_new, if_neg (by omega)]
    · funext j
      rw [hR_new, if_neg (by omega), p3 (by omega) j, hR_new, if_neg (by omega)]
    · funext j
      rw [hV_new, if_neg (by omega), p2 j, hV_new, if_neg (by omega)]
  have eb : hT (hnew H3 2 1) b = hT h0 b ∧ ∀ j, hV (hnew H3 2 1) b j = hV h0 b j := by
    obtain ⟨q1, q2, -⟩ := x.2.2.2.2.2.1 b hb
    obtain ⟨p1, -, p3⟩ := old b (by omega)
    exact ⟨by rw [p1, q1], fun j => by rw [p3, q2 j]⟩
  refine K (hnew H3 2 1) ⟨⟨?_, ?_, ok_S00⟩, ⟨?_, ?_, hb⟩, eb.2, ?_, ?_⟩
  · exact start_IX x te tb1 tk (by rw [hz_new]; omega) (fun a ha => (old a ha).1) (fun a ha => (old a ha).2.1) (fun a ha => (old a ha).2.2) (fun i hi => ⟨hwz i hi, tx i hi⟩)
  · refine start_IM (h := H1) z1 (fun a ha => ?_) (fun a ha => ?_) (fun a ha => ?_)
    · rw [hT_new, if_neg (by omega), e3]
    · funext j
      rw [hR_new, if_neg (by omega), e3]
    · funext j
      rw [hV_new, if_neg (by omega), e3]
  · rw [hT_new, if_pos z3.symm]
  · rw [eb.1]
    exact tb
  · rw [hz_new]
    omega
  · have s1 : hs H1 = hs h0 + 8 + 4442 := x.2.2.2.2.2.2
    have s3 : hs H3 = hs H1 + 40 + 118436 := by
      rw [e3, mk_hs, hs_new]
      rfl
    have s4 : tmC (hnew H3 2 1) (hz h0) ≤ 13122 := by
      unfold tmC
      split <;> omega
    rw [hs_new]
    omega
