/-! the class's own constructor, walked: printed by wip/whole/s36.py -/
theorem k_PlainGeometry {w : aW} {d : Nat} (hd : 2 ≤ d) {h0 h : aH} {c s0 : Nat} (x0 : Xs h0 h c 1 0 s0) : WP w d 199 [aO (some c)] h (RN (fun h1 => Xs h0 h1 c 34 39 (s0 + 4442) ∧ (∀ t < 286, hV h1 (c + 18) t = (pE t).1 ∧ hV h1 (c + 19) t = (pE t).2.1 ∧ hV h1 (c + 20) t = (pE t).2.2) ∧ (∀ i1 j1 : Nat, i1 + j1 ≤ 10 → hV h1 (c + 21) (11 * i1 + j1) = pB i1 j1) ∧ ∀ t < 32, hV h1 (c + 33) t = -1)) := by
  obtain ⟨d, rfl⟩ : ∃ d1, d = d1 + 1 := ⟨d - 1, by omega⟩
  refine WP.enter (cd := cd_X11_init) rfl ?_
  have hls : largs 0 [aO (some c)] = [(0, aO (some c))] := rfl
  rw [hls]
  clear hls
  refine g_aload_n rfl rfl ?_
  refine g_oinit rfl (Nat.le_of_ble_eq_true rfl) ?_
  refine g_aload_n rfl rfl ?_
  refine g_new rfl ?_
  rw [x0.1]
  obtain ⟨h1, e1⟩ : ∃ h1, h1 = hnew h 17 2 := ⟨_, rfl⟩
  have x1 : Xs h0 h1 c 2 0 (s0 + 2) := by rw [e1]; exact x0.new rfl
  rw [← e1]
  refine g_dup rfl rfl ?_
  refine g_callIN [] [aO (some (c + 1)), aO (some c)] rfl (by decide) rfl rfl rfl (Nat.le_of_ble_eq_true rfl) (x1.kind 1 (by omega) rfl) (k_Sums (by omega) (x1.kind 1 (by omega) rfl) (by rw [x1.1]; omega)) ?_
  rintro h2 e2
  have x2 : Xs h0 h2 c 3 1 (s0 + 2 + 400) := by rw [e2]; exact (((x1).new rfl).put (o := 1) (by omega) rfl (by omega) rfl (by simp only [hz_set, hz_put, hz_new, x1.1])).set (o := 1) rfl (by first | exact Or.inl rfl | exact Or.inr rfl)
  refine g_putR rfl (x2.kind 0 (by omega) rfl) ?_
  obtain ⟨h3, e3⟩ : ∃ h3, h3 = hput h2 c 0 (some (c + 1)) := ⟨_, rfl⟩
  have x3 : Xs h0 h3 c 3 2 (s0 + 2 + 400) := by rw [e3]; exact x2.put (o := 0) (by omega) rfl (by omega) rfl rfl
  rw [← e3]
  refine g_aload_n rfl rfl ?_
  refine g_new rfl ?_
  rw [x3.1]
  obtain ⟨h4, e4⟩ : ∃ h4, h4 = hnew h3 11 5 := ⟨_, rfl⟩
  have x4 : Xs h0 h4 c 4 2 (s0 + 2 + 400 + 5) := by rw [e4]; exact x3.new rfl
  rw [← e4]
  refine g_dup rfl rfl ?_
  refine g_callIN [] [aO (some (c + 3)), aO (some c)] rfl (by decide) rfl rfl rfl (Nat.le_of_ble_eq_true rfl) (x4.kind 3 (by omega) rfl) (k_Numbers (by omega) (x4.kind 3 (by omega) rfl) (by rw [x4.1]; omega)) ?_
  rintro h5 e5
  have x5 : Xs h0 h5 c 6 4 (s0 + 2 + 400 + 5 + 400) := by rw [e5]; exact (((((((x4).new rfl).put (o := 3) (by omega) rfl (by omega) rfl (by simp only [hz_set, hz_put, hz_new, x4.1])).new rfl).put (o := 3) (by omega) rfl (by omega) rfl (by simp only [hz_set, hz_put, hz_new, x4.1])).set (o := 3) rfl (by first | exact Or.inl rfl | exact Or.inr rfl)).set (o := 3) rfl (by first | exact Or.inl rfl | exact Or.inr rfl)).set (o := 3) rfl (by first | exact Or.inl rfl | exact Or.inr rfl)
  refine g_putR rfl (x5.kind 0 (by omega) rfl) ?_
  obtain ⟨h6, e6⟩ : ∃ h6, h6 = hput h5 c 1 (some (c + 3)) := ⟨_, rfl⟩
  have x6 : Xs h0 h6 c 6 5 (s0 + 2 + 400 + 5 + 400) := by rw [e6]; exact x5.put (o := 0) (by omega) rfl (by omega) rfl rfl
  rw [← e6]
  refine g_aload_n rfl rfl ?_
  refine g_new rfl ?_
  rw [x6.1]
  obtain ⟨h7, e7⟩ : ∃ h7, h7 = hnew h6 12 1 := ⟨_, rfl⟩
  have x7 : Xs h0 h7 c 7 5 (s0 + 2 + 400 + 5 + 400 + 1) := by rw [e7]; exact x6.new rfl
  rw [← e7]
  refine g_dup rfl rfl ?_
  refine g_aload_n rfl rfl ?_
  refine g_getR rfl (x7.kind 0 (by omega) rfl) (x7.ref 1 (by omega) rfl) ?_
  refine g_callIN [aO (some (c + 1))] [aO (some (c + 6)), aO (some c)] rfl (by decide) rfl rfl rfl (Nat.le_of_ble_eq_true rfl) (x7.kind 6 (by omega) rfl) (k_Plane (by omega) (x7.kind 6 (by omega) rfl) (by rw [x7.1]; omega) (c + 1)) ?_
  rintro h8 e8
  have x8 : Xs h0 h8 c 7 6 (s0 + 2 + 400 + 5 + 400 + 1) := by rw [e8]; exact (x7).put (o := 6) (by omega) rfl (by omega) rfl (by rfl)
  refine g_putR rfl (x8.kind 0 (by omega) rfl) ?_
  obtain ⟨h9, e9⟩ : ∃ h9, h9 = hput h8 c 2 (some (c + 6)) := ⟨_, rfl⟩
  have x9 : Xs h0 h9 c 7 7 (s0 + 2 + 400 + 5 + 400 + 1) := by rw [e9]; exact x8.put (o := 0) (by omega) rfl (by omega) rfl rfl
  rw [← e9]
  refine g_aload_n rfl rfl ?_
  refine g_new rfl ?_
  rw [x9.1]
  obtain ⟨h10, e10⟩ : ∃ h10, h10 = hnew h9 18 5 := ⟨_, rfl⟩
  have x10 : Xs h0 h10 c 8 7 (s0 + 2 + 400 + 5 + 400 + 1 + 5) := by rw [e10]; exact x9.new rfl
  rw [← e10]
  refine g_dup rfl rfl ?_
  refine g_aload_n rfl rfl ?_
  refine g_getR rfl (x10.kind 0 (by omega) rfl) (x10.ref 1 (by omega) rfl) ?_
  refine g_aload_n rfl rfl ?_
  refine g_getR rfl (x10.kind 0 (by omega) rfl) (x10.ref 6 (by omega) rfl) ?_
  refine g_callIN [aO (some (c + 1)), aO (some (c + 6))] [aO (some (c + 7)), aO (some c)] rfl (by decide) rfl rfl rfl (Nat.le_of_ble_eq_true rfl) (x10.kind 7 (by omega) rfl) (k_Things (by omega) (x10.kind 7 (by omega) rfl) (by rw [x10.1]; omega) (c + 1) (c + 6)) ?_
  rintro h11 e11
  have x11 : Xs h0 h11 c 10 11 (s0 + 2 + 400 + 5 + 400 + 1 + 5 + 500) := by rw [e11]; exact (((((((x10).put (o := 7) (by omega) rfl (by omega) rfl (by rfl)).put (o := 7) (by omega) rfl (by omega) rfl (by rfl)).new rfl).put (o := 7) (by omega) rfl (by omega) rfl (by simp only [hz_set, hz_put, hz_new, x10.1])).new rfl).put (o := 7) (by omega) rfl (by omega) rfl (by simp only [hz_set, hz_put, hz_new, x10.1])).set (o := 7) rfl (by first | exact Or.inl rfl | exact Or.inr rfl)
  refine g_putR rfl (x11.kind 0 (by omega) rfl) ?_
  obtain ⟨h12, e12⟩ : ∃ h12, h12 = hput h11 c 3 (some (c + 7)) := ⟨_, rfl⟩
  have x12 : Xs h0 h12 c 10 12 (s0 + 2 + 400 + 5 + 400 + 1 + 5 + 500) := by rw [e12]; exact x11.put (o := 0) (by omega) rfl (by omega) rfl rfl
  rw [← e12]
  refine g_aload_n rfl rfl ?_
  refine g_new rfl ?_
  rw [x12.1]
  obtain ⟨h13, e13⟩ : ∃ h13, h13 = hnew h12 16 3 := ⟨_, rfl⟩
  have x13 : Xs h0 h13 c 11 12 (s0 + 2 + 400 + 5 + 400 + 1 + 5 + 500 + 3) := by rw [e13]; exact x12.new rfl
  rw [← e13]
  refine g_dup rfl rfl ?_
  refine g_aload_n rfl rfl ?_
  refine g_getR rfl (x13.kind 0 (by omega) rfl) (x13.ref 1 (by omega) rfl) ?_
  refine g_aload_n rfl rfl ?_
  refine g_getR rfl (x13.kind 0 (by omega) rfl) (x13.ref 6 (by omega) rfl) ?_
  refine g_aload_n rfl rfl ?_
  refine g_getR rfl (x13.kind 0 (by omega) rfl) (x13.ref 11 (by omega) rfl) ?_
  refine g_callIN [aO (some (c + 1)), aO (some (c + 6)), aO (some (c + 7))] [aO (some (c + 10)), aO (some c)] rfl (by decide) rfl rfl rfl (Nat.le_of_ble_eq_true rfl) (x13.kind 10 (by omega) rfl) (k_Statements (by omega) (x13.kind 10 (by omega) rfl) (by rw [x13.1]; omega) (c + 1) (c + 6) (c + 7)) ?_
  rintro h14 e14
  have x14 : Xs h0 h14 c 11 15 (s0 + 2 + 400 + 5 + 400 + 1 + 5 + 500 + 3) := by rw [e14]; exact (((x13).put (o := 10) (by omega) rfl (by omega) rfl (by rfl)).put (o := 10) (by omega) rfl (by omega) rfl (by rfl)).put (o := 10) (by omega) rfl (by omega) rfl (by rfl)
  refine g_putR rfl (x14.kind 0 (by omega) rfl) ?_
  obtain ⟨h15, e15⟩ : ∃ h15, h15 = hput h14 c 4 (some (c + 10)) := ⟨_, rfl⟩
  have x15 : Xs h0 h15 c 11 16 (s0 + 2 + 400 + 5 + 400 + 1 + 5 + 500 + 3) := by rw [e15]; exact x14.put (o := 0) (by omega) rfl (by omega) rfl rfl
  rw [← e15]
  refine g_aload_n rfl rfl ?_
  refine g_new rfl ?_
  rw [x15.1]
  obtain ⟨h16, e16⟩ : ∃ h16, h16 = hnew h15 13 6 := ⟨_, rfl⟩
  have x16 : Xs h0 h16 c 12 16 (s0 + 2 + 400 + 5 + 400 + 1 + 5 + 500 + 3 + 6) := by rw [e16]; exact x15.new rfl
  rw [← e16]
  refine g_dup rfl rfl ?_
  refine g_callIN [] [aO (some (c + 11)), aO (some c)] rfl (by decide) rfl rfl rfl (Nat.le_of_ble_eq_true rfl) (x16.kind 11 (by omega) rfl) (k_Polygons (by omega) (x16.kind 11 (by omega) rfl) (by rw [x16.1]; omega) ) ?_
  rintro h17 e17
  have x17 : Xs h0 h17 c 17 21 (s0 + 2 + 400 + 5 + 400 + 1 + 5 + 500 + 3 + 6 + 456) := by rw [e17]; exact (((((((((((x16).new rfl).put (o := 11) (by omega) rfl (by omega) rfl (by simp only [hz_set, hz_put, hz_new, x16.1])).new rfl).put (o := 11) (by omega) rfl (by omega) rfl (by simp only [hz_set, hz_put, hz_new, x16.1])).new rfl).put (o := 11) (by omega) rfl (by omega) rfl (by simp only [hz_set, hz_put, hz_new, x16.1])).new rfl).put (o := 11) (by omega) rfl (by omega) rfl (by simp only [hz_set, hz_put, hz_new, x16.1])).new rfl).put (o := 11) (by omega) rfl (by omega) rfl (by simp only [hz_set, hz_put, hz_new, x16.1])).set (o := 11) rfl (by first | exact Or.inl rfl | exact Or.inr rfl)
  refine g_putR rfl (x17.kind 0 (by omega) rfl) ?_
  obtain ⟨h18, e18⟩ : ∃ h18, h18 = hput h17 c 5 (some (c + 11)) := ⟨_, rfl⟩
  have x18 : Xs h0 h18 c 17 22 (s0 + 2 + 400 + 5 + 400 + 1 + 5 + 500 + 3 + 6 + 456) := by rw [e18]; exact x17.put (o := 0) (by omega) rfl (by omega) rfl rfl
  rw [← e18]
  refine g_aload_n rfl rfl ?_
  refine g_new rfl ?_
  rw [x18.1]
  obtain ⟨h19, e19⟩ : ∃ h19, h19 = hnew h18 14 10 := ⟨_, rfl⟩
  have x19 : Xs h0 h19 c 18 22 (s0 + 2 + 400 + 5 + 400 + 1 + 5 + 500 + 3 + 6 + 456 + 10) := by rw [e19]; exact x18.new rfl
  rw [← e19]
  refine g_dup rfl rfl ?_
  refine g_callIN [] [aO (some (c + 17)), aO (some c)] rfl (by decide) rfl rfl rfl (Nat.le_of_ble_eq_true rfl) (x19.kind 17 (by omega) rfl) (k_Polynomials (by omega) (x19.kind 17 (by omega) rfl) (by rw [x19.1])) ?_
  rintro h20 ⟨V20, e20, p20⟩
  have x20 : Xs h0 h20 c 27 31 (s0 + 2 + 400 + 5 + 400 + 1 + 5 + 500 + 3 + 6 + 456 + 10 + 2183) := by
    rw [e20]
    have y := ((x19.mk (o := 17) prow rfl (by omega) (by decide)).set (o := 17) (f := 9) (v := 0) rfl (Or.inl rfl))
    refine Xs.mem y (fun b q hb => p20.2.2 b q ?_)
    rcases Nat.lt_or_ge b (c + 17 + 1) with h1 | h1
    · exact Or.inl h1
    · refine Or.inr (Nat.lt_of_not_le fun h2 => ?_)
      have h3 := hb (b - c) (by omega)
      have h4 : b - c = 18 ∨ b - c = 19 ∨ b - c = 20 ∨ b - c = 21 := by omega
      rcases h4 with h4 | h4 | h4 | h4 <;> (rw [h4] at h3; exact absurd h3 (by simp [xE]))
  refine g_putR rfl (x20.kind 0 (by omega) rfl) ?_
  obtain ⟨h21, e21⟩ : ∃ h21, h21 = hput h20 c 6 (some (c + 17)) := ⟨_, rfl⟩
  have x21 : Xs h0 h21 c 27 32 (s0 + 2 + 400 + 5 + 400 + 1 + 5 + 500 + 3 + 6 + 456 + 10 + 2183) := by rw [e21]; exact x20.put (o := 0) (by omega) rfl (by omega) rfl rfl
  rw [← e21]
  refine g_aload_n rfl rfl ?_
  refine g_new rfl ?_
  rw [x21.1]
  obtain ⟨h22, e22⟩ : ∃ h22, h22 = hnew h21 10 14 := ⟨_, rfl⟩
  have x22 : Xs h0 h22 c 28 32 (s0 + 2 + 400 + 5 + 400 + 1 + 5 + 500 + 3 + 6 + 456 + 10 + 2183 + 14) := by rw [e22]; exact x21.new rfl
  rw [← e22]
  refine g_dup rfl rfl ?_
  refine g_callIN [] [aO (some (c + 27)), aO (some c)] rfl (by decide) rfl rfl rfl (Nat.le_of_ble_eq_true rfl) (x22.kind 27 (by omega) rfl) (k_Cells (by omega) (x22.kind 27 (by omega) rfl) (by rw [x22.1])) ?_
  rintro h23 ⟨V23, e23, p23⟩
  have x23 : Xs h0 h23 c 34 38 (s0 + 2 + 400 + 5 + 400 + 1 + 5 + 500 + 3 + 6 + 456 + 10 + 2183 + 14 + 457) := by
    rw [e23]
    have y := ((x22.putn (f := 0) (o := 27) (by decide) rfl).putn (f := 1) (o := 27) (by decide) rfl).mk (o := 27) crow rfl (by omega) (by decide)
    refine Xs.mem y (fun b q hb => p23.2 b q (fun h1 => ?_))
    have h3 := hb 33 (by omega)
    exact absurd h3 (by simp [xE])
  refine g_putR rfl (x23.kind 0 (by omega) rfl) ?_
  obtain ⟨h24, e24⟩ : ∃ h24, h24 = hput h23 c 7 (some (c + 27)) := ⟨_, rfl⟩
  have x24 : Xs h0 h24 c 34 39 (s0 + 2 + 400 + 5 + 400 + 1 + 5 + 500 + 3 + 6 + 456 + 10 + 2183 + 14 + 457) := by rw [e24]; exact x23.put (o := 0) (by omega) rfl (by omega) rfl rfl
  rw [← e24]
  refine g_vret rfl ?_
  have y : ∀ b, b < c + 27 → ∀ q, hV h24 b q = V20 b q := by
    intro b hb q
    have z1 := x22.1
    have z2 := x21.1
    rw [e24, hV_put, e23, hV_hw, p23.2 b q (by omega), (mk_old (c + 27) crow (hput (hput h22 (c + 27) 0 none) (c + 27) 1 none) b (by rw [hz_put, hz_put]; omega)).2.1 q, hV_put, hV_put, e22, hV_new, if_neg (by omega), e21, hV_put, e20, hV_hw]
  refine ⟨x24, fun t ht => ?_, fun i1 j1 hij => ?_, fun t ht => ?_⟩
  · rw [y _ (by omega), y _ (by omega), y _ (by omega)]
    exact p20.1 t ht
  · rw [y _ (by omega)]
    exact p20.2.1 i1 j1 hij (by omega)
  · rw [e24, hV_put, e23, hV_hw]
    exact p23.1 t ht
