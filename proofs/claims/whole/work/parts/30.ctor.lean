/-! constructors: printed by wip/whole/s30.py -/
theorem k_Whole {w : aW} {d : Nat} (hd : 1 ≤ d) {h : aH} {a : Nat} (ta : (hT h a).1 = 20) (ha : a < hz h) : WP w d 198 [aO (some a)] h (RN (fun h1 => h1 = hput (hnew h 1 12) a 0 (some (hz h)))) := by
  obtain ⟨d, rfl⟩ : ∃ d1, d = d1 + 1 := ⟨d - 1, by omega⟩
  refine WP.enter (cd := cd_X10_init) rfl ?_
  have hls : largs 0 [aO (some a)] = [(0, aO (some a))] := rfl
  rw [hls]
  clear hls
  refine g_aload_n rfl rfl ?_
  refine g_oinit rfl (Nat.le_of_ble_eq_true rfl) ?_
  refine g_aload_n rfl rfl ?_
  refine g_bipush rfl ?_
  refine g_newarray (m := 12) rfl (by omega) (by omega) (by rfl) ?_
  refine g_putR rfl (by (repeat (first | rw [hT_put] | rw [hT_set] | rw [hT_new, if_neg (by (try simp only [hz_put, hz_set, hz_new]); omega)])); exact ta) ?_
  refine g_vret rfl ?_
  rfl
theorem k_Triple {w : aW} {d : Nat} (hd : 1 ≤ d) {h : aH} {a : Nat} (ta : (hT h a).1 = 19) (ha : a < hz h) (x y z : Nat) : WP w d 197 [aO (some a), aO (some x), aO (some y), aO (some z)] h (RN (fun h1 => h1 = hput (hput (hput h a 0 (some x)) a 1 (some y)) a 2 (some z))) := by
  obtain ⟨d, rfl⟩ : ∃ d1, d = d1 + 1 := ⟨d - 1, by omega⟩
  refine WP.enter (cd := cd_X9_init) rfl ?_
  have hls : largs 0 [aO (some a), aO (some x), aO (some y), aO (some z)] = [(0, aO (some a)), (1, aO (some x)), (2, aO (some y)), (3, aO (some z))] := rfl
  rw [hls]
  clear hls
  refine g_aload_n rfl rfl ?_
  refine g_oinit rfl (Nat.le_of_ble_eq_true rfl) ?_
  refine g_aload_n rfl rfl ?_
  refine g_aload_n rfl rfl ?_
  refine g_putR rfl (by (repeat (first | rw [hT_put] | rw [hT_set] | rw [hT_new, if_neg (by (try simp only [hz_put, hz_set, hz_new]); omega)])); exact ta) ?_
  refine g_aload_n rfl rfl ?_
  refine g_aload_n rfl rfl ?_
  refine g_putR rfl (by (repeat (first | rw [hT_put] | rw [hT_set] | rw [hT_new, if_neg (by (try simp only [hz_put, hz_set, hz_new]); omega)])); exact ta) ?_
  refine g_aload_n rfl rfl ?_
  refine g_aload_n rfl rfl ?_
  refine g_putR rfl (by (repeat (first | rw [hT_put] | rw [hT_set] | rw [hT_new, if_neg (by (try simp only [hz_put, hz_set, hz_new]); omega)])); exact ta) ?_
  refine g_vret rfl ?_
  rfl
theorem k_Ring {w : aW} {d : Nat} (hd : 1 ≤ d) {h : aH} {a : Nat} (ta : (hT h a).1 = 15) (ha : a < hz h) (x y z u : Nat) : WP w d 142 [aO (some a), aO (some x), aO (some y), aO (some z), aO (some u)] h (RN (fun h1 => h1 = hput (hput (hput (hput h a 0 (some x)) a 1 (some y)) a 2 (some z)) a 3 (some u))) := by
  obtain ⟨d, rfl⟩ : ∃ d1, d = d1 + 1 := ⟨d - 1, by omega⟩
  refine WP.enter (cd := cd_X5_init) rfl ?_
  have hls : largs 0 [aO (some a), aO (some x), aO (some y), aO (some z), aO (some u)] = [(0, aO (some a)), (1, aO (some x)), (2, aO (some y)), (3, aO (some z)), (4, aO (some u))] := rfl
  rw [hls]
  clear hls
  refine g_aload_n rfl rfl ?_
  refine g_oinit rfl (Nat.le_of_ble_eq_true rfl) ?_
  refine g_aload_n rfl rfl ?_
  refine g_aload_n rfl rfl ?_
  refine g_putR rfl (by (repeat (first | rw [hT_put] | rw [hT_set] | rw [hT_new, if_neg (by (try simp only [hz_put, hz_set, hz_new]); omega)])); exact ta) ?_
  refine g_aload_n rfl rfl ?_
  refine g_aload_n rfl rfl ?_
  refine g_putR rfl (by (repeat (first | rw [hT_put] | rw [hT_set] | rw [hT_new, if_neg (by (try simp only [hz_put, hz_set, hz_new]); omega)])); exact ta) ?_
  refine g_aload_n rfl rfl ?_
  refine g_aload_n rfl rfl ?_
  refine g_putR rfl (by (repeat (first | rw [hT_put] | rw [hT_set] | rw [hT_new, if_neg (by (try simp only [hz_put, hz_set, hz_new]); omega)])); exact ta) ?_
  refine g_aload_n rfl rfl ?_
  refine g_aload rfl rfl ?_
  refine g_putR rfl (by (repeat (first | rw [hT_put] | rw [hT_set] | rw [hT_new, if_neg (by (try simp only [hz_put, hz_set, hz_new]); omega)])); exact ta) ?_
  refine g_vret rfl ?_
  rfl
theorem k_Sums {w : aW} {d : Nat} (hd : 1 ≤ d) {h : aH} {a : Nat} (ta : (hT h a).1 = 17) (ha : a < hz h) : WP w d 157 [aO (some a)] h (RN (fun h1 => h1 = hset (hput (hnew h 4 400) a 0 (some (hz h))) a 1 0)) := by
  obtain ⟨d, rfl⟩ : ∃ d1, d = d1 + 1 := ⟨d - 1, by omega⟩
  refine WP.enter (cd := cd_X7_init) rfl ?_
  have hls : largs 0 [aO (some a)] = [(0, aO (some a))] := rfl
  rw [hls]
  clear hls
  refine g_aload_n rfl rfl ?_
  refine g_oinit rfl (Nat.le_of_ble_eq_true rfl) ?_
  refine g_aload_n rfl rfl ?_
  refine g_sipush rfl ?_
  refine g_anewarray (m := 400) rfl (by omega) (by omega) (by rfl) ?_
  refine g_putR rfl (by (repeat (first | rw [hT_put] | rw [hT_set] | rw [hT_new, if_neg (by (try simp only [hz_put, hz_set, hz_new]); omega)])); exact ta) ?_
  refine g_aload_n rfl rfl ?_
  refine g_iconst rfl ?_
  refine g_putI rfl (by (repeat (first | rw [hT_put] | rw [hT_set] | rw [hT_new, if_neg (by (try simp only [hz_put, hz_set, hz_new]); omega)])); exact ta) ?_
  refine g_vret rfl ?_
  rfl
theorem k_Numbers {w : aW} {d : Nat} (hd : 1 ≤ d) {h : aH} {a : Nat} (ta : (hT h a).1 = 11) (ha : a < hz h) : WP w d 19 [aO (some a)] h (RN (fun h1 => h1 = hset (hset (hset (hput (hnew (hput (hnew h 2 200) a 0 (some (hz h))) 2 200) a 1 (some (hz h + 1))) a 2 0) a 3 0) a 4 1)) := by
  obtain ⟨d, rfl⟩ : ∃ d1, d = d1 + 1 := ⟨d - 1, by omega⟩
  refine WP.enter (cd := cd_X1_init) rfl ?_
  have hls : largs 0 [aO (some a)] = [(0, aO (some a))] := rfl
  rw [hls]
  clear hls
  refine g_aload_n rfl rfl ?_
  refine g_oinit rfl (Nat.le_of_ble_eq_true rfl) ?_
  refine g_aload_n rfl rfl ?_
  refine g_sipush rfl ?_
  refine g_newarray (m := 200) rfl (by omega) (by omega) (by rfl) ?_
  refine g_putR rfl (by (repeat (first | rw [hT_put] | rw [hT_set] | rw [hT_new, if_neg (by (try simp only [hz_put, hz_set, hz_new]); omega)])); exact ta) ?_
  refine g_aload_n rfl rfl ?_
  refine g_sipush rfl ?_
  refine g_newarray (m := 200) rfl (by omega) (by omega) (by rfl) ?_
  refine g_putR rfl (by (repeat (first | rw [hT_put] | rw [hT_set] | rw [hT_new, if_neg (by (try simp only [hz_put, hz_set, hz_new]); omega)])); exact ta) ?_
  refine g_aload_n rfl rfl ?_
  refine g_iconst rfl ?_
  refine g_putI rfl (by (repeat (first | rw [hT_put] | rw [hT_set] | rw [hT_new, if_neg (by (try simp only [hz_put, hz_set, hz_new]); omega)])); exact ta) ?_
  refine g_aload_n rfl rfl ?_
  refine g_lconst0 rfl ?_
  refine g_putJ rfl (by (repeat (first | rw [hT_put] | rw [hT_set] | rw [hT_new, if_neg (by (try simp only [hz_put, hz_set, hz_new]); omega)])); exact ta) ?_
  refine g_aload_n rfl rfl ?_
  refine g_lconst1 rfl ?_
  refine g_putJ rfl (by (repeat (first | rw [hT_put] | rw [hT_set] | rw [hT_new, if_neg (by (try simp only [hz_put, hz_set, hz_new]); omega)])); exact ta) ?_
  refine g_vret rfl ?_
  rfl
theorem k_Plane {w : aW} {d : Nat} (hd : 1 ≤ d) {h : aH} {a : Nat} (ta : (hT h a).1 = 12) (ha : a < hz h) (x : Nat) : WP w d 38 [aO (some a), aO (some x)] h (RN (fun h1 => h1 = hput h a 0 (some x))) := by
  obtain ⟨d, rfl⟩ : ∃ d1, d = d1 + 1 := ⟨d - 1, by omega⟩
  refine WP.enter (cd := cd_X2_init) rfl ?_
  have hls : largs 0 [aO (some a), aO (some x)] = [(0, aO (some a)), (1, aO (some x))] := rfl
  rw [hls]
  clear hls
  refine g_aload_n rfl rfl ?_
  refine g_oinit rfl (Nat.le_of_ble_eq_true rfl) ?_
  refine g_aload_n rfl rfl ?_
  refine g_aload_n rfl rfl ?_
  refine g_putR rfl (by (repeat (first | rw [hT_put] | rw [hT_set] | rw [hT_new, if_neg (by (try simp only [hz_put, hz_set, hz_new]); omega)])); exact ta) ?_
  refine g_vret rfl ?_
  rfl
theorem k_Things {w : aW} {d : Nat} (hd : 1 ≤ d) {h : aH} {a : Nat} (ta : (hT h a).1 = 18) (ha : a < hz h) (x y : Nat) : WP w d 188 [aO (some a), aO (some x), aO (some y)] h (RN (fun h1 => h1 = hset (hput (hnew (hput (hnew (hput (hput h a 0 (some x)) a 1 (some y)) 1 100) a 2 (some (hz h))) 2 400) a 3 (some (hz h + 1))) a 4 0)) := by
  obtain ⟨d, rfl⟩ : ∃ d1, d = d1 + 1 := ⟨d - 1, by omega⟩
  refine WP.enter (cd := cd_X8_init) rfl ?_
  have hls : largs 0 [aO (some a), aO (some x), aO (some y)] = [(0, aO (some a)), (1, aO (some x)), (2, aO (some y))] := rfl
  rw [hls]
  clear hls
  refine g_aload_n rfl rfl ?_
  refine g_oinit rfl (Nat.le_of_ble_eq_true rfl) ?_
  refine g_aload_n rfl rfl ?_
  refine g_aload_n rfl rfl ?_
  refine g_putR rfl (by (repeat (first | rw [hT_put] | rw [hT_set] | rw [hT_new, if_neg (by (try simp only [hz_put, hz_set, hz_new]); omega)])); exact ta) ?_
  refine g_aload_n rfl rfl ?_
  refine g_aload_n rfl rfl ?_
  refine g_putR rfl (by (repeat (first | rw [hT_put] | rw [hT_set] | rw [hT_new, if_neg (by (try simp only [hz_put, hz_set, hz_new]); omega)])); exact ta) ?_
  refine g_aload_n rfl rfl ?_
  refine g_bipush rfl ?_
  refine g_newarray (m := 100) rfl (by omega) (by omega) (by rfl) ?_
  refine g_putR rfl (by (repeat (first | rw [hT_put] | rw [hT_set] | rw [hT_new, if_neg (by (try simp only [hz_put, hz_set, hz_new]); omega)])); exact ta) ?_
  refine g_aload_n rfl rfl ?_
  refine g_sipush rfl ?_
  refine g_newarray (m := 400) rfl (by omega) (by omega) (by rfl) ?_
  refine g_putR rfl (by (repeat (first | rw [hT_put] | rw [hT_set] | rw [hT_new, if_neg (by (try simp only [hz_put, hz_set, hz_new]); omega)])); exact ta) ?_
  refine g_aload_n rfl rfl ?_
  refine g_iconst rfl ?_
  refine g_putI rfl (by (repeat (first | rw [hT_put] | rw [hT_set] | rw [hT_new, if_neg (by (try simp only [hz_put, hz_set, hz_new]); omega)])); exact ta) ?_
  refine g_vret rfl ?_
  rfl
theorem k_Statements {w : aW} {d : Nat} (hd : 1 ≤ d) {h : aH} {a : Nat} (ta : (hT h a).1 = 16) (ha : a < hz h) (x y z : Nat) : WP w d 143 [aO (some a), aO (some x), aO (some y), aO (some z)] h (RN (fun h1 => h1 = hput (hput (hput h a 0 (some x)) a 1 (some y)) a 2 (some z))) := by
  obtain ⟨d, rfl⟩ : ∃ d1, d = d1 + 1 := ⟨d - 1, by omega⟩
  refine WP.enter (cd := cd_X6_init) rfl ?_
  have hls : largs 0 [aO (some a), aO (some x), aO (some y), aO (some z)] = [(0, aO (some a)), (1, aO (some x)), (2, aO (some y)), (3, aO (some z))] := rfl
  rw [hls]
  clear hls
  refine g_aload_n rfl rfl ?_
  refine g_oinit rfl (Nat.le_of_ble_eq_true rfl) ?_
  refine g_aload_n rfl rfl ?_
  refine g_aload_n rfl rfl ?_
  refine g_putR rfl (by (repeat (first | rw [hT_put] | rw [hT_set] | rw [hT_new, if_neg (by (try simp only [hz_put, hz_set, hz_new]); omega)])); exact ta) ?_
  refine g_aload_n rfl rfl ?_
  refine g_aload_n rfl rfl ?_
  refine g_putR rfl (by (repeat (first | rw [hT_put] | rw [hT_set] | rw [hT_new, if_neg (by (try simp only [hz_put, hz_set, hz_new]); omega)])); exact ta) ?_
  refine g_aload_n rfl rfl ?_
  refine g_aload_n rfl rfl ?_
  refine g_putR rfl (by (repeat (first | rw [hT_put] | rw [hT_set] | rw [hT_new, if_neg (by (try simp only [hz_put, hz_set, hz_new]); omega)])); exact ta) ?_
  refine g_vret rfl ?_
  rfl
theorem k_Polygons {w : aW} {d : Nat} (hd : 1 ≤ d) {h : aH} {a : Nat} (ta : (hT h a).1 = 13) (ha : a < hz h) : WP w d 87 [aO (some a)] h (RN (fun h1 => h1 = hset (hput (hnew (hput (hnew (hput (hnew (hput (hnew (hput (hnew h 1 144) a 0 (some (hz h))) 1 144) a 1 (some (hz h + 1))) 1 12) a 2 (some (hz h + 2))) 1 12) a 3 (some (hz h + 3))) 2 144) a 4 (some (hz h + 4))) a 5 0)) := by
  obtain ⟨d, rfl⟩ : ∃ d1, d = d1 + 1 := ⟨d - 1, by omega⟩
  refine WP.enter (cd := cd_X3_init) rfl ?_
  have hls : largs 0 [aO (some a)] = [(0, aO (some a))] := rfl
  rw [hls]
  clear hls
  refine g_aload_n rfl rfl ?_
  refine g_oinit rfl (Nat.le_of_ble_eq_true rfl) ?_
  refine g_aload_n rfl rfl ?_
  refine g_sipush rfl ?_
  refine g_newarray (m := 144) rfl (by omega) (by omega) (by rfl) ?_
  refine g_putR rfl (by (repeat (first | rw [hT_put] | rw [hT_set] | rw [hT_new, if_neg (by (try simp only [hz_put, hz_set, hz_new]); omega)])); exact ta) ?_
  refine g_aload_n rfl rfl ?_
  refine g_sipush rfl ?_
  refine g_newarray (m := 144) rfl (by omega) (by omega) (by rfl) ?_
  refine g_putR rfl (by (repeat (first | rw [hT_put] | rw [hT_set] | rw [hT_new, if_neg (by (try simp only [hz_put, hz_set, hz_new]); omega)])); exact ta) ?_
  refine g_aload_n rfl rfl ?_
  refine g_bipush rfl ?_
  refine g_newarray (m := 12) rfl (by omega) (by omega) (by rfl) ?_
  refine g_putR rfl (by (repeat (first | rw [hT_put] | rw [hT_set] | rw [hT_new, if_neg (by (try simp only [hz_put, hz_set, hz_new]); omega)])); exact ta) ?_
  refine g_aload_n rfl rfl ?_
  refine g_bipush rfl ?_
  refine g_newarray (m := 12) rfl (by omega) (by omega) (by rfl) ?_
  refine g_putR rfl (by (repeat (first | rw [hT_put] | rw [hT_set] | rw [hT_new, if_neg (by (try simp only [hz_put, hz_set, hz_new]); omega)])); exact ta) ?_
  refine g_aload_n rfl rfl ?_
  refine g_sipush rfl ?_
  refine g_newarray (m := 144) rfl (by omega) (by omega) (by rfl) ?_
  refine g_putR rfl (by (repeat (first | rw [hT_put] | rw [hT_set] | rw [hT_new, if_neg (by (try simp only [hz_put, hz_set, hz_new]); omega)])); exact ta) ?_
  refine g_aload_n rfl rfl ?_
  refine g_iconst rfl ?_
  refine g_putI rfl (by (repeat (first | rw [hT_put] | rw [hT_set] | rw [hT_new, if_neg (by (try simp only [hz_put, hz_set, hz_new]); omega)])); exact ta) ?_
  refine g_vret rfl ?_
  rfl
