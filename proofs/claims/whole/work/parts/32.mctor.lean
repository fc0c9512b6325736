/-! the reference's constructor, the layout of its arrays: printed by wip/whole/s32.py -/
def mrows : List (Nat × Nat × Nat) := [(1, 12600, 0), (2, 200, 3), (2, 200, 4), (1, 100, 8), (1, 400, 9), (1, 12, 11), (1, 144, 12), (1, 144, 13), (1, 26, 14), (1, 12, 15), (2, 144, 16), (2, 79860, 18), (2, 1331, 19), (2, 1331, 20), (2, 1331, 21), (2, 1331, 22), (2, 6561, 23), (2, 6561, 24), (2, 3000, 25), (2, 3000, 26), (1, 8, 28), (1, 8, 29), (3, 100, 30), (1, 4, 32), (1, 4, 33), (1, 4, 34), (1, 4, 35), (1, 4, 36), (1, 4, 37), (1, 4, 38), (1, 4, 39)]
theorem mk_cons (h : aH) (o k n f : Nat) (t : List (Nat × Nat × Nat)) : mk h o ((k, n, f) :: t) = mk (hput (hnew h k n) o f (some (hz h))) o t := rfl
theorem k_Model {w : aW} {d : Nat} (hd : 1 ≤ d) {h : aH} {a : Nat} (ta : (hT h a).1 = 22) (ha : a < hz h) : WP w d 237 [aO (some a)] h (RN (fun h1 => h1 = mk h a mrows)) := by
  obtain ⟨d, rfl⟩ : ∃ d1, d = d1 + 1 := ⟨d - 1, by omega⟩
  refine WP.enter (cd := cd_X12_init) rfl ?_
  have hls : largs 0 [aO (some a)] = [(0, aO (some a))] := rfl
  rw [hls]
  clear hls
  refine g_aload_n rfl rfl ?_
  refine g_oinit rfl (Nat.le_of_ble_eq_true rfl) ?_
  refine g_aload_n rfl rfl ?_
  refine g_sipush rfl ?_
  refine g_newarray (m := 12600) rfl (by omega) (by omega) (by rfl) ?_
  refine g_putR rfl (by rw [hT_new, if_neg (by omega)]; exact ta) ?_
  obtain ⟨h1, e1⟩ : ∃ h1, h1 = hput (hnew h 1 12600) a 0 (some (hz h)) := ⟨_, rfl⟩
  refine g_hp (h2 := h1) e1.symm ?_
  have ta1 : (hT h1 a).1 = 22 := by rw [e1, hT_put, hT_new, if_neg (by omega)]; exact ta
  have ha1 : a < hz h1 := by rw [e1, hz_put, hz_new]; omega
  refine g_aload_n rfl rfl ?_
  refine g_sipush rfl ?_
  refine g_newarray (m := 200) rfl (by omega) (by omega) (by rfl) ?_
  refine g_putR rfl (by rw [hT_new, if_neg (by omega)]; exact ta1) ?_
  obtain ⟨h2, e2⟩ : ∃ h2, h2 = hput (hnew h1 2 200) a 3 (some (hz h1)) := ⟨_, rfl⟩
  refine g_hp (h2 := h2) e2.symm ?_
  have ta2 : (hT h2 a).1 = 22 := by rw [e2, hT_put, hT_new, if_neg (by omega)]; exact ta1
  have ha2 : a < hz h2 := by rw [e2, hz_put, hz_new]; omega
  refine g_aload_n rfl rfl ?_
  refine g_sipush rfl ?_
  refine g_newarray (m := 200) rfl (by omega) (by omega) (by rfl) ?_
  refine g_putR rfl (by rw [hT_new, if_neg (by omega)]; exact ta2) ?_
  obtain ⟨h3, e3⟩ : ∃ h3, h3 = hput (hnew h2 2 200) a 4 (some (hz h2)) := ⟨_, rfl⟩
  refine g_hp (h2 := h3) e3.symm ?_
  have ta3 : (hT h3 a).1 = 22 := by rw [e3, hT_put, hT_new, if_neg (by omega)]; exact ta2
  have ha3 : a < hz h3 := by rw [e3, hz_put, hz_new]; omega
  refine g_aload_n rfl rfl ?_
  refine g_bipush rfl ?_
  refine g_newarray (m := 100) rfl (by omega) (by omega) (by rfl) ?_
  refine g_putR rfl (by rw [hT_new, if_neg (by omega)]; exact ta3) ?_
  obtain ⟨h4, e4⟩ : ∃ h4, h4 = hput (hnew h3 1 100) a 8 (some (hz h3)) := ⟨_, rfl⟩
  refine g_hp (h2 := h4) e4.symm ?_
  have ta4 : (hT h4 a).1 = 22 := by rw [e4, hT_put, hT_new, if_neg (by omega)]; exact ta3
  have ha4 : a < hz h4 := by rw [e4, hz_put, hz_new]; omega
  refine g_aload_n rfl rfl ?_
  refine g_sipush rfl ?_
  refine g_newarray (m := 400) rfl (by omega) (by omega) (by rfl) ?_
  refine g_putR rfl (by rw [hT_new, if_neg (by omega)]; exact ta4) ?_
  obtain ⟨h5, e5⟩ : ∃ h5, h5 = hput (hnew h4 1 400) a 9 (some (hz h4)) := ⟨_, rfl⟩
  refine g_hp (h2 := h5) e5.symm ?_
  have ta5 : (hT h5 a).1 = 22 := by rw [e5, hT_put, hT_new, if_neg (by omega)]; exact ta4
  have ha5 : a < hz h5 := by rw [e5, hz_put, hz_new]; omega
  refine g_aload_n rfl rfl ?_
  refine g_bipush rfl ?_
  refine g_newarray (m := 12) rfl (by omega) (by omega) (by rfl) ?_
  refine g_putR rfl (by rw [hT_new, if_neg (by omega)]; exact ta5) ?_
  obtain ⟨h6, e6⟩ : ∃ h6, h6 = hput (hnew h5 1 12) a 11 (some (hz h5)) := ⟨_, rfl⟩
  refine g_hp (h2 := h6) e6.symm ?_
  have ta6 : (hT h6 a).1 = 22 := by rw [e6, hT_put, hT_new, if_neg (by omega)]; exact ta5
  have ha6 : a < hz h6 := by rw [e6, hz_put, hz_new]; omega
  refine g_aload_n rfl rfl ?_
  refine g_sipush rfl ?_
  refine g_newarray (m := 144) rfl (by omega) (by omega) (by rfl) ?_
  refine g_putR rfl (by rw [hT_new, if_neg (by omega)]; exact ta6) ?_
  obtain ⟨h7, e7⟩ : ∃ h7, h7 = hput (hnew h6 1 144) a 12 (some (hz h6)) := ⟨_, rfl⟩
  refine g_hp (h2 := h7) e7.symm ?_
  have ta7 : (hT h7 a).1 = 22 := by rw [e7, hT_put, hT_new, if_neg (by omega)]; exact ta6
  have ha7 : a < hz h7 := by rw [e7, hz_put, hz_new]; omega
  refine g_aload_n rfl rfl ?_
  refine g_sipush rfl ?_
  refine g_newarray (m := 144) rfl (by omega) (by omega) (by rfl) ?_
  refine g_putR rfl (by rw [hT_new, if_neg (by omega)]; exact ta7) ?_
  obtain ⟨h8, e8⟩ : ∃ h8, h8 = hput (hnew h7 1 144) a 13 (some (hz h7)) := ⟨_, rfl⟩
  refine g_hp (h2 := h8) e8.symm ?_
  have ta8 : (hT h8 a).1 = 22 := by rw [e8, hT_put, hT_new, if_neg (by omega)]; exact ta7
  have ha8 : a < hz h8 := by rw [e8, hz_put, hz_new]; omega
  refine g_aload_n rfl rfl ?_
  refine g_bipush rfl ?_
  refine g_newarray (m := 26) rfl (by omega) (by omega) (by rfl) ?_
  refine g_putR rfl (by rw [hT_new, if_neg (by omega)]; exact ta8) ?_
  obtain ⟨h9, e9⟩ : ∃ h9, h9 = hput (hnew h8 1 26) a 14 (some (hz h8)) := ⟨_, rfl⟩
  refine g_hp (h2 := h9) e9.symm ?_
  have ta9 : (hT h9 a).1 = 22 := by rw [e9, hT_put, hT_new, if_neg (by omega)]; exact ta8
  have ha9 : a < hz h9 := by rw [e9, hz_put, hz_new]; omega
  refine g_aload_n rfl rfl ?_
  refine g_bipush rfl ?_
  refine g_newarray (m := 12) rfl (by omega) (by omega) (by rfl) ?_
  refine g_putR rfl (by rw [hT_new, if_neg (by omega)]; exact ta9) ?_
  obtain ⟨h10, e10⟩ : ∃ h10, h10 = hput (hnew h9 1 12) a 15 (some (hz h9)) := ⟨_, rfl⟩
  refine g_hp (h2 := h10) e10.symm ?_
  have ta10 : (hT h10 a).1 = 22 := by rw [e10, hT_put, hT_new, if_neg (by omega)]; exact ta9
  have ha10 : a < hz h10 := by rw [e10, hz_put, hz_new]; omega
  refine g_aload_n rfl rfl ?_
  refine g_sipush rfl ?_
  refine g_newarray (m := 144) rfl (by omega) (by omega) (by rfl) ?_
  refine g_putR rfl (by rw [hT_new, if_neg (by omega)]; exact ta10) ?_
  obtain ⟨h11, e11⟩ : ∃ h11, h11 = hput (hnew h10 2 144) a 16 (some (hz h10)) := ⟨_, rfl⟩
  refine g_hp (h2 := h11) e11.symm ?_
  have ta11 : (hT h11 a).1 = 22 := by rw [e11, hT_put, hT_new, if_neg (by omega)]; exact ta10
  have ha11 : a < hz h11 := by rw [e11, hz_put, hz_new]; omega
  refine g_aload_n rfl rfl ?_
  refine g_ldcI rfl rfl ?_
  refine g_newarray (m := 79860) rfl (by omega) (by omega) (by rfl) ?_
  refine g_putR rfl (by rw [hT_new, if_neg (by omega)]; exact ta11) ?_
  obtain ⟨h12, e12⟩ : ∃ h12, h12 = hput (hnew h11 2 79860) a 18 (some (hz h11)) := ⟨_, rfl⟩
  refine g_hp (h2 := h12) e12.symm ?_
  have ta12 : (hT h12 a).1 = 22 := by rw [e12, hT_put, hT_new, if_neg (by omega)]; exact ta11
  have ha12 : a < hz h12 := by rw [e12, hz_put, hz_new]; omega
  refine g_aload_n rfl rfl ?_
  refine g_sipush rfl ?_
  refine g_newarray (m := 1331) rfl (by omega) (by omega) (by rfl) ?_
  refine g_putR rfl (by rw [hT_new, if_neg (by omega)]; exact ta12) ?_
  obtain ⟨h13, e13⟩ : ∃ h13, h13 = hput (hnew h12 2 1331) a 19 (some (hz h12)) := ⟨_, rfl⟩
  refine g_hp (h2 := h13) e13.symm ?_
  have ta13 : (hT h13 a).1 = 22 := by rw [e13, hT_put, hT_new, if_neg (by omega)]; exact ta12
  have ha13 : a < hz h13 := by rw [e13, hz_put, hz_new]; omega
  refine g_aload_n rfl rfl ?_
  refine g_sipush rfl ?_
  refine g_newarray (m := 1331) rfl (by omega) (by omega) (by rfl) ?_
  refine g_putR rfl (by rw [hT_new, if_neg (by omega)]; exact ta13) ?_
  obtain ⟨h14, e14⟩ : ∃ h14, h14 = hput (hnew h13 2 1331) a 20 (some (hz h13)) := ⟨_, rfl⟩
  refine g_hp (h2 := h14) e14.symm ?_
  have ta14 : (hT h14 a).1 = 22 := by rw [e14, hT_put, hT_new, if_neg (by omega)]; exact ta13
  have ha14 : a < hz h14 := by rw [e14, hz_put, hz_new]; omega
  refine g_aload_n rfl rfl ?_
  refine g_sipush rfl ?_
  refine g_newarray (m := 1331) rfl (by omega) (by omega) (by rfl) ?_
  refine g_putR rfl (by rw [hT_new, if_neg (by omega)]; exact ta14) ?_
  obtain ⟨h15, e15⟩ : ∃ h15, h15 = hput (hnew h14 2 1331) a 21 (some (hz h14)) := ⟨_, rfl⟩
  refine g_hp (h2 := h15) e15.symm ?_
  have ta15 : (hT h15 a).1 = 22 := by rw [e15, hT_put, hT_new, if_neg (by omega)]; exact ta14
  have ha15 : a < hz h15 := by rw [e15, hz_put, hz_new]; omega
  refine g_aload_n rfl rfl ?_
  refine g_sipush rfl ?_
  refine g_newarray (m := 1331) rfl (by omega) (by omega) (by rfl) ?_
  refine g_putR rfl (by rw [hT_new, if_neg (by omega)]; exact ta15) ?_
  obtain ⟨h16, e16⟩ : ∃ h16, h16 = hput (hnew h15 2 1331) a 22 (some (hz h15)) := ⟨_, rfl⟩
  refine g_hp (h2 := h16) e16.symm ?_
  have ta16 : (hT h16 a).1 = 22 := by rw [e16, hT_put, hT_new, if_neg (by omega)]; exact ta15
  have ha16 : a < hz h16 := by rw [e16, hz_put, hz_new]; omega
  refine g_aload_n rfl rfl ?_
  refine g_sipush rfl ?_
  refine g_newarray (m := 6561) rfl (by omega) (by omega) (by rfl) ?_
  refine g_putR rfl (by rw [hT_new, if_neg (by omega)]; exact ta16) ?_
  obtain ⟨h17, e17⟩ : ∃ h17, h17 = hput (hnew h16 2 6561) a 23 (some (hz h16)) := ⟨_, rfl⟩
  refine g_hp (h2 := h17) e17.symm ?_
  have ta17 : (hT h17 a).1 = 22 := by rw [e17, hT_put, hT_new, if_neg (by omega)]; exact ta16
  have ha17 : a < hz h17 := by rw [e17, hz_put, hz_new]; omega
  refine g_aload_n rfl rfl ?_
  refine g_sipush rfl ?_
  refine g_newarray (m := 6561) rfl (by omega) (by omega) (by rfl) ?_
  refine g_putR rfl (by rw [hT_new, if_neg (by omega)]; exact ta17) ?_
  obtain ⟨h18, e18⟩ : ∃ h18, h18 = hput (hnew h17 2 6561) a 24 (some (hz h17)) := ⟨_, rfl⟩
  refine g_hp (h2 := h18) e18.symm ?_
  have ta18 : (hT h18 a).1 = 22 := by rw [e18, hT_put, hT_new, if_neg (by omega)]; exact ta17
  have ha18 : a < hz h18 := by rw [e18, hz_put, hz_new]; omega
  refine g_aload_n rfl rfl ?_
  refine g_sipush rfl ?_
  refine g_newarray (m := 3000) rfl (by omega) (by omega) (by rfl) ?_
  refine g_putR rfl (by rw [hT_new, if_neg (by omega)]; exact ta18) ?_
  obtain ⟨h19, e19⟩ : ∃ h19, h19 = hput (hnew h18 2 3000) a 25 (some (hz h18)) := ⟨_, rfl⟩
  refine g_hp (h2 := h19) e19.symm ?_
  have ta19 : (hT h19 a).1 = 22 := by rw [e19, hT_put, hT_new, if_neg (by omega)]; exact ta18
  have ha19 : a < hz h19 := by rw [e19, hz_put, hz_new]; omega
  refine g_aload_n rfl rfl ?_
  refine g_sipush rfl ?_
  refine g_newarray (m := 3000) rfl (by omega) (by omega) (by rfl) ?_
  refine g_putR rfl (by rw [hT_new, if_neg (by omega)]; exact ta19) ?_
  obtain ⟨h20, e20⟩ : ∃ h20, h20 = hput (hnew h19 2 3000) a 26 (some (hz h19)) := ⟨_, rfl⟩
  refine g_hp (h2 := h20) e20.symm ?_
  have ta20 : (hT h20 a).1 = 22 := by rw [e20, hT_put, hT_new, if_neg (by omega)]; exact ta19
  have ha20 : a < hz h20 := by rw [e20, hz_put, hz_new]; omega
  refine g_aload_n rfl rfl ?_
  refine g_bipush rfl ?_
  refine g_newarray (m := 8) rfl (by omega) (by omega) (by rfl) ?_
  refine g_putR rfl (by rw [hT_new, if_neg (by omega)]; exact ta20) ?_
  obtain ⟨h21, e21⟩ : ∃ h21, h21 = hput (hnew h20 1 8) a 28 (some (hz h20)) := ⟨_, rfl⟩
  refine g_hp (h2 := h21) e21.symm ?_
  have ta21 : (hT h21 a).1 = 22 := by rw [e21, hT_put, hT_new, if_neg (by omega)]; exact ta20
  have ha21 : a < hz h21 := by rw [e21, hz_put, hz_new]; omega
  refine g_aload_n rfl rfl ?_
  refine g_bipush rfl ?_
  refine g_newarray (m := 8) rfl (by omega) (by omega) (by rfl) ?_
  refine g_putR rfl (by rw [hT_new, if_neg (by omega)]; exact ta21) ?_
  obtain ⟨h22, e22⟩ : ∃ h22, h22 = hput (hnew h21 1 8) a 29 (some (hz h21)) := ⟨_, rfl⟩
  refine g_hp (h2 := h22) e22.symm ?_
  have ta22 : (hT h22 a).1 = 22 := by rw [e22, hT_put, hT_new, if_neg (by omega)]; exact ta21
  have ha22 : a < hz h22 := by rw [e22, hz_put, hz_new]; omega
  refine g_aload_n rfl rfl ?_
  refine g_bipush rfl ?_
  refine g_newarray (m := 100) rfl (by omega) (by omega) (by rfl) ?_
  refine g_putR rfl (by rw [hT_new, if_neg (by omega)]; exact ta22) ?_
  obtain ⟨h23, e23⟩ : ∃ h23, h23 = hput (hnew h22 3 100) a 30 (some (hz h22)) := ⟨_, rfl⟩
  refine g_hp (h2 := h23) e23.symm ?_
  have ta23 : (hT h23 a).1 = 22 := by rw [e23, hT_put, hT_new, if_neg (by omega)]; exact ta22
  have ha23 : a < hz h23 := by rw [e23, hz_put, hz_new]; omega
  refine g_aload_n rfl rfl ?_
  refine g_iconst rfl ?_
  refine g_newarray (m := 4) rfl (by omega) (by omega) (by rfl) ?_
  refine g_putR rfl (by rw [hT_new, if_neg (by omega)]; exact ta23) ?_
  obtain ⟨h24, e24⟩ : ∃ h24, h24 = hput (hnew h23 1 4) a 32 (some (hz h23)) := ⟨_, rfl⟩
  refine g_hp (h2 := h24) e24.symm ?_
  have ta24 : (hT h24 a).1 = 22 := by rw [e24, hT_put, hT_new, if_neg (by omega)]; exact ta23
  have ha24 : a < hz h24 := by rw [e24, hz_put, hz_new]; omega
  refine g_aload_n rfl rfl ?_
  refine g_iconst rfl ?_
  refine g_newarray (m := 4) rfl (by omega) (by omega) (by rfl) ?_
  refine g_putR rfl (by rw [hT_new, if_neg (by omega)]; exact ta24) ?_
  obtain ⟨h25, e25⟩ : ∃ h25, h25 = hput (hnew h24 1 4) a 33 (some (hz h24)) := ⟨_, rfl⟩
  refine g_hp (h2 := h25) e25.symm ?_
  have ta25 : (hT h25 a).1 = 22 := by rw [e25, hT_put, hT_new, if_neg (by omega)]; exact ta24
  have ha25 : a < hz h25 := by rw [e25, hz_put, hz_new]; omega
  refine g_aload_n rfl rfl ?_
  refine g_iconst rfl ?_
  refine g_newarray (m := 4) rfl (by omega) (by omega) (by rfl) ?_
  refine g_putR rfl (by rw [hT_new, if_neg (by omega)]; exact ta25) ?_
  obtain ⟨h26, e26⟩ : ∃ h26, h26 = hput (hnew h25 1 4) a 34 (some (hz h25)) := ⟨_, rfl⟩
  refine g_hp (h2 := h26) e26.symm ?_
  have ta26 : (hT h26 a).1 = 22 := by rw [e26, hT_put, hT_new, if_neg (by omega)]; exact ta25
  have ha26 : a < hz h26 := by rw [e26, hz_put, hz_new]; omega
  refine g_aload_n rfl rfl ?_
  refine g_iconst rfl ?_
  refine g_newarray (m := 4) rfl (by omega) (by omega) (by rfl) ?_
  refine g_putR rfl (by rw [hT_new, if_neg (by omega)]; exact ta26) ?_
  obtain ⟨h27, e27⟩ : ∃ h27, h27 = hput (hnew h26 1 4) a 35 (some (hz h26)) := ⟨_, rfl⟩
  refine g_hp (h2 := h27) e27.symm ?_
  have ta27 : (hT h27 a).1 = 22 := by rw [e27, hT_put, hT_new, if_neg (by omega)]; exact ta26
  have ha27 : a < hz h27 := by rw [e27, hz_put, hz_new]; omega
  refine g_aload_n rfl rfl ?_
  refine g_iconst rfl ?_
  refine g_newarray (m := 4) rfl (by omega) (by omega) (by rfl) ?_
  refine g_putR rfl (by rw [hT_new, if_neg (by omega)]; exact ta27) ?_
  obtain ⟨h28, e28⟩ : ∃ h28, h28 = hput (hnew h27 1 4) a 36 (some (hz h27)) := ⟨_, rfl⟩
  refine g_hp (h2 := h28) e28.symm ?_
  have ta28 : (hT h28 a).1 = 22 := by rw [e28, hT_put, hT_new, if_neg (by omega)]; exact ta27
  have ha28 : a < hz h28 := by rw [e28, hz_put, hz_new]; omega
  refine g_aload_n rfl rfl ?_
  refine g_iconst rfl ?_
  refine g_newarray (m := 4) rfl (by omega) (by omega) (by rfl) ?_
  refine g_putR rfl (by rw [hT_new, if_neg (by omega)]; exact ta28) ?_
  obtain ⟨h29, e29⟩ : ∃ h29, h29 = hput (hnew h28 1 4) a 37 (some (hz h28)) := ⟨_, rfl⟩
  refine g_hp (h2 := h29) e29.symm ?_
  have ta29 : (hT h29 a).1 = 22 := by rw [e29, hT_put, hT_new, if_neg (by omega)]; exact ta28
  have ha29 : a < hz h29 := by rw [e29, hz_put, hz_new]; omega
  refine g_aload_n rfl rfl ?_
  refine g_iconst rfl ?_
  refine g_newarray (m := 4) rfl (by omega) (by omega) (by rfl) ?_
  refine g_putR rfl (by rw [hT_new, if_neg (by omega)]; exact ta29) ?_
  obtain ⟨h30, e30⟩ : ∃ h30, h30 = hput (hnew h29 1 4) a 38 (some (hz h29)) := ⟨_, rfl⟩
  refine g_hp (h2 := h30) e30.symm ?_
  have ta30 : (hT h30 a).1 = 22 := by rw [e30, hT_put, hT_new, if_neg (by omega)]; exact ta29
  have ha30 : a < hz h30 := by rw [e30, hz_put, hz_new]; omega
  refine g_aload_n rfl rfl ?_
  refine g_iconst rfl ?_
  refine g_newarray (m := 4) rfl (by omega) (by omega) (by rfl) ?_
  refine g_putR rfl (by rw [hT_new, if_neg (by omega)]; exact ta30) ?_
  obtain ⟨h31, e31⟩ : ∃ h31, h31 = hput (hnew h30 1 4) a 39 (some (hz h30)) := ⟨_, rfl⟩
  refine g_hp (h2 := h31) e31.symm ?_
  have ta31 : (hT h31 a).1 = 22 := by rw [e31, hT_put, hT_new, if_neg (by omega)]; exact ta30
  have ha31 : a < hz h31 := by rw [e31, hz_put, hz_new]; omega
  refine g_vret rfl ?_
  unfold mrows
  rw [mk_cons, ← e1, mk_cons, ← e2, mk_cons, ← e3, mk_cons, ← e4, mk_cons, ← e5, mk_cons, ← e6, mk_cons, ← e7, mk_cons, ← e8, mk_cons, ← e9, mk_cons, ← e10, mk_cons, ← e11, mk_cons, ← e12, mk_cons, ← e13, mk_cons, ← e14, mk_cons, ← e15, mk_cons, ← e16, mk_cons, ← e17, mk_cons, ← e18, mk_cons, ← e19, mk_cons, ← e20, mk_cons, ← e21, mk_cons, ← e22, mk_cons, ← e23, mk_cons, ← e24, mk_cons, ← e25, mk_cons, ← e26, mk_cons, ← e27, mk_cons, ← e28, mk_cons, ← e29, mk_cons, ← e30, mk_cons, ← e31]
  rfl
/-- the reference lies at o, its arrays behind it -/
def MS (h : aH) (o : Nat) : Prop := (hT h o).1 = 22 ∧ ∀ (j k n f : Nat), mrows[j]? = some (k, n, f) → hT h (o + 1 + j) = (k, n) ∧ hR h o f = some (o + 1 + j)
theorem mrows_nodup : (mrows.map (fun q => q.2.2)).Nodup := by decide +kernel
theorem MS_mk {h : aH} {o : Nat} (ta : (hT h o).1 = 22) (ho : hz h = o + 1) : MS (mk h o mrows) o := by
  refine ⟨by rw [(mk_old o mrows h o (by omega)).1]; exact ta, fun j k n f e => ?_⟩
  have h1 := (mk_T o mrows h (by omega) j k n f e).1
  have h2 := mk_R o mrows h (by omega) mrows_nodup j k n f e
  rw [ho] at h1 h2
  exact ⟨h1, h2⟩
theorem mt_limb {h : aH} {o : Nat} (ms : MS h o) : hT h (o + 1) = (1, 12600) := (ms.2 0 1 12600 0 rfl).1
theorem mr_limb {h : aH} {o : Nat} (ms : MS h o) : hR h o 0 = some (o + 1) := (ms.2 0 1 12600 0 rfl).2
theorem mt_upper {h : aH} {o : Nat} (ms : MS h o) : hT h (o + 2) = (2, 200) := (ms.2 1 2 200 3 rfl).1
theorem mr_upper {h : aH} {o : Nat} (ms : MS h o) : hR h o 3 = some (o + 2) := (ms.2 1 2 200 3 rfl).2
theorem mt_lower {h : aH} {o : Nat} (ms : MS h o) : hT h (o + 3) = (2, 200) := (ms.2 2 2 200 4 rfl).1
theorem mr_lower {h : aH} {o : Nat} (ms : MS h o) : hR h o 4 = some (o + 3) := (ms.2 2 2 200 4 rfl).2
theorem mt_sort {h : aH} {o : Nat} (ms : MS h o) : hT h (o + 4) = (1, 100) := (ms.2 3 1 100 8 rfl).1
theorem mr_sort {h : aH} {o : Nat} (ms : MS h o) : hR h o 8 = some (o + 4) := (ms.2 3 1 100 8 rfl).2
theorem mt_part {h : aH} {o : Nat} (ms : MS h o) : hT h (o + 5) = (1, 400) := (ms.2 4 1 400 9 rfl).1
theorem mr_part {h : aH} {o : Nat} (ms : MS h o) : hR h o 9 = some (o + 5) := (ms.2 4 1 400 9 rfl).2
theorem mt_corners {h : aH} {o : Nat} (ms : MS h o) : hT h (o + 6) = (1, 12) := (ms.2 5 1 12 11 rfl).1
theorem mr_corners {h : aH} {o : Nat} (ms : MS h o) : hR h o 11 = some (o + 6) := (ms.2 5 1 12 11 rfl).2
theorem mt_px {h : aH} {o : Nat} (ms : MS h o) : hT h (o + 7) = (1, 144) := (ms.2 6 1 144 12 rfl).1
theorem mr_px {h : aH} {o : Nat} (ms : MS h o) : hR h o 12 = some (o + 7) := (ms.2 6 1 144 12 rfl).2
theorem mt_py {h : aH} {o : Nat} (ms : MS h o) : hT h (o + 8) = (1, 144) := (ms.2 7 1 144 13 rfl).1
theorem mr_py {h : aH} {o : Nat} (ms : MS h o) : hR h o 13 = some (o + 8) := (ms.2 7 1 144 13 rfl).2
theorem mt_hull {h : aH} {o : Nat} (ms : MS h o) : hT h (o + 9) = (1, 26) := (ms.2 8 1 26 14 rfl).1
theorem mr_hull {h : aH} {o : Nat} (ms : MS h o) : hR h o 14 = some (o + 9) := (ms.2 8 1 26 14 rfl).2
theorem mt_order {h : aH} {o : Nat} (ms : MS h o) : hT h (o + 10) = (1, 12) := (ms.2 9 1 12 15 rfl).1
theorem mr_order {h : aH} {o : Nat} (ms : MS h o) : hR h o 15 = some (o + 10) := (ms.2 9 1 12 15 rfl).2
theorem mt_ways {h : aH} {o : Nat} (ms : MS h o) : hT h (o + 11) = (2, 144) := (ms.2 10 2 144 16 rfl).1
theorem mr_ways {h : aH} {o : Nat} (ms : MS h o) : hR h o 16 = some (o + 11) := (ms.2 10 2 144 16 rfl).2
theorem mt_coefs {h : aH} {o : Nat} (ms : MS h o) : hT h (o + 12) = (2, 79860) := (ms.2 11 2 79860 18 rfl).1
theorem mr_coefs {h : aH} {o : Nat} (ms : MS h o) : hR h o 18 = some (o + 12) := (ms.2 11 2 79860 18 rfl).2
theorem mt_work {h : aH} {o : Nat} (ms : MS h o) : hT h (o + 13) = (2, 1331) := (ms.2 12 2 1331 19 rfl).1
theorem mr_work {h : aH} {o : Nat} (ms : MS h o) : hR h o 19 = some (o + 13) := (ms.2 12 2 1331 19 rfl).2
theorem mt_power {h : aH} {o : Nat} (ms : MS h o) : hT h (o + 14) = (2, 1331) := (ms.2 13 2 1331 20 rfl).1
theorem mr_power {h : aH} {o : Nat} (ms : MS h o) : hR h o 20 = some (o + 14) := (ms.2 13 2 1331 20 rfl).2
theorem mt_piece {h : aH} {o : Nat} (ms : MS h o) : hT h (o + 15) = (2, 1331) := (ms.2 14 2 1331 21 rfl).1
theorem mr_piece {h : aH} {o : Nat} (ms : MS h o) : hR h o 21 = some (o + 15) := (ms.2 14 2 1331 21 rfl).2
theorem mt_product {h : aH} {o : Nat} (ms : MS h o) : hT h (o + 16) = (2, 1331) := (ms.2 15 2 1331 22 rfl).1
theorem mr_product {h : aH} {o : Nat} (ms : MS h o) : hR h o 22 = some (o + 16) := (ms.2 15 2 1331 22 rfl).2
theorem mt_now {h : aH} {o : Nat} (ms : MS h o) : hT h (o + 17) = (2, 6561) := (ms.2 16 2 6561 23 rfl).1
theorem mr_now {h : aH} {o : Nat} (ms : MS h o) : hR h o 23 = some (o + 17) := (ms.2 16 2 6561 23 rfl).2
theorem mt_then {h : aH} {o : Nat} (ms : MS h o) : hT h (o + 18) = (2, 6561) := (ms.2 17 2 6561 24 rfl).1
theorem mr_then {h : aH} {o : Nat} (ms : MS h o) : hR h o 24 = some (o + 18) := (ms.2 17 2 6561 24 rfl).2
theorem mt_figs {h : aH} {o : Nat} (ms : MS h o) : hT h (o + 19) = (2, 3000) := (ms.2 18 2 3000 25 rfl).1
theorem mr_figs {h : aH} {o : Nat} (ms : MS h o) : hR h o 25 = some (o + 19) := (ms.2 18 2 3000 25 rfl).2
theorem mt_grown {h : aH} {o : Nat} (ms : MS h o) : hT h (o + 20) = (2, 3000) := (ms.2 19 2 3000 26 rfl).1
theorem mr_grown {h : aH} {o : Nat} (ms : MS h o) : hR h o 26 = some (o + 20) := (ms.2 19 2 3000 26 rfl).2
theorem mt_cellX {h : aH} {o : Nat} (ms : MS h o) : hT h (o + 21) = (1, 8) := (ms.2 20 1 8 28 rfl).1
theorem mr_cellX {h : aH} {o : Nat} (ms : MS h o) : hR h o 28 = some (o + 21) := (ms.2 20 1 8 28 rfl).2
theorem mt_cellY {h : aH} {o : Nat} (ms : MS h o) : hT h (o + 22) = (1, 8) := (ms.2 21 1 8 29 rfl).1
theorem mr_cellY {h : aH} {o : Nat} (ms : MS h o) : hR h o 29 = some (o + 22) := (ms.2 21 1 8 29 rfl).2
theorem mt_outs {h : aH} {o : Nat} (ms : MS h o) : hT h (o + 23) = (3, 100) := (ms.2 22 3 100 30 rfl).1
theorem mr_outs {h : aH} {o : Nat} (ms : MS h o) : hR h o 30 = some (o + 23) := (ms.2 22 3 100 30 rfl).2
theorem mt_one {h : aH} {o : Nat} (ms : MS h o) : hT h (o + 24) = (1, 4) := (ms.2 23 1 4 32 rfl).1
theorem mr_one {h : aH} {o : Nat} (ms : MS h o) : hR h o 32 = some (o + 24) := (ms.2 23 1 4 32 rfl).2
theorem mt_two {h : aH} {o : Nat} (ms : MS h o) : hT h (o + 25) = (1, 4) := (ms.2 24 1 4 33 rfl).1
theorem mr_two {h : aH} {o : Nat} (ms : MS h o) : hR h o 33 = some (o + 25) := (ms.2 24 1 4 33 rfl).2
theorem mt_three {h : aH} {o : Nat} (ms : MS h o) : hT h (o + 26) = (1, 4) := (ms.2 25 1 4 34 rfl).1
theorem mr_three {h : aH} {o : Nat} (ms : MS h o) : hR h o 34 = some (o + 26) := (ms.2 25 1 4 34 rfl).2
theorem mt_four {h : aH} {o : Nat} (ms : MS h o) : hT h (o + 27) = (1, 4) := (ms.2 26 1 4 35 rfl).1
theorem mr_four {h : aH} {o : Nat} (ms : MS h o) : hR h o 35 = some (o + 27) := (ms.2 26 1 4 35 rfl).2
theorem mt_five {h : aH} {o : Nat} (ms : MS h o) : hT h (o + 28) = (1, 4) := (ms.2 27 1 4 36 rfl).1
theorem mr_five {h : aH} {o : Nat} (ms : MS h o) : hR h o 36 = some (o + 28) := (ms.2 27 1 4 36 rfl).2
theorem mt_got {h : aH} {o : Nat} (ms : MS h o) : hT h (o + 29) = (1, 4) := (ms.2 28 1 4 37 rfl).1
theorem mr_got {h : aH} {o : Nat} (ms : MS h o) : hR h o 37 = some (o + 29) := (ms.2 28 1 4 37 rfl).2
theorem mt_limits {h : aH} {o : Nat} (ms : MS h o) : hT h (o + 30) = (1, 4) := (ms.2 29 1 4 38 rfl).1
theorem mr_limits {h : aH} {o : Nat} (ms : MS h o) : hR h o 38 = some (o + 30) := (ms.2 29 1 4 38 rfl).2
theorem mt_sixth {h : aH} {o : Nat} (ms : MS h o) : hT h (o + 31) = (1, 4) := (ms.2 30 1 4 39 rfl).1
theorem mr_sixth {h : aH} {o : Nat} (ms : MS h o) : hR h o 39 = some (o + 31) := (ms.2 30 1 4 39 rfl).2
