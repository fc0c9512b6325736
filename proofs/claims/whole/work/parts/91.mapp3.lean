/-! the reference's apply, joined: printed by wip/whole/s91.py -/
set_option maxRecDepth 100000 in
theorem m_applyx1 {w : aW} {d : Nat} (hd : 3 ≤ d) {h : aH} {o : Nat} (ms : MS h o) (V : Nat → Nat → Int) {S : aS} (mn : MN V o S) (ok : OkN S) (op a b : Int) (h1 : ¬(0 ≤ op ∧ op ≤ 9)) : WP w d 275 [aO (some o), aI op, aI a, aI b] (hw h V) (RI (fun r h1 => ∃ V1, h1 = hw h V1 ∧ MN V1 o (spApp S op a b).2 ∧ FM V V1 o ∧ r = (spApp S op a b).1)) := by
  obtain ⟨d, rfl⟩ : ∃ d1, d = d1 + 1 := ⟨d - 1, by omega⟩
  refine WP.enter (cd := cd_X12_apply) rfl ?_
  have mn2 := mn.own (i := 31) (by decide) 0
  have hn2 := ok.1
  have hls : largs 0 [aO (some o), aI op, aI a, aI b] = [(0, aO (some o)), (1, aI op), (2, aI a), (3, aI b)] := rfl
  rw [hls]
  clear hls
  refine g_aload_n rfl rfl ?_
  refine g_iconst rfl ?_
  refine g_putI rfl ms.1 ?_
  refine g_iload_n rfl rfl ?_
  refine g_i2l rfl ?_
  refine g_lconst0 rfl ?_
  refine g_ldc2 rfl ?_
  refine g_callSI [aJ op, aJ 0, aJ 9] [] rfl rfl rfl rfl (Nat.le_of_ble_eq_true rfl) (c_in (by omega) op 0 9 _) ?_
  rintro _ _ ⟨rfl, rfl⟩
  refine g_if_eq_t rfl (by rw [if_neg h1]) ?_
  refine g_iconst rfl ?_
  refine g_iret rfl ?_
  unfold spApp
  rw [if_neg (by omega)]
  exact ⟨_, rfl, mn2, FM.own V o (i := 31) (by omega) 0, rfl⟩
set_option maxRecDepth 100000 in
theorem m_applyx2 {w : aW} {d : Nat} (hd : 3 ≤ d) {h : aH} {o : Nat} (ms : MS h o) (V : Nat → Nat → Int) {S : aS} (mn : MN V o S) (ok : OkN S) (op a b : Int) (h1 : 0 ≤ op ∧ op ≤ 9) (h2 : ¬(0 ≤ a ∧ a < sN S)) : WP w d 275 [aO (some o), aI op, aI a, aI b] (hw h V) (RI (fun r h1 => ∃ V1, h1 = hw h V1 ∧ MN V1 o (spApp S op a b).2 ∧ FM V V1 o ∧ r = (spApp S op a b).1)) := by
  obtain ⟨d, rfl⟩ : ∃ d1, d = d1 + 1 := ⟨d - 1, by omega⟩
  refine WP.enter (cd := cd_X12_apply) rfl ?_
  have mn2 := mn.own (i := 31) (by decide) 0
  have hn2 := ok.1
  have hls : largs 0 [aO (some o), aI op, aI a, aI b] = [(0, aO (some o)), (1, aI op), (2, aI a), (3, aI b)] := rfl
  rw [hls]
  clear hls
  refine g_aload_n rfl rfl ?_
  refine g_iconst rfl ?_
  refine g_putI rfl ms.1 ?_
  refine g_iload_n rfl rfl ?_
  refine g_i2l rfl ?_
  refine g_lconst0 rfl ?_
  refine g_ldc2 rfl ?_
  refine g_callSI [aJ op, aJ 0, aJ 9] [] rfl rfl rfl rfl (Nat.le_of_ble_eq_true rfl) (c_in (by omega) op 0 9 _) ?_
  rintro _ _ ⟨rfl, rfl⟩
  refine g_if_eq_f rfl (by rw [if_pos h1]; decide) ?_
  refine g_aload_n rfl rfl ?_
  refine g_iload_n rfl rfl ?_
  refine g_callVI [aI a] [] rfl rfl rfl rfl (Nat.le_of_ble_eq_true rfl) ms.1 (m_isN (by omega) ms (((vset V o 31 0))) mn2 ok a) ?_
  rintro _ _ ⟨rfl, rfl⟩
  refine g_if_eq_t rfl (by rw [if_neg h2]) ?_
  refine g_iconst rfl ?_
  refine g_iret rfl ?_
  unfold spApp
  rw [if_neg (by omega)]
  exact ⟨_, rfl, mn2, FM.own V o (i := 31) (by omega) 0, rfl⟩
set_option maxRecDepth 100000 in
theorem m_applyx3 {w : aW} {d : Nat} (hd : 3 ≤ d) {h : aH} {o : Nat} (ms : MS h o) (V : Nat → Nat → Int) {S : aS} (mn : MN V o S) (ok : OkN S) (op a b : Int) (h1 : 0 ≤ op ∧ op ≤ 9) (h2 : 0 ≤ a ∧ a < sN S) (h3 : ¬(0 ≤ b ∧ b < sN S)) : WP w d 275 [aO (some o), aI op, aI a, aI b] (hw h V) (RI (fun r h1 => ∃ V1, h1 = hw h V1 ∧ MN V1 o (spApp S op a b).2 ∧ FM V V1 o ∧ r = (spApp S op a b).1)) := by
  obtain ⟨d, rfl⟩ : ∃ d1, d = d1 + 1 := ⟨d - 1, by omega⟩
  refine WP.enter (cd := cd_X12_apply) rfl ?_
  have mn2 := mn.own (i := 31) (by decide) 0
  have hn2 := ok.1
  have hls : largs 0 [aO (some o), aI op, aI a, aI b] = [(0, aO (some o)), (1, aI op), (2, aI a), (3, aI b)] := rfl
  rw [hls]
  clear hls
  refine g_aload_n rfl rfl ?_
  refine g_iconst rfl ?_
  refine g_putI rfl ms.1 ?_
  refine g_iload_n rfl rfl ?_
  refine g_i2l rfl ?_
  refine g_lconst0 rfl ?_
  refine g_ldc2 rfl ?_
  refine g_callSI [aJ op, aJ 0, aJ 9] [] rfl rfl rfl rfl (Nat.le_of_ble_eq_true rfl) (c_in (by omega) op 0 9 _) ?_
  rintro _ _ ⟨rfl, rfl⟩
  refine g_if_eq_f rfl (by rw [if_pos h1]; decide) ?_
  refine g_aload_n rfl rfl ?_
  refine g_iload_n rfl rfl ?_
  refine g_callVI [aI a] [] rfl rfl rfl rfl (Nat.le_of_ble_eq_true rfl) ms.1 (m_isN (by omega) ms (((vset V o 31 0))) mn2 ok a) ?_
  rintro _ _ ⟨rfl, rfl⟩
  refine g_if_eq_f rfl (by rw [if_pos h2]; decide) ?_
  refine g_aload_n rfl rfl ?_
  refine g_iload_n rfl rfl ?_
  refine g_callVI [aI b] [] rfl rfl rfl rfl (Nat.le_of_ble_eq_true rfl) ms.1 (m_isN (by omega) ms ((((vset V o 31 0)))) mn2 ok b) ?_
  rintro _ _ ⟨rfl, rfl⟩
  refine g_if_ne_f rfl (by rw [if_neg h3]) ?_
  refine g_iconst rfl ?_
  refine g_iret rfl ?_
  unfold spApp
  rw [if_neg (by omega)]
  exact ⟨_, rfl, mn2, FM.own V o (i := 31) (by omega) 0, rfl⟩
theorem m_apply {w : aW} {d : Nat} (hd : 3 ≤ d) {h : aH} {o : Nat} (ms : MS h o) (V : Nat → Nat → Int) {S : aS} (mn : MN V o S) (ok : OkN S) (op a b : Int) : WP w d 275 [aO (some o), aI op, aI a, aI b] (hw h V) (RI (fun r h1 => ∃ V1, h1 = hw h V1 ∧ MN V1 o (spApp S op a b).2 ∧ FM V V1 o ∧ r = (spApp S op a b).1)) := by
  by_cases h1 : 0 ≤ op ∧ op ≤ 9
  · by_cases ha : 0 ≤ a ∧ a < sN S
    · by_cases hb : 0 ≤ b ∧ b < sN S
      · unfold spApp
        rw [if_pos ⟨h1, ha, hb⟩]
        by_cases hl : (sNu S a.toNat).1 * (sNu S b.toNat).2 < (sNu S b.toNat).1 * (sNu S a.toNat).2
        · obtain rfl | rfl | rfl | rfl | rfl | rfl | rfl | rfl | rfl | rfl : op = 0 ∨ op = 1 ∨ op = 2 ∨ op = 3 ∨ op = 4 ∨ op = 5 ∨ op = 6 ∨ op = 7 ∨ op = 8 ∨ op = 9 := by omega
          · rw [if_pos (by decide)]
            exact m_apply0 hd ms V mn ok a b ha hb
          · rw [if_pos (by decide)]
            exact m_apply1 hd ms V mn ok a b ha hb
          · rw [if_pos (by decide)]
            exact m_apply2 hd ms V mn ok a b ha hb
          · rw [if_pos (by decide)]
            exact m_apply3 hd ms V mn ok a b ha hb
          · rw [if_neg (by decide)]
            exact m_apply4L hd ms V mn ok a b ha hb hl
          · rw [if_neg (by decide)]
            exact m_apply5L hd ms V mn ok a b ha hb hl
          · rw [if_neg (by decide)]
            exact m_apply6 hd ms V mn ok a b ha hb
          · rw [if_neg (by decide)]
            exact m_apply7 hd ms V mn ok a b ha hb
          · rw [if_neg (by decide)]
            exact m_apply8 hd ms V mn ok a b ha hb
          · rw [if_neg (by decide)]
            exact m_apply9L hd ms V mn ok a b ha hb hl
        · obtain rfl | rfl | rfl | rfl | rfl | rfl | rfl | rfl | rfl | rfl : op = 0 ∨ op = 1 ∨ op = 2 ∨ op = 3 ∨ op = 4 ∨ op = 5 ∨ op = 6 ∨ op = 7 ∨ op = 8 ∨ op = 9 := by omega
          · rw [if_pos (by decide)]
            exact m_apply0 hd ms V mn ok a b ha hb
          · rw [if_pos (by decide)]
            exact m_apply1 hd ms V mn ok a b ha hb
          · rw [if_pos (by decide)]
            exact m_apply2 hd ms V mn ok a b ha hb
          · rw [if_pos (by decide)]
            exact m_apply3 hd ms V mn ok a b ha hb
          · rw [if_neg (by decide)]
            exact m_apply4N hd ms V mn ok a b ha hb hl
          · rw [if_neg (by decide)]
            exact m_apply5N hd ms V mn ok a b ha hb hl
          · rw [if_neg (by decide)]
            exact m_apply6 hd ms V mn ok a b ha hb
          · rw [if_neg (by decide)]
            exact m_apply7 hd ms V mn ok a b ha hb
          · rw [if_neg (by decide)]
            exact m_apply8 hd ms V mn ok a b ha hb
          · rw [if_neg (by decide)]
            exact m_apply9N hd ms V mn ok a b ha hb hl
      · exact m_applyx3 hd ms V mn ok op a b h1 ha hb
    · exact m_applyx2 hd ms V mn ok op a b h1 ha
  · exact m_applyx1 hd ms V mn ok op a b h1
