/-! kinds that there are not: printed by wip/whole/gx_.py -/
theorem chAt_no {i : Nat} {k : Int} {n : Nat} (hl : (txtAt i).length = n) (h : k < 0 ∨ (n : Int) ≤ k) : chAt i k = 63 := by
  unfold chAt
  rw [hl]
  exact if_neg (by omega)
theorem is63 {S : aS} {t : Int} : ¬ isAS S 63 t := by
  unfold isAS
  omega
theorem txt_lenX : (txtAt 1).length = 20 ∧ (txtAt 3).length = 9 ∧ (txtAt 4).length = 9 ∧ (txtAt 5).length = 7 ∧ (txtAt 8).length = 15 := by decide +kernel
set_option maxRecDepth 100000 in
theorem x_stepX {w : aW} {d : Nat} (hd : 30 ≤ d) {h : aH} {c : Nat} (ci : CI h c) {S : aS} (xt : XT h c S) (ok : OkT S) (xn : XN (hV h) c S) (okn : OkN S) (tx : ∀ i < 12, hT h (w i) = (8, i)) (k : Int) (hk : k < 0 ∨ 20 ≤ k) (a b : Int) : WP w d 205 [aO (some c), aI k, aI a, aI b] h (RI (fun r h1 => h1 = h ∧ r = -1)) := by
  obtain ⟨d, rfl⟩ : ∃ d1, d = d1 + 1 := ⟨d - 1, by omega⟩
  refine WP.enter (cd := cd_X11_step) rfl ?_
  have hls : largs 0 [aO (some c), aI k, aI a, aI b] = [(0, aO (some c)), (1, aI k), (2, aI a), (3, aI b)] := rfl
  rw [hls]
  clear hls
  refine g_aload_n rfl rfl ?_
  refine g_ldcT rfl (by decide) ?_
  refine g_iload_n rfl rfl ?_
  refine g_callSI [aO (some (w 1)), aI k] [aO (some c)] rfl rfl rfl rfl (Nat.le_of_ble_eq_true rfl) (x_sortAt (by omega) (tx 1 (by omega)) (by omega) k) ?_
  rintro _ hq1 ⟨ehq1, rfl⟩
  rw [ehq1, chAt_no (n := 20) (by first | exact txt_lenX.1 | exact txt_lenX.2.1 | exact txt_lenX.2.2.2.1 | exact txt_lenX.2.2.2.2) (by omega)]
  clear ehq1 hq1
  refine g_iload_n rfl rfl ?_
  refine g_callVI [aI 63, aI a] [] rfl rfl rfl rfl (Nat.le_of_ble_eq_true rfl) (ci.1.kd 0 (by omega) rfl) (x_isA (by omega) ci xt ok xn okn 63 a) ?_
  rintro _ hq ⟨ehq, rfl⟩
  rw [ehq, if_neg is63]
  clear ehq hq
  refine g_if_eq_t rfl (by omega) ?_
  refine g_iconst rfl ?_
  refine g_iret rfl ?_
  exact ⟨rfl, rfl⟩
set_option maxRecDepth 100000 in
theorem x_threeX {w : aW} {d : Nat} (hd : 30 ≤ d) {h : aH} {c : Nat} (ci : CI h c) {S : aS} (xt : XT h c S) (ok : OkT S) (xn : XN (hV h) c S) (okn : OkN S) (tx : ∀ i < 12, hT h (w i) = (8, i)) (k : Int) (hk : k < 0 ∨ 9 ≤ k) (a b e : Int) : WP w d 206 [aO (some c), aI k, aI a, aI b, aI e] h (RI (fun r h1 => h1 = h ∧ r = -1)) := by
  obtain ⟨d, rfl⟩ : ∃ d1, d = d1 + 1 := ⟨d - 1, by omega⟩
  refine WP.enter (cd := cd_X11_three) rfl ?_
  have hls : largs 0 [aO (some c), aI k, aI a, aI b, aI e] = [(0, aO (some c)), (1, aI k), (2, aI a), (3, aI b), (4, aI e)] := rfl
  rw [hls]
  clear hls
  refine g_aload_n rfl rfl ?_
  refine g_ldcT rfl (by decide) ?_
  refine g_iload_n rfl rfl ?_
  refine g_callSI [aO (some (w 3)), aI k] [aO (some c)] rfl rfl rfl rfl (Nat.le_of_ble_eq_true rfl) (x_sortAt (by omega) (tx 3 (by omega)) (by omega) k) ?_
  rintro _ hq1 ⟨ehq1, rfl⟩
  rw [ehq1, chAt_no (n := 9) (by first | exact txt_lenX.1 | exact txt_lenX.2.1 | exact txt_lenX.2.2.2.1 | exact txt_lenX.2.2.2.2) (by omega)]
  clear ehq1 hq1
  refine g_iload_n rfl rfl ?_
  refine g_callVI [aI 63, aI a] [] rfl rfl rfl rfl (Nat.le_of_ble_eq_true rfl) (ci.1.kd 0 (by omega) rfl) (x_isA (by omega) ci xt ok xn okn 63 a) ?_
  rintro _ hq ⟨ehq, rfl⟩
  rw [ehq, if_neg is63]
  clear ehq hq
  refine g_if_eq_t rfl (by omega) ?_
  refine g_iconst rfl ?_
  refine g_iret rfl ?_
  exact ⟨rfl, rfl⟩
set_option maxRecDepth 100000 in
theorem x_measX {w : aW} {d : Nat} (hd : 30 ≤ d) {h : aH} {c : Nat} (ci : CI h c) {S : aS} (xt : XT h c S) (ok : OkT S) (xn : XN (hV h) c S) (okn : OkN S) (tx : ∀ i < 12, hT h (w i) = (8, i)) (k : Int) (hk : k < 0 ∨ 7 ≤ k) (a b e : Int) : WP w d 208 [aO (some c), aI k, aI a, aI b, aI e] h (RI (fun r h1 => h1 = h ∧ r = -1)) := by
  obtain ⟨d, rfl⟩ : ∃ d1, d = d1 + 1 := ⟨d - 1, by omega⟩
  refine WP.enter (cd := cd_X11_measure) rfl ?_
  have hls : largs 0 [aO (some c), aI k, aI a, aI b, aI e] = [(0, aO (some c)), (1, aI k), (2, aI a), (3, aI b), (4, aI e)] := rfl
  rw [hls]
  clear hls
  refine g_aload_n rfl rfl ?_
  refine g_ldcT rfl (by decide) ?_
  refine g_iload_n rfl rfl ?_
  refine g_callSI [aO (some (w 5)), aI k] [aO (some c)] rfl rfl rfl rfl (Nat.le_of_ble_eq_true rfl) (x_sortAt (by omega) (tx 5 (by omega)) (by omega) k) ?_
  rintro _ hq1 ⟨ehq1, rfl⟩
  rw [ehq1, chAt_no (n := 7) (by first | exact txt_lenX.1 | exact txt_lenX.2.1 | exact txt_lenX.2.2.2.1 | exact txt_lenX.2.2.2.2) (by omega)]
  clear ehq1 hq1
  refine g_iload_n rfl rfl ?_
  refine g_callVI [aI 63, aI a] [] rfl rfl rfl rfl (Nat.le_of_ble_eq_true rfl) (ci.1.kd 0 (by omega) rfl) (x_isA (by omega) ci xt ok xn okn 63 a) ?_
  rintro _ hq ⟨ehq, rfl⟩
  rw [ehq, if_neg is63]
  clear ehq hq
  refine g_if_eq_t rfl (by omega) ?_
  refine g_iconst rfl ?_
  refine g_iret rfl ?_
  exact ⟨rfl, rfl⟩
set_option maxRecDepth 100000 in
theorem x_holdsX {w : aW} {d : Nat} (hd : 30 ≤ d) {h : aH} {c : Nat} (ci : CI h c) {S : aS} (xt : XT h c S) (ok : OkT S) (xn : XN (hV h) c S) (okn : OkN S) (tx : ∀ i < 12, hT h (w i) = (8, i)) (k : Int) (hk : k < 0 ∨ 15 ≤ k) (a b e f : Int) : WP w d 209 [aO (some c), aI k, aI a, aI b, aI e, aI f] h (RI (fun r h1 => h1 = h ∧ r = -1)) := by
  obtain ⟨d, rfl⟩ : ∃ d1, d = d1 + 1 := ⟨d - 1, by omega⟩
  refine WP.enter (cd := cd_X11_holds) rfl ?_
  have hls : largs 0 [aO (some c), aI k, aI a, aI b, aI e, aI f] = [(0, aO (some c)), (1, aI k), (2, aI a), (3, aI b), (4, aI e), (5, aI f)] := rfl
  rw [hls]
  clear hls
  refine g_aload_n rfl rfl ?_
  refine g_ldcT rfl (by decide) ?_
  refine g_iload_n rfl rfl ?_
  refine g_callSI [aO (some (w 8)), aI k] [aO (some c)] rfl rfl rfl rfl (Nat.le_of_ble_eq_true rfl) (x_sortAt (by omega) (tx 8 (by omega)) (by omega) k) ?_
  rintro _ hq1 ⟨ehq1, rfl⟩
  rw [ehq1, chAt_no (n := 15) (by first | exact txt_lenX.1 | exact txt_lenX.2.1 | exact txt_lenX.2.2.2.1 | exact txt_lenX.2.2.2.2) (by omega)]
  clear ehq1 hq1
  refine g_iload_n rfl rfl ?_
  refine g_callVI [aI 63, aI a] [] rfl rfl rfl rfl (Nat.le_of_ble_eq_true rfl) (ci.1.kd 0 (by omega) rfl) (x_isA (by omega) ci xt ok xn okn 63 a) ?_
  rintro _ hq ⟨ehq, rfl⟩
  rw [ehq, if_neg is63]
  clear ehq hq
  refine g_if_eq_t rfl (by omega) ?_
  refine g_iconst rfl ?_
  refine g_iret rfl ?_
  exact ⟨rfl, rfl⟩
set_option maxRecDepth 100000 in
theorem m_stepX {w : aW} {d : Nat} (hd : 30 ≤ d) {h : aH} {o : Nat} (ms : MS h o) (V : Nat → Nat → Int) (k : Int) (hk : k < 0 ∨ 20 ≤ k) (a b : Int) : WP w d 307 [aO (some o), aI k, aI a, aI b] (hw h V) (RI (fun r h1 => h1 = hw h (vset (vset V o 31 0) o 1 0) ∧ r = -1)) := by
  obtain ⟨d, rfl⟩ : ∃ d1, d = d1 + 1 := ⟨d - 1, by omega⟩
  refine WP.enter (cd := cd_X12_step) rfl ?_
  have hls : largs 0 [aO (some o), aI k, aI a, aI b] = [(0, aO (some o)), (1, aI k), (2, aI a), (3, aI b)] := rfl
  rw [hls]
  clear hls
  refine g_aload_n rfl rfl ?_
  refine g_iconst rfl ?_
  refine g_putI rfl ms.1 ?_
  refine g_hp (h2 := hw h (vset V o 31 0)) rfl ?_
  refine g_aload_n rfl rfl ?_
  refine g_iconst rfl ?_
  refine g_putI rfl ms.1 ?_
  refine g_hp (h2 := hw h (vset (vset V o 31 0) o 1 0)) rfl ?_
  refine g_iload_n rfl rfl ?_
  refine g_i2l rfl ?_
  refine g_lconst0 rfl ?_
  refine g_ldc2 rfl ?_
  refine g_callSI [aJ k, aJ 0, aJ 19] [] rfl rfl rfl rfl (Nat.le_of_ble_eq_true rfl) (c_in (by omega) _ _ _ _) ?_
  rintro x1 _ ⟨rfl, rfl⟩
  rw [if_neg (by omega)]
  refine g_if_eq_t rfl (by omega) ?_
  refine g_iconst rfl ?_
  refine g_iret rfl ?_
  exact ⟨rfl, rfl⟩
set_option maxRecDepth 100000 in
theorem m_threeX {w : aW} {d : Nat} (hd : 30 ≤ d) {h : aH} {o : Nat} (ms : MS h o) (V : Nat → Nat → Int) (k : Int) (hk : k < 0 ∨ 9 ≤ k) (a b e : Int) : WP w d 312 [aO (some o), aI k, aI a, aI b, aI e] (hw h V) (RI (fun r h1 => h1 = hw h (vset (vset V o 31 0) o 1 0) ∧ r = -1)) := by
  obtain ⟨d, rfl⟩ : ∃ d1, d = d1 + 1 := ⟨d - 1, by omega⟩
  refine WP.enter (cd := cd_X12_three) rfl ?_
  have hls : largs 0 [aO (some o), aI k, aI a, aI b, aI e] = [(0, aO (some o)), (1, aI k), (2, aI a), (3, aI b), (4, aI e)] := rfl
  rw [hls]
  clear hls
  refine g_aload_n rfl rfl ?_
  refine g_iconst rfl ?_
  refine g_putI rfl ms.1 ?_
  refine g_hp (h2 := hw h (vset V o 31 0)) rfl ?_
  refine g_aload_n rfl rfl ?_
  refine g_iconst rfl ?_
  refine g_putI rfl ms.1 ?_
  refine g_hp (h2 := hw h (vset (vset V o 31 0) o 1 0)) rfl ?_
  refine g_iload_n rfl rfl ?_
  refine g_i2l rfl ?_
  refine g_lconst0 rfl ?_
  refine g_ldc2 rfl ?_
  refine g_callSI [aJ k, aJ 0, aJ 8] [] rfl rfl rfl rfl (Nat.le_of_ble_eq_true rfl) (c_in (by omega) _ _ _ _) ?_
  rintro x1 _ ⟨rfl, rfl⟩
  rw [if_neg (by omega)]
  refine g_if_eq_t rfl (by omega) ?_
  refine g_iconst rfl ?_
  refine g_istore (l1 := [(5, aI 0), (0, aO (some o)), (1, aI k), (2, aI a), (3, aI b), (4, aI e)]) rfl rfl ?_
  refine g_iload rfl rfl ?_
  refine g_if_eq_t rfl (by omega) ?_
  refine g_iconst rfl ?_
  refine g_istore (l1 := [(5, aI 0), (0, aO (some o)), (1, aI k), (2, aI a), (3, aI b), (4, aI e)]) rfl rfl ?_
  refine g_iload rfl rfl ?_
  refine g_if_ne_f rfl (by omega) ?_
  refine g_iconst rfl ?_
  refine g_iret rfl ?_
  exact ⟨rfl, rfl⟩
set_option maxRecDepth 100000 in
theorem m_measX {w : aW} {d : Nat} (hd : 30 ≤ d) {h : aH} {o : Nat} (ms : MS h o) (V : Nat → Nat → Int) (k : Int) (hk : k < 0 ∨ 7 ≤ k) (a b e : Int) : WP w d 320 [aO (some o), aI k, aI a, aI b, aI e] (hw h V) (RI (fun r h1 => h1 = hw h (vset (vset V o 31 0) o 1 0) ∧ r = -1)) := by
  obtain ⟨d, rfl⟩ : ∃ d1, d = d1 + 1 := ⟨d - 1, by omega⟩
  refine WP.enter (cd := cd_X12_measure) rfl ?_
  have hls : largs 0 [aO (some o), aI k, aI a, aI b, aI e] = [(0, aO (some o)), (1, aI k), (2, aI a), (3, aI b), (4, aI e)] := rfl
  rw [hls]
  clear hls
  refine g_aload_n rfl rfl ?_
  refine g_iconst rfl ?_
  refine g_putI rfl ms.1 ?_
  refine g_hp (h2 := hw h (vset V o 31 0)) rfl ?_
  refine g_aload_n rfl rfl ?_
  refine g_iconst rfl ?_
  refine g_putI rfl ms.1 ?_
  refine g_hp (h2 := hw h (vset (vset V o 31 0) o 1 0)) rfl ?_
  refine g_iload_n rfl rfl ?_
  refine g_i2l rfl ?_
  refine g_lconst0 rfl ?_
  refine g_ldc2 rfl ?_
  refine g_callSI [aJ k, aJ 0, aJ 6] [] rfl rfl rfl rfl (Nat.le_of_ble_eq_true rfl) (c_in (by omega) _ _ _ _) ?_
  rintro x1 _ ⟨rfl, rfl⟩
  rw [if_neg (by omega)]
  refine g_if_eq_t rfl (by omega) ?_
  refine g_iconst rfl ?_
  refine g_istore (l1 := [(5, aI 0), (0, aO (some o)), (1, aI k), (2, aI a), (3, aI b), (4, aI e)]) rfl rfl ?_
  refine g_iload rfl rfl ?_
  refine g_if_eq_t rfl (by omega) ?_
  refine g_iconst rfl ?_
  refine g_istore (l1 := [(5, aI 0), (0, aO (some o)), (1, aI k), (2, aI a), (3, aI b), (4, aI e)]) rfl rfl ?_
  refine g_iload rfl rfl ?_
  refine g_if_ne_f rfl (by omega) ?_
  refine g_iconst rfl ?_
  refine g_iret rfl ?_
  exact ⟨rfl, rfl⟩
set_option maxRecDepth 100000 in
theorem m_holdsX {w : aW} {d : Nat} (hd : 30 ≤ d) {h : aH} {o : Nat} (ms : MS h o) (V : Nat → Nat → Int) (k : Int) (hk : k < 0 ∨ 15 ≤ k) (a b e f : Int) : WP w d 324 [aO (some o), aI k, aI a, aI b, aI e, aI f] (hw h V) (RI (fun r h1 => h1 = hw h (vset (vset V o 31 0) o 1 0) ∧ r = -1)) := by
  obtain ⟨d, rfl⟩ : ∃ d1, d = d1 + 1 := ⟨d - 1, by omega⟩
  refine WP.enter (cd := cd_X12_holds) rfl ?_
  have hls : largs 0 [aO (some o), aI k, aI a, aI b, aI e, aI f] = [(0, aO (some o)), (1, aI k), (2, aI a), (3, aI b), (4, aI e), (5, aI f)] := rfl
  rw [hls]
  clear hls
  refine g_aload_n rfl rfl ?_
  refine g_iconst rfl ?_
  refine g_putI rfl ms.1 ?_
  refine g_hp (h2 := hw h (vset V o 31 0)) rfl ?_
  refine g_aload_n rfl rfl ?_
  refine g_iconst rfl ?_
  refine g_putI rfl ms.1 ?_
  refine g_hp (h2 := hw h (vset (vset V o 31 0) o 1 0)) rfl ?_
  refine g_iload_n rfl rfl ?_
  refine g_i2l rfl ?_
  refine g_lconst0 rfl ?_
  refine g_ldc2 rfl ?_
  refine g_callSI [aJ k, aJ 0, aJ 14] [] rfl rfl rfl rfl (Nat.le_of_ble_eq_true rfl) (c_in (by omega) _ _ _ _) ?_
  rintro x1 _ ⟨rfl, rfl⟩
  rw [if_neg (by omega)]
  refine g_if_ne_f rfl (by omega) ?_
  refine g_iconst rfl ?_
  refine g_iret rfl ?_
  exact ⟨rfl, rfl⟩
