theorem mc_all {m : Nat} (h1 : 1 ≤ m) (h2 : m ≤ 388) : mchk m = true := by
  rcases Nat.lt_or_ge m 98 with q | q
  · exact mcT0 m (List.mem_range'_1.mpr (by omega))
  rcases Nat.lt_or_ge m 195 with q | q
  · exact mcT1 m (List.mem_range'_1.mpr (by omega))
  rcases Nat.lt_or_ge m 292 with q | q
  · exact mcT2 m (List.mem_range'_1.mpr (by omega))
  · exact mcT3 m (List.mem_range'_1.mpr (by omega))
def lawOk (e : aE) : Bool := bif e.2.2.2.1 == 389 then decide (decode code e.1 = .ok (.invokestatic 21, 3)) && decide (e.2.1 = .invokestatic 21) && decide (e.2.2.1 = e.1 + 3) && decide (e.2.2.2.2.1 = 4) else echk 13 yL_law (some .boolean) 9 code e
set_option maxRecDepth 100000 in
theorem mc_law0 : ((cd_L_law.drop 0).take 75).all lawOk = true := by decide +kernel
set_option maxRecDepth 100000 in
theorem mc_law1 : ((cd_L_law.drop 75).take 75).all lawOk = true := by decide +kernel
set_option maxRecDepth 100000 in
theorem mc_law2 : ((cd_L_law.drop 150).take 75).all lawOk = true := by decide +kernel
set_option maxRecDepth 100000 in
theorem mc_law3 : ((cd_L_law.drop 225).take 75).all lawOk = true := by decide +kernel
set_option maxRecDepth 100000 in
theorem mc_law4 : ((cd_L_law.drop 300).take 75).all lawOk = true := by decide +kernel
set_option maxRecDepth 100000 in
theorem mc_law5 : ((cd_L_law.drop 375).take 75).all lawOk = true := by decide +kernel
set_option maxRecDepth 100000 in
theorem mc_law6 : ((cd_L_law.drop 450).take 75).all lawOk = true := by decide +kernel
set_option maxRecDepth 100000 in
theorem mc_law7 : ((cd_L_law.drop 525).take 75).all lawOk = true := by decide +kernel
set_option maxRecDepth 100000 in
theorem mc_law8 : ((cd_L_law.drop 600).take 75).all lawOk = true := by decide +kernel
set_option maxRecDepth 100000 in
theorem mc_law9 : ((cd_L_law.drop 675).take 75).all lawOk = true := by decide +kernel
set_option maxRecDepth 100000 in
theorem mc_law10 : ((cd_L_law.drop 750).take 75).all lawOk = true := by decide +kernel
set_option maxRecDepth 100000 in
theorem mc_law11 : ((cd_L_law.drop 825).take 75).all lawOk = true := by decide +kernel
set_option maxRecDepth 100000 in
theorem mc_law12 : ((cd_L_law.drop 900).take 75).all lawOk = true := by decide +kernel
set_option maxRecDepth 100000 in
theorem mc_law13 : ((cd_L_law.drop 975).take 75).all lawOk = true := by decide +kernel
theorem mc_law {e : aE} (h : e ∈ cd_L_law) : lawOk e = true := by
  obtain ⟨i, hi, rfl⟩ := List.mem_iff_getElem.mp h
  have hl : cd_L_law.length ≤ 1050 := by decide +kernel
  have key : ∀ n, n * 75 ≤ i → i < n * 75 + 75 → ((cd_L_law.drop (n * 75)).take 75).all lawOk = true → lawOk cd_L_law[i] = true := by
    intro n h1 h2 h3
    refine List.all_eq_true.mp h3 _ (List.mem_iff_getElem?.mpr ⟨i - n * 75, ?_⟩)
    rw [List.getElem?_take_of_lt (by omega), List.getElem?_drop, show n * 75 + (i - n * 75) = i by omega]
    exact List.getElem?_eq_getElem hi
  rcases (show i < 75 ∨ (75 ≤ i ∧ i < 150) ∨ (150 ≤ i ∧ i < 225) ∨ (225 ≤ i ∧ i < 300) ∨ (300 ≤ i ∧ i < 375) ∨ (375 ≤ i ∧ i < 450) ∨ (450 ≤ i ∧ i < 525) ∨ (525 ≤ i ∧ i < 600) ∨ (600 ≤ i ∧ i < 675) ∨ (675 ≤ i ∧ i < 750) ∨ (750 ≤ i ∧ i < 825) ∨ (825 ≤ i ∧ i < 900) ∨ (900 ≤ i ∧ i < 975) ∨ (975 ≤ i ∧ i < 1050) by omega) with q | q | q | q | q | q | q | q | q | q | q | q | q | q
  · exact key 0 (by omega) (by omega) mc_law0
  · exact key 1 (by omega) (by omega) mc_law1
  · exact key 2 (by omega) (by omega) mc_law2
  · exact key 3 (by omega) (by omega) mc_law3
  · exact key 4 (by omega) (by omega) mc_law4
  · exact key 5 (by omega) (by omega) mc_law5
  · exact key 6 (by omega) (by omega) mc_law6
  · exact key 7 (by omega) (by omega) mc_law7
  · exact key 8 (by omega) (by omega) mc_law8
  · exact key 9 (by omega) (by omega) mc_law9
  · exact key 10 (by omega) (by omega) mc_law10
  · exact key 11 (by omega) (by omega) mc_law11
  · exact key 12 (by omega) (by omega) mc_law12
  · exact key 13 (by omega) (by omega) mc_law13
set_option maxRecDepth 100000 in
theorem ml_all : mlks.all (fun e => e.2.2.1 == 389 || (wAt e.2.2.2 (.methodLink (cn e.1) e.2.1 (bif e.2.2.1 == 0 then objectInit else my e.2.2.1)) && (decide (e.2.2.1 ≤ 388) || decide (e.2.2.1 = 900) || decide (e.2.2.1 = 901)))) = true := by decide +kernel
set_option maxRecDepth 100000 in
theorem fl_all : flks.all (fun e => decide (e.2.2.1 < 13) && wAt e.2.2.2.2 (.fieldLink (cn e.1) e.2.1 (clT e.2.2.1 e.2.2.2.1).1 (clT e.2.2.1 e.2.2.2.1).2.1 (clT e.2.2.1 e.2.2.2.1).2.2.1) && decide ((clT e.2.2.1 e.2.2.2.1).1 = cn e.2.2.1)) = true := by decide +kernel
theorem cl_all : clks.all (fun e => wAt e.2.2.2 (.classLink (cn e.1) e.2.1 (cn e.2.2.1))) = true := by decide +kernel
theorem kl_all : klks.all (fun e => wAt e.2.2.2 (.constant (cn e.1) e.2.1 (Int32.ofInt e.2.2.1))) = true := by decide +kernel
theorem jl_all : jlks.all (fun e => wAt e.2.2.2 (.constantLong (cn e.1) e.2.1 (Int64.ofInt e.2.2.1))) = true := by decide +kernel
theorem sl_all : slks.all (fun e => wAt e.2.2.2 (.stringRef (cn e.1) e.2.1 (texts.getD e.2.2.1 ""))) = true := by decide +kernel
theorem cls_all : ∀ c, c < 13 → ((vwCl[c]?).map (fun q => q.1)) = some (cn c) := by decide +kernel
def inss : List (Nat × Nat × Nat × Nat) := [(0, 190, 0, 9), (0, 48, 0, 3), (0, 74, 0, 4), (0, 124, 0, 7), (0, 150, 0, 8), (2, 55, 0, 23), (0, 108, 0, 6), (0, 33, 0, 2), (0, 84, 0, 5), (1, 202, 0, 21), (1, 220, 0, 22), (0, 25, 0, 1), (6, 9, 0, 10)]
theorem ins_all : ∀ c, c < 13 → (wAt ((inss.getD c (0, 0, 0, 0)).1, (inss.getD c (0, 0, 0, 0)).2.1) (.instantiable (cn c) (clN c)) && wAt ((inss.getD c (0, 0, 0, 0)).2.2.1, (inss.getD c (0, 0, 0, 0)).2.2.2) (.initialized (cn c))) = true := by decide +kernel
def lays0 : List (List (Nat × Nat)) := [[(0, 209), (0, 211), (0, 213), (0, 215), (0, 217), (0, 219), (0, 221), (0, 223), (0, 225), (0, 227), (0, 229), (0, 231), (0, 233), (0, 235)], [(0, 61), (0, 63), (0, 65), (0, 67), (0, 69)], [(0, 80)], [(0, 136), (0, 138), (0, 140), (0, 142), (0, 144), (0, 146)], [(0, 168), (0, 170), (0, 172), (0, 174), (0, 176), (0, 178), (0, 180), (0, 182), (0, 184), (0, 186)], [(2, 96), (2, 98), (2, 100), (2, 102)], [(0, 116), (0, 118), (0, 120)], [(0, 42), (0, 44)], [(0, 95), (0, 97), (0, 99), (0, 101), (0, 103)], [(2, 10), (2, 12), (2, 14)], [(1, 227)], [(1, 7), (1, 9), (1, 11), (1, 13), (1, 15), (1, 17), (1, 19), (1, 21)], [(6, 55), (6, 57), (6, 59), (6, 61), (6, 63), (6, 65), (6, 67), (6, 69), (6, 71), (6, 73), (6, 75), (6, 77), (6, 79), (6, 81), (6, 83), (6, 85), (6, 87), (6, 89), (6, 91), (6, 93), (6, 95), (6, 97), (6, 99), (6, 101), (6, 103), (6, 105), (6, 107), (6, 109), (6, 111), (6, 113), (6, 115), (6, 117), (6, 119), (6, 121), (6, 123), (6, 125), (6, 127), (6, 129), (6, 131), (6, 133)]]
theorem lay_all : ∀ c, c < 13 → ∀ k, k < 40 → (decide (clN c ≤ k) || wAt ((lays0.getD c []).getD k (0, 0)) (u_lay (cn c) (clT c) k)) = true := by decide +kernel
theorem ty_all : ∀ c, c < 13 → ∀ k, k < 40 → (decide (clN c ≤ k) || (match parseFieldDescriptor (clT c k).2.2.1 with
  | some .int => decide (fsort (clT c k).2.2.1 = 0)
  | some .long => decide (fsort (clT c k).2.2.1 = 1)
  | some (.object _) => decide (fsort (clT c k).2.2.1 = 2)
  | some (.array _) => decide (fsort (clT c k).2.2.1 = 2)
  | _ => false)) = true := by decide +kernel
theorem nm_all : ∀ c, c < 13 → ∀ a, a < 40 → ∀ b, b < 40 → (decide (clN c ≤ a) || decide (clN c ≤ b) || decide (a = b) || decide ((clT c a).2.1 ≠ (clT c b).2.1)) = true := by decide +kernel
theorem aw_1 : Cond.arrayClass .int ∈ lw_tbl := wAt_in (q := (0, 106)) (by decide +kernel)
theorem aw_2 : Cond.arrayClass .long ∈ lw_tbl := wAt_in (q := (0, 72)) (by decide +kernel)
theorem aw_3 : Cond.arrayClass .boolean ∈ lw_tbl := wAt_in (q := (0, 238)) (by decide +kernel)
