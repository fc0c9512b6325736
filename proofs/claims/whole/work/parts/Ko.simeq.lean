/-! simple: the same on both sides -/
theorem abs_cr {u1 u2 v1 v2 : Int} (h : u1 * v2 = u2 * v1) : u1.natAbs * v2.natAbs = u2.natAbs * v1.natAbs := by
  rw [← Int.natAbs_mul, ← Int.natAbs_mul, h]
theorem mul_sg {u v : Int} (h : 0 ≤ u * v) : (0 < u → 0 ≤ v) ∧ (u < 0 → v ≤ 0) := by
  refine ⟨fun a => ?_, fun a => ?_⟩
  · rcases Int.lt_or_le v 0 with q | q
    · have := Int.mul_neg_of_pos_of_neg a q
      omega
    · exact q
  · rcases Int.lt_or_le 0 v with q | q
    · have := Int.mul_neg_of_neg_of_pos a q
      omega
    · exact q
theorem box_mul {u v : Int} (h : btw u v 0) : 0 ≤ u * v := by
  unfold btw at h
  rcases Int.lt_trichotomy u 0 with q | q | q
  · exact Int.mul_nonneg_of_nonpos_of_nonpos (by omega) (by omega)
  · rw [q, Int.zero_mul]
    omega
  · exact Int.mul_nonneg (by omega) (by omega)
theorem back_box {u1 u2 v1 v2 : Int} (hu : ¬(u1 = 0 ∧ u2 = 0)) (hc : u1 * v2 = u2 * v1) : 0 < u1 * v1 + u2 * v2 ↔ ((¬(v1 = 0 ∧ v2 = 0) ∧ btw u1 v1 0 ∧ btw u2 v2 0) ∨ (btw v1 u1 0 ∧ btw v2 u2 0)) := by
  constructor
  · intro hd
    have e : (u1 * v1) * (u2 * v2) = (u1 * v2) * (u1 * v2) := by
      have e1 : (u1 * v1) * (u2 * v2) = (u1 * v2) * (u2 * v1) := by grind
      rw [e1, ← hc]
    have hs : 0 ≤ (u1 * v2) * (u1 * v2) := by
      rcases Int.le_total 0 (u1 * v2) with q | q
      · exact Int.mul_nonneg q q
      · exact Int.mul_nonneg_of_nonpos_of_nonpos q q
    have p1 : 0 ≤ u1 * v1 := by
      rcases Int.lt_or_le (u1 * v1) 0 with q | q
      · have := Int.mul_neg_of_neg_of_pos q (show 0 < u2 * v2 by omega)
        omega
      · exact q
    have p2 : 0 ≤ u2 * v2 := by
      rcases Int.lt_or_le (u2 * v2) 0 with q | q
      · have := Int.mul_neg_of_pos_of_neg (show 0 < u1 * v1 by omega) q
        omega
      · exact q
    have s1 := mul_sg p1
    have s2 := mul_sg p2
    have t1 := mul_sg (show 0 ≤ v1 * u1 by rw [Int.mul_comm]; exact p1)
    have t2 := mul_sg (show 0 ≤ v2 * u2 by rw [Int.mul_comm]; exact p2)
    have ha := abs_cr hc
    have hv : ¬(v1 = 0 ∧ v2 = 0) := by
      rintro ⟨rfl, rfl⟩
      rw [Int.mul_zero, Int.mul_zero] at hd
      omega
    by_cases q1 : v1.natAbs ≤ u1.natAbs
    · by_cases q2 : v2.natAbs ≤ u2.natAbs
      · left
        refine ⟨hv, ?_, ?_⟩
        · unfold btw
          omega
        · unfold btw
          omega
      · by_cases q3 : u1.natAbs ≤ v1.natAbs
        · right
          unfold btw
          constructor <;> omega
        · exfalso
          have h1 : (v1.natAbs + 1) * (u2.natAbs + 1) ≤ u1.natAbs * v2.natAbs := Nat.mul_le_mul (by omega) (by omega)
          have h2 : (v1.natAbs + 1) * (u2.natAbs + 1) = v1.natAbs * u2.natAbs + v1.natAbs + u2.natAbs + 1 := by grind
          have h3 : u2.natAbs * v1.natAbs = v1.natAbs * u2.natAbs := Nat.mul_comm _ _
          omega
    · by_cases q2 : u2.natAbs ≤ v2.natAbs
      · right
        unfold btw
        constructor <;> omega
      · exfalso
        have h1 : (u1.natAbs + 1) * (v2.natAbs + 1) ≤ v1.natAbs * u2.natAbs := Nat.mul_le_mul (by omega) (by omega)
        have h2 : (u1.natAbs + 1) * (v2.natAbs + 1) = u1.natAbs * v2.natAbs + u1.natAbs + v2.natAbs + 1 := by grind
        have h3 : u2.natAbs * v1.natAbs = v1.natAbs * u2.natAbs := Nat.mul_comm _ _
        omega
  · rintro (⟨hv, b1, b2⟩ | ⟨b1, b2⟩)
    · have p1 := box_mul b1
      have p2 := box_mul b2
      rcases Int.lt_or_le 0 (u1 * v1 + u2 * v2) with q | q
      · exact q
      · exfalso
        unfold btw at b1 b2
        rcases Int.mul_eq_zero.mp (show u1 * v1 = 0 by omega) with z1 | z1 <;> rcases Int.mul_eq_zero.mp (show u2 * v2 = 0 by omega) with z2 | z2 <;> exact hv ⟨by omega, by omega⟩
    · have p1 := box_mul b1
      have p2 := box_mul b2
      rw [Int.mul_comm v1, Int.mul_comm v2] at *
      rcases Int.lt_or_le 0 (u1 * v1 + u2 * v2) with q | q
      · exact q
      · exfalso
        unfold btw at b1 b2
        rcases Int.mul_eq_zero.mp (show u1 * v1 = 0 by omega) with z1 | z1 <;> rcases Int.mul_eq_zero.mp (show u2 * v2 = 0 by omega) with z2 | z2 <;> exact hu ⟨by omega, by omega⟩
theorem gT_uv (S : aS) (p a b q : Nat) : gT S p a b q = (gy S p a - gy S p b) * (gx S p q - gx S p b) - (gx S p a - gx S p b) * (gy S p q - gy S p b) ∧ gT S p b q a = (gy S p a - gy S p b) * (gx S p q - gx S p b) - (gx S p a - gx S p b) * (gy S p q - gy S p b) := by
  unfold gT
  constructor <;> grind
theorem back_only {S : aS} {p a b q : Nat} (h : ¬ gSame S p a b) : gBack S p a b q ↔ ¬ gOnly S p a b q := by
  obtain ⟨e1, e2⟩ := gT_uv S p a b q
  by_cases hc : (gx S p a - gx S p b) * (gy S p q - gy S p b) = (gy S p a - gy S p b) * (gx S p q - gx S p b)
  · have hb := back_box (u1 := gx S p a - gx S p b) (u2 := gy S p a - gy S p b) (v1 := gx S p q - gx S p b) (v2 := gy S p q - gy S p b) (by unfold gSame at h; omega) hc
    have z1 : gT S p a b q = 0 := by omega
    have z2 : gT S p b q a = 0 := by omega
    constructor
    · rintro ⟨-, h2⟩ ⟨n1, n2⟩
      rcases hb.mp h2 with ⟨x1, x2, x3⟩ | ⟨x2, x3⟩
      · refine n1 ⟨fun y => x1 ⟨by have := y.1; omega, by have := y.2; omega⟩, z1, ?_, ?_⟩
        · unfold btw at x2 ⊢
          omega
        · unfold btw at x3 ⊢
          omega
      · refine n2 ⟨h, z2, ?_, ?_⟩
        · unfold btw at x2 ⊢
          omega
        · unfold btw at x3 ⊢
          omega
    · intro n
      refine ⟨z1, hb.mpr ?_⟩
      by_cases y1 : ¬ gSame S p q b ∧ gOn S p a b q
      · obtain ⟨y2, -, y3, y4⟩ := y1
        refine Or.inl ⟨fun y => y2 ⟨by have := y.1; omega, by have := y.2; omega⟩, ?_, ?_⟩
        · unfold btw at y3 ⊢
          omega
        · unfold btw at y4 ⊢
          omega
      · have y2 : ¬ gSame S p a b ∧ gOn S p b q a := Classical.byContradiction fun y => n ⟨y1, y⟩
        obtain ⟨-, -, y3, y4⟩ := y2
        refine Or.inr ⟨?_, ?_⟩
        · unfold btw at y3 ⊢
          omega
        · unfold btw at y4 ⊢
          omega
  · have z1 : gT S p a b q ≠ 0 := by omega
    have z2 : gT S p b q a ≠ 0 := by omega
    constructor
    · intro y
      exact absurd y.1 z1
    · intro n
      exact absurd ⟨fun y => z1 y.2.1, fun y => z2 y.2.1⟩ n
theorem aft_ij {S : aS} {p i j : Nat} (hij : i < j) (hj : j < sGn S p) : (gAft S p i = j ↔ j = i + 1) ∧ (gAft S p j = i ↔ (i = 0 ∧ j = sGn S p - 1)) := by
  unfold gAft
  constructor
  · split <;> omega
  · split <;> omega
theorem sim_iff (S : aS) (p : Nat) : gSim S p ↔ gSim2 S p := by
  have key : 3 ≤ sGn S p → ∀ i j, i < j → j < sGn S p → ((¬ gSame S p i j ∧ ¬ gOdd S p i j) ↔ gPr S p i j) := fun hn i j hij hj => by
    obtain ⟨a1, a2⟩ := aft_ij hij hj
    by_cases hs : gSame S p i j
    · exact ⟨fun z => absurd hs z.1, fun z => absurd hs z.1⟩
    · have hs2 : ¬ gSame S p j i := fun z => hs ⟨z.1.symm, z.2.symm⟩
      by_cases c1 : j = i + 1
      · have e1 : gAft S p i = j := a1.mpr c1
        have hb := back_only (q := gAft S p j) hs
        constructor
        · rintro ⟨-, h2⟩
          refine ⟨hs, fun _ => ?_, fun z => by omega, fun z => by omega⟩
          rw [e1]
          exact Classical.byContradiction fun y => h2 (Or.inl ⟨e1, hb.mpr y⟩)
        · rintro ⟨-, h2, -⟩
          refine ⟨hs, ?_⟩
          have h2 := h2 c1
          rw [e1] at h2
          rintro (⟨-, y⟩ | ⟨y, -⟩ | ⟨y, -⟩)
          · exact hb.mp y h2
          · exact y e1
          · exact y e1
      · by_cases c2 : i = 0 ∧ j = sGn S p - 1
        · have e2 : gAft S p j = i := a2.mpr c2
          have e1 : ¬ gAft S p i = j := fun z => c1 (a1.mp z)
          have hb := back_only (q := gAft S p i) hs2
          constructor
          · rintro ⟨-, h2⟩
            refine ⟨hs, fun z => absurd z c1, fun _ => ?_, fun z => absurd c2 z.2⟩
            exact Classical.byContradiction fun y => h2 (Or.inr (Or.inl ⟨e1, e2, hb.mpr y⟩))
          · rintro ⟨-, -, h2, -⟩
            refine ⟨hs, ?_⟩
            rintro (⟨y, -⟩ | ⟨-, -, y⟩ | ⟨-, y, -⟩)
            · exact e1 y
            · exact hb.mp y (h2 c2)
            · exact y e2
        · have e2 : ¬ gAft S p j = i := fun z => c2 (a2.mp z)
          have e1 : ¬ gAft S p i = j := fun z => c1 (a1.mp z)
          constructor
          · rintro ⟨-, h2⟩
            exact ⟨hs, fun z => absurd z c1, fun z => absurd z c2, fun _ y => h2 (Or.inr (Or.inr ⟨e1, e2, y⟩))⟩
          · rintro ⟨-, -, -, h2⟩
            refine ⟨hs, ?_⟩
            rintro (⟨y, -⟩ | ⟨-, y, -⟩ | ⟨-, -, y⟩)
            · exact e1 y
            · exact e2 y
            · exact h2 ⟨c1, c2⟩ y
  constructor
  · rintro ⟨h1, h2⟩
    exact ⟨h1, fun i j a b => (key h1 i j a b).mp (h2 i j a b)⟩
  · rintro ⟨h1, h2⟩
    exact ⟨h1, fun i j a b => (key h1 i j a b).mpr (h2 i j a b)⟩
theorem bt_sim (S : aS) (p : Nat) : bt (gSim2 S p) = bt (gSim S p) := by
  have h := sim_iff S p
  by_cases q : gSim S p
  · rw [bt_iff.mpr q, bt_iff.mpr (h.mp q)]
  · have q2 : ¬ gSim2 S p := fun z => q (h.mpr z)
    have e1 : bt (gSim S p) = false := by
      cases e : bt (gSim S p)
      · rfl
      · exact absurd (bt_iff.mp e) q
    have e2 : bt (gSim2 S p) = false := by
      cases e : bt (gSim2 S p)
      · rfl
      · exact absurd (bt_iff.mp e) q2
    rw [e1, e2]
