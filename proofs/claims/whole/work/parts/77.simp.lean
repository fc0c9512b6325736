/-! the simplest fraction between two -/
theorem smw_dec {a b c f : Nat} (h : ¬(b = 0 ∨ f = 0 ∨ a / b * b = a ∨ (a / b + 1) * f ≤ c)) : (c - a / b * f) + (a - a / b * b) < b + f := by
  have h1 : 0 < b := by omega
  have h2 : ¬ (a / b + 1) * f ≤ c := fun u => h (Or.inr (Or.inr (Or.inr u)))
  have h3 := Nat.mod_lt a h1
  have h4 := Nat.div_add_mod a b
  have h5 : b * (a / b) = a / b * b := Nat.mul_comm _ _
  rw [Nat.add_mul, Nat.one_mul] at h2
  omega
def smW (a b c f p0 q0 p1 q1 : Nat) : Nat × Nat := if h : b = 0 ∨ f = 0 ∨ a / b * b = a ∨ (a / b + 1) * f ≤ c then (if a / b * b = a then (a / b * p1 + p0, a / b * q1 + q0) else ((a / b + 1) * p1 + p0, (a / b + 1) * q1 + q0)) else smW f (c - a / b * f) b (a - a / b * b) p1 q1 (a / b * p1 + p0) (a / b * q1 + q0)
termination_by b + f
decreasing_by exact smw_dec h
def SmI (a b c f p0 q0 p1 q1 : Nat) : Prop := 0 < b ∧ 0 < f ∧ a * f ≤ c * b ∧ a ≤ 1073741824 ∧ b ≤ 1073741824 ∧ c ≤ 1073741824 ∧ f ≤ 1073741824 ∧ a * p1 + b * p0 ≤ 1073741824 ∧ a * q1 + b * q0 ≤ 1073741824 ∧ c * p1 + f * p0 ≤ 1073741824 ∧ c * q1 + f * q0 ≤ 1073741824 ∧ (p1 * q0 = p0 * q1 + 1 ∨ p0 * q1 = p1 * q0 + 1) ∧ (q0 = 0 → b ≤ a)
theorem SmI.hb {a b c f p0 q0 p1 q1 : Nat} (i : SmI a b c f p0 q0 p1 q1) : 0 < b := i.1
theorem SmI.hf {a b c f p0 q0 p1 q1 : Nat} (i : SmI a b c f p0 q0 p1 q1) : 0 < f := i.2.1
theorem SmI.ho {a b c f p0 q0 p1 q1 : Nat} (i : SmI a b c f p0 q0 p1 q1) : a * f ≤ c * b := i.2.2.1
theorem SmI.ha {a b c f p0 q0 p1 q1 : Nat} (i : SmI a b c f p0 q0 p1 q1) : a ≤ 1073741824 := i.2.2.2.1
theorem SmI.hb2 {a b c f p0 q0 p1 q1 : Nat} (i : SmI a b c f p0 q0 p1 q1) : b ≤ 1073741824 := i.2.2.2.2.1
theorem SmI.hc {a b c f p0 q0 p1 q1 : Nat} (i : SmI a b c f p0 q0 p1 q1) : c ≤ 1073741824 := i.2.2.2.2.2.1
theorem SmI.hf2 {a b c f p0 q0 p1 q1 : Nat} (i : SmI a b c f p0 q0 p1 q1) : f ≤ 1073741824 := i.2.2.2.2.2.2.1
theorem SmI.s1 {a b c f p0 q0 p1 q1 : Nat} (i : SmI a b c f p0 q0 p1 q1) : a * p1 + b * p0 ≤ 1073741824 := i.2.2.2.2.2.2.2.1
theorem SmI.s2 {a b c f p0 q0 p1 q1 : Nat} (i : SmI a b c f p0 q0 p1 q1) : a * q1 + b * q0 ≤ 1073741824 := i.2.2.2.2.2.2.2.2.1
theorem SmI.s3 {a b c f p0 q0 p1 q1 : Nat} (i : SmI a b c f p0 q0 p1 q1) : c * p1 + f * p0 ≤ 1073741824 := i.2.2.2.2.2.2.2.2.2.1
theorem SmI.s4 {a b c f p0 q0 p1 q1 : Nat} (i : SmI a b c f p0 q0 p1 q1) : c * q1 + f * q0 ≤ 1073741824 := i.2.2.2.2.2.2.2.2.2.2.1
theorem SmI.dt {a b c f p0 q0 p1 q1 : Nat} (i : SmI a b c f p0 q0 p1 q1) : (p1 * q0 = p0 * q1 + 1 ∨ p0 * q1 = p1 * q0 + 1) := i.2.2.2.2.2.2.2.2.2.2.2.1
theorem SmI.z {a b c f p0 q0 p1 q1 : Nat} (i : SmI a b c f p0 q0 p1 q1) : (q0 = 0 → b ≤ a) := i.2.2.2.2.2.2.2.2.2.2.2.2
theorem sm_le {t x y p q : Nat} (hx : 0 < x) (h : t * x ≤ y) : t * p + q ≤ y * p + x * q := by
  have h1 : t * p + q ≤ x * (t * p + q) := Nat.le_mul_of_pos_left _ hx
  have h2 : x * (t * p + q) = t * x * p + x * q := by grind
  have h3 := Nat.mul_le_mul_right p h
  omega
theorem sm_div {a b : Nat} (hb : 0 < b) : a / b * b ≤ a ∧ a < a / b * b + b := by
  have h3 := Nat.mod_lt a hb
  have h4 := Nat.div_add_mod a b
  have h5 : b * (a / b) = a / b * b := Nat.mul_comm _ _
  omega
theorem SmI.tw {a b c f p0 q0 p1 q1 : Nat} (i : SmI a b c f p0 q0 p1 q1) : a / b * p1 + p0 ≤ 1073741824 ∧ a / b * q1 + q0 ≤ 1073741824 :=
  ⟨Nat.le_trans (sm_le i.hb (sm_div i.hb).1) i.s1, Nat.le_trans (sm_le i.hb (sm_div i.hb).1) i.s2⟩
theorem SmI.tu {a b c f p0 q0 p1 q1 : Nat} (i : SmI a b c f p0 q0 p1 q1) (h : (a / b + 1) * f ≤ c) : (a / b + 1) * p1 + p0 ≤ 1073741824 ∧ (a / b + 1) * q1 + q0 ≤ 1073741824 :=
  ⟨Nat.le_trans (sm_le i.hf h) i.s3, Nat.le_trans (sm_le i.hf h) i.s4⟩
theorem SmI.tf {a b c f p0 q0 p1 q1 : Nat} (i : SmI a b c f p0 q0 p1 q1) : a / b * f ≤ c := by
  have h1 := (sm_div (a := a) i.hb).1
  have h2 : a / b * b * f ≤ c * b := Nat.le_trans (Nat.mul_le_mul_right f h1) i.ho
  have h3 : a / b * b * f = a / b * f * b := by grind
  rw [h3] at h2
  exact Nat.le_of_mul_le_mul_right h2 i.hb
theorem SmI.next {a b c f p0 q0 p1 q1 : Nat} (i : SmI a b c f p0 q0 p1 q1) (h1 : ¬ a / b * b = a) (h2 : ¬ (a / b + 1) * f ≤ c) : SmI f (c - a / b * f) b (a - a / b * b) p1 q1 (a / b * p1 + p0) (a / b * q1 + q0) := by
  have ht := i.tw
  have hd := sm_div (a := a) i.hb
  have htf := i.tf
  obtain ⟨t, e⟩ : ∃ t, t = a / b := ⟨_, rfl⟩
  rw [← e] at h1 h2 ht hd htf ⊢
  obtain ⟨r, rfl⟩ : ∃ r, a = t * b + r := ⟨a - t * b, by omega⟩
  obtain ⟨u, rfl⟩ : ∃ u, c = t * f + u := ⟨c - t * f, by omega⟩
  rw [Nat.add_mul, Nat.one_mul] at h2
  have e1 : t * b + r - t * b = r := by omega
  have e2 : t * f + u - t * f = u := by omega
  rw [e1, e2]
  obtain ⟨hb, hf, ho, ha, hb2, hc, hf2, s1, s2, s3, s4, dt, z⟩ := i
  have ho2 : r * f ≤ u * b := by
    have q1 : (t * b + r) * f = t * b * f + r * f := by grind
    have q2 : (t * f + u) * b = t * b * f + u * b := by grind
    omega
  have hu : 0 < u := by
    rcases Nat.eq_zero_or_pos u with q | q
    · exfalso
      rw [q, Nat.zero_mul] at ho2
      have := Nat.mul_pos (show 0 < r by omega) hf
      omega
    · exact q
  have g1 : f * (t * p1 + p0) + u * p1 = (t * f + u) * p1 + f * p0 := by grind
  have g2 : f * (t * q1 + q0) + u * q1 = (t * f + u) * q1 + f * q0 := by grind
  have g3 : b * (t * p1 + p0) + r * p1 = (t * b + r) * p1 + b * p0 := by grind
  have g4 : b * (t * q1 + q0) + r * q1 = (t * b + r) * q1 + b * q0 := by grind
  have g5 : (t * p1 + p0) * q1 = t * p1 * q1 + p0 * q1 := by grind
  have g6 : p1 * (t * q1 + q0) = t * p1 * q1 + p1 * q0 := by grind
  have g7 : f * r = r * f := Nat.mul_comm _ _
  have g8 : b * u = u * b := Nat.mul_comm _ _
  exact ⟨hu, by omega, by omega, hf2, by omega, hb2, by omega, by omega, by omega, by omega, by omega, by omega, fun _ => by omega⟩
theorem sm_gcd {r s p q : Nat} (h : r * q = s * p + 1 ∨ s * p = r * q + 1) : Int.gcd (r : Int) (s : Int) = 1 := by
  rw [Int.gcd_natCast_natCast]
  have h1 : Nat.gcd r s ∣ r * q := Nat.dvd_trans (Nat.gcd_dvd_left r s) (Nat.dvd_mul_right r q)
  have h2 : Nat.gcd r s ∣ s * p := Nat.dvd_trans (Nat.gcd_dvd_right r s) (Nat.dvd_mul_right s p)
  rcases h with h | h
  · rw [h] at h1
    exact Nat.dvd_one.mp ((Nat.dvd_add_right h2).mp h1)
  · rw [h] at h2
    exact Nat.dvd_one.mp ((Nat.dvd_add_right h1).mp h2)
theorem sm_fin {t p0 q0 p1 q1 : Nat} (dt : p1 * q0 = p0 * q1 + 1 ∨ p0 * q1 = p1 * q0 + 1) (h1 : t * p1 + p0 ≤ 1073741824) (h2 : t * q1 + q0 ≤ 1073741824) (h3 : 0 < t * q1 + q0) : NuOk (((t * p1 + p0 : Nat) : Int), ((t * q1 + q0 : Nat) : Int)) := by
  have g5 : (t * p1 + p0) * q1 = t * p1 * q1 + p0 * q1 := by grind
  have g6 : (t * q1 + q0) * p1 = t * p1 * q1 + p1 * q0 := by grind
  exact ⟨by show (0 : Int) < ((t * q1 + q0 : Nat) : Int); omega, by show ((t * q1 + q0 : Nat) : Int) ≤ 1073741824; omega, by show (-1073741824 : Int) ≤ ((t * p1 + p0 : Nat) : Int); omega, by show ((t * p1 + p0 : Nat) : Int) ≤ 1073741824; omega, sm_gcd (p := p1) (q := q1) (by omega)⟩
theorem smW_ok (k : Nat) : ∀ {a b c f p0 q0 p1 q1 : Nat}, b + f ≤ k → SmI a b c f p0 q0 p1 q1 → NuOk (((smW a b c f p0 q0 p1 q1).1 : Int), ((smW a b c f p0 q0 p1 q1).2 : Int)) := by
  induction k with
  | zero => intro a b c f p0 q0 p1 q1 hk i; have := i.hb; omega
  | succ k ih =>
    intro a b c f p0 q0 p1 q1 hk i
    rw [smW]
    by_cases h : b = 0 ∨ f = 0 ∨ a / b * b = a ∨ (a / b + 1) * f ≤ c
    · rw [dif_pos h]
      by_cases h1 : a / b * b = a
      · rw [if_pos h1]
        refine sm_fin i.dt i.tw.1 i.tw.2 ?_
        rcases Nat.eq_zero_or_pos q0 with q | q
        · have z := i.z q
          have e : 0 < a / b := Nat.div_pos z i.hb
          have hq1 : 0 < q1 := by
            rcases Nat.eq_zero_or_pos q1 with r | r
            · have := i.dt
              rw [q, r] at this
              omega
            · exact r
          have := Nat.mul_pos e hq1
          omega
        · omega
      · rw [if_neg h1]
        have hb := i.hb
        have hf := i.hf
        have h2 : (a / b + 1) * f ≤ c := by
          rcases h with h | h | h | h
          · omega
          · omega
          · exact absurd h h1
          · exact h
        refine sm_fin i.dt (i.tu h2).1 (i.tu h2).2 ?_
        have := i.dt
        rcases Nat.eq_zero_or_pos q0 with q | q
        · rcases Nat.eq_zero_or_pos q1 with r | r
          · rw [q, r] at this
            omega
          · exact Nat.lt_of_lt_of_le (Nat.mul_pos (Nat.succ_pos (a / b)) r) (Nat.le_add_right _ _)
        · omega
    · rw [dif_neg h]
      have hd := smw_dec h
      exact ih (by omega) (i.next (fun u => h (Or.inr (Or.inr (Or.inl u)))) (fun u => h (Or.inr (Or.inr (Or.inr u)))))
def SmT (k a b c f : Nat) : Prop := k = 0 ∨ (b ≤ a ∧ f ≤ c ∧ a * b * 2 ^ k ≤ 2 ^ 62 ∧ c * f * 2 ^ k ≤ 2 ^ 62)
theorem SmT.next {k a b c f p0 q0 p1 q1 : Nat} (i : SmI a b c f p0 q0 p1 q1) (s : SmT k a b c f) (h2 : ¬ (a / b + 1) * f ≤ c) : SmT (k + 1) f (c - a / b * f) b (a - a / b * b) := by
  have hd := sm_div (a := a) i.hb
  have htf := i.tf
  obtain ⟨t, e⟩ : ∃ t, t = a / b := ⟨_, rfl⟩
  rw [← e] at h2 hd htf ⊢
  obtain ⟨r, rfl⟩ : ∃ r, a = t * b + r := ⟨a - t * b, by omega⟩
  obtain ⟨u, rfl⟩ : ∃ u, c = t * f + u := ⟨c - t * f, by omega⟩
  rw [Nat.add_mul, Nat.one_mul] at h2
  have e1 : t * b + r - t * b = r := by omega
  have e2 : t * f + u - t * f = u := by omega
  rw [e1, e2]
  refine Or.inr ⟨by omega, by omega, ?_⟩
  have hb2 := i.hb2
  have hf2 := i.hf2
  rcases s with rfl | ⟨s1, s2, s3, s4⟩
  · have h3 : f * u ≤ 1073741824 * 1073741824 := Nat.mul_le_mul hf2 (by omega)
    have h4 : b * r ≤ 1073741824 * 1073741824 := Nat.mul_le_mul hb2 (by omega)
    omega
  · have t1 : 0 < t := by
      rcases Nat.eq_zero_or_pos t with q | q
      · exfalso
        rw [q, Nat.zero_mul] at s1 hd
        omega
      · exact q
    have b1 : b ≤ t * b := Nat.le_mul_of_pos_left b t1
    have f1 : f ≤ t * f := Nat.le_mul_of_pos_left f t1
    have w1 : 2 * r ≤ t * b + r := by omega
    have w2 : 2 * u ≤ t * f + u := by omega
    have v1 : f * u * 2 ^ (k + 1) = 2 * u * f * 2 ^ k := by rw [Nat.pow_succ]; grind
    have v2 : b * r * 2 ^ (k + 1) = 2 * r * b * 2 ^ k := by rw [Nat.pow_succ]; grind
    rw [v1, v2]
    exact ⟨Nat.le_trans (Nat.mul_le_mul_right _ (Nat.mul_le_mul_right _ w2)) s4, Nat.le_trans (Nat.mul_le_mul_right _ (Nat.mul_le_mul_right _ w1)) s3⟩
theorem SmT.lt {k a b c f p0 q0 p1 q1 : Nat} (i : SmI a b c f p0 q0 p1 q1) (s : SmT k a b c f) : k < 64 := by
  rcases s with rfl | ⟨s1, s2, s3, s4⟩
  · omega
  · have hb := i.hb
    have h3 : 1 ≤ a * b := Nat.mul_pos (by omega) hb
    rcases Nat.lt_or_ge k 64 with q | q
    · exact q
    · exfalso
      have h4 : 2 ^ 64 ≤ 2 ^ k := Nat.pow_le_pow_right (by decide) q
      have h5 := Nat.mul_le_mul h3 h4
      have h6 : (2 : Nat) ^ 62 < 1 * 2 ^ 64 := by decide
      omega
theorem SmI.start {n d m e : Nat} (hd : 0 < d) (he : 0 < e) (ho : n * e ≤ m * d) (hn : n ≤ 1073741824) (hd2 : d ≤ 1073741824) (hm : m ≤ 1073741824) (he2 : e ≤ 1073741824) : SmI n d m e 0 1 1 0 :=
  ⟨hd, he, ho, hn, hd2, hm, he2, by omega, by omega, by omega, by omega, by omega, by omega⟩
