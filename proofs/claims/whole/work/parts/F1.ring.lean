/-! both sides' rows are the same, or one is the other taken so often: printed by wip/whole/f1.py -/
theorem ri_foot_1 (x y w z a b c z2 : Int) : (p_foot_S (x, y, w) (a, b, c)).1 = (m_foot1_S (x, y, w, z) (a, b, c, z2)).1 := by
  unfold p_foot_S m_foot1_S p_farSq_S p_cross_S m_dot_S
  dsimp only
  grind
theorem ri_foot_2 (x y w z a b c z2 : Int) : (p_foot_S (x, y, w) (a, b, c)).2.1 = (m_foot1_S (x, y, w, z) (a, b, c, z2)).2.1 := by
  unfold p_foot_S m_foot1_S p_farSq_S p_cross_S m_dot_S
  dsimp only
  grind
theorem ri_foot_3 (x y w z a b c z2 : Int) : (p_foot_S (x, y, w) (a, b, c)).2.2 = (m_foot1_S (x, y, w, z) (a, b, c, z2)).2.2.1 := by
  unfold p_foot_S m_foot1_S p_farSq_S p_cross_S m_dot_S
  dsimp only
  grind
theorem ri_mirr_1 (x y w z a b c z2 : Int) : (p_mirr_S (x, y, w) (p_foot_S (x, y, w) (a, b, c))).1 = w * (m_foot2_S (x, y, w, z) (a, b, c, z2)).1 := by
  unfold p_mirr_S p_foot_S m_foot2_S p_farSq_S p_cross_S m_dot_S
  dsimp only
  grind
theorem ri_mirr_2 (x y w z a b c z2 : Int) : (p_mirr_S (x, y, w) (p_foot_S (x, y, w) (a, b, c))).2.1 = w * (m_foot2_S (x, y, w, z) (a, b, c, z2)).2.1 := by
  unfold p_mirr_S p_foot_S m_foot2_S p_farSq_S p_cross_S m_dot_S
  dsimp only
  grind
theorem ri_mirr_3 (x y w z a b c z2 : Int) : (p_mirr_S (x, y, w) (p_foot_S (x, y, w) (a, b, c))).2.2 = w * (m_foot2_S (x, y, w, z) (a, b, c, z2)).2.2.1 := by
  unfold p_mirr_S p_foot_S m_foot2_S p_farSq_S p_cross_S m_dot_S
  dsimp only
  grind
theorem ri_inv_1 (x y w k a b c : Int) : (-(2 * k)) * (p_inv_S (x, y, w) (k, a, b, c)).1 = ((((((m_bulge_S (k, a, b, c)) * w) * ((2 * k * x) + (a * w))) - (a * ((((2 * k * x) + (a * w)) * ((2 * k * x) + (a * w))) + (((2 * k * y) + (b * w)) * ((2 * k * y) + (b * w))))), (((m_bulge_S (k, a, b, c)) * w) * ((2 * k * y) + (b * w))) - (b * ((((2 * k * x) + (a * w)) * ((2 * k * x) + (a * w))) + (((2 * k * y) + (b * w)) * ((2 * k * y) + (b * w))))), 2 * k * ((((2 * k * x) + (a * w)) * ((2 * k * x) + (a * w))) + (((2 * k * y) + (b * w)) * ((2 * k * y) + (b * w)))), 0) : T4)).1 := by
  unfold p_inv_S p_polar_S p_midR_S p_cross_S m_bulge_S
  dsimp only
  grind
theorem ri_inv_2 (x y w k a b c : Int) : (-(2 * k)) * (p_inv_S (x, y, w) (k, a, b, c)).2.1 = ((((((m_bulge_S (k, a, b, c)) * w) * ((2 * k * x) + (a * w))) - (a * ((((2 * k * x) + (a * w)) * ((2 * k * x) + (a * w))) + (((2 * k * y) + (b * w)) * ((2 * k * y) + (b * w))))), (((m_bulge_S (k, a, b, c)) * w) * ((2 * k * y) + (b * w))) - (b * ((((2 * k * x) + (a * w)) * ((2 * k * x) + (a * w))) + (((2 * k * y) + (b * w)) * ((2 * k * y) + (b * w))))), 2 * k * ((((2 * k * x) + (a * w)) * ((2 * k * x) + (a * w))) + (((2 * k * y) + (b * w)) * ((2 * k * y) + (b * w)))), 0) : T4)).2.1 := by
  unfold p_inv_S p_polar_S p_midR_S p_cross_S m_bulge_S
  dsimp only
  grind
theorem ri_inv_3 (x y w k a b c : Int) : (-(2 * k)) * (p_inv_S (x, y, w) (k, a, b, c)).2.2 = ((((((m_bulge_S (k, a, b, c)) * w) * ((2 * k * x) + (a * w))) - (a * ((((2 * k * x) + (a * w)) * ((2 * k * x) + (a * w))) + (((2 * k * y) + (b * w)) * ((2 * k * y) + (b * w))))), (((m_bulge_S (k, a, b, c)) * w) * ((2 * k * y) + (b * w))) - (b * ((((2 * k * x) + (a * w)) * ((2 * k * x) + (a * w))) + (((2 * k * y) + (b * w)) * ((2 * k * y) + (b * w))))), 2 * k * ((((2 * k * x) + (a * w)) * ((2 * k * x) + (a * w))) + (((2 * k * y) + (b * w)) * ((2 * k * y) + (b * w)))), 0) : T4)).2.2.1 := by
  unfold p_inv_S p_polar_S p_midR_S p_cross_S m_bulge_S
  dsimp only
  grind
theorem ri_pole_1 (x y w z k a b c : Int) : (p_pole_S (x, y, w) (k, a, b, c)).1 = (m_pole_S (x, y, w, z) (k, a, b, c)).1 := by
  unfold p_pole_S m_pole_S p_tam_S p_spread_S
  dsimp only
  grind
theorem ri_pole_2 (x y w z k a b c : Int) : (p_pole_S (x, y, w) (k, a, b, c)).2.1 = (m_pole_S (x, y, w, z) (k, a, b, c)).2.1 := by
  unfold p_pole_S m_pole_S p_tam_S p_spread_S
  dsimp only
  grind
theorem ri_pole_3 (x y w z k a b c : Int) : (p_pole_S (x, y, w) (k, a, b, c)).2.2 = (m_pole_S (x, y, w, z) (k, a, b, c)).2.2.1 := by
  unfold p_pole_S m_pole_S p_tam_S p_spread_S
  dsimp only
  grind
theorem ri_pow_1 (k a b c k2 a2 b2 c2 : Int) : (p_power_S (k, a, b, c) (k2, a2, b2, c2)).1 = (m_powers_S (k, a, b, c) (k2, a2, b2, c2)).1 := by
  unfold p_power_S m_powers_S
  dsimp only
  grind
theorem ri_pow_2 (k a b c k2 a2 b2 c2 : Int) : (p_power_S (k, a, b, c) (k2, a2, b2, c2)).2.1 = (m_powers_S (k, a, b, c) (k2, a2, b2, c2)).2.1 := by
  unfold p_power_S m_powers_S
  dsimp only
  grind
theorem ri_pow_3 (k a b c k2 a2 b2 c2 : Int) : (p_power_S (k, a, b, c) (k2, a2, b2, c2)).2.2 = (m_powers_S (k, a, b, c) (k2, a2, b2, c2)).2.2.1 := by
  unfold p_power_S m_powers_S
  dsimp only
  grind
theorem ri_around_1 (x y w z x2 y2 w2 z2 : Int) : w * (p_around_S (x, y, w) (x2, y2, w2)).1 = (m_around_S (x, y, w, z) (x2, y2, w2, z2)).1 := by
  unfold p_around_S m_around_S
  dsimp only
  grind
theorem ri_around_2 (x y w z x2 y2 w2 z2 : Int) : w * (p_around_S (x, y, w) (x2, y2, w2)).2.1 = (m_around_S (x, y, w, z) (x2, y2, w2, z2)).2.1 := by
  unfold p_around_S m_around_S
  dsimp only
  grind
theorem ri_around_3 (x y w z x2 y2 w2 z2 : Int) : w * (p_around_S (x, y, w) (x2, y2, w2)).2.2.1 = (m_around_S (x, y, w, z) (x2, y2, w2, z2)).2.2.1 := by
  unfold p_around_S m_around_S
  dsimp only
  grind
theorem ri_around_4 (x y w z x2 y2 w2 z2 : Int) : w * (p_around_S (x, y, w) (x2, y2, w2)).2.2.2 = (m_around_S (x, y, w, z) (x2, y2, w2, z2)).2.2.2 := by
  unfold p_around_S m_around_S
  dsimp only
  grind
theorem ri_thr_1 (x y w z x2 y2 w2 z2 x3 y3 w3 z3 : Int) : (p_thr_S (x, y, w) (x2, y2, w2) (x3, y3, w3)).1 = (m_thru_S (x, y, w, z) (x2, y2, w2, z2) (x3, y3, w3, z3)).1 := by
  unfold p_thr_S m_thru_S p_det_S p_dot_S p_cross_S p_ownSq_S m_rows_S
  dsimp only
  grind
theorem ri_thr_2 (x y w z x2 y2 w2 z2 x3 y3 w3 z3 : Int) : (p_thr_S (x, y, w) (x2, y2, w2) (x3, y3, w3)).2.1 = (m_thru_S (x, y, w, z) (x2, y2, w2, z2) (x3, y3, w3, z3)).2.1 := by
  unfold p_thr_S m_thru_S p_det_S p_dot_S p_cross_S p_ownSq_S m_rows_S
  dsimp only
  grind
theorem ri_thr_3 (x y w z x2 y2 w2 z2 x3 y3 w3 z3 : Int) : (p_thr_S (x, y, w) (x2, y2, w2) (x3, y3, w3)).2.2.1 = (m_thru_S (x, y, w, z) (x2, y2, w2, z2) (x3, y3, w3, z3)).2.2.1 := by
  unfold p_thr_S m_thru_S p_det_S p_dot_S p_cross_S p_ownSq_S m_rows_S
  dsimp only
  grind
theorem ri_thr_4 (x y w z x2 y2 w2 z2 x3 y3 w3 z3 : Int) : (p_thr_S (x, y, w) (x2, y2, w2) (x3, y3, w3)).2.2.2 = (m_thru_S (x, y, w, z) (x2, y2, w2, z2) (x3, y3, w3, z3)).2.2.2 := by
  unfold p_thr_S m_thru_S p_det_S p_dot_S p_cross_S p_ownSq_S m_rows_S
  dsimp only
  grind
theorem ri_det (x y w z x2 y2 w2 z2 x3 y3 w3 z3 : Int) : p_det_S (x, y, w) (x2, y2, w2) (x3, y3, w3) = m_det_S (x, y, w, z) (x2, y2, w2, z2) (x3, y3, w3, z3) := by
  unfold p_det_S m_det_S p_dot_S p_cross_S
  dsimp only
  grind
theorem ri_rows (x y w z x2 y2 w2 z2 x3 y3 w3 z3 : Int) : m_rows_S (x * w) (y * w) (w * w) (x2 * w2) (y2 * w2) (w2 * w2) (x3 * w3) (y3 * w3) (w3 * w3) = w * w2 * w3 * m_det_S (x, y, w, z) (x2, y2, w2, z2) (x3, y3, w3, z3) := by
  unfold m_rows_S m_det_S
  dsimp only
  grind
theorem ri_depth (x y w z k a b c : Int) : p_depth_S (x, y, w) (k, a, b, c) = m_depth_S (x, y, w, z) (k, a, b, c) := by
  unfold p_depth_S m_depth_S p_spread_S p_tam_S m_bulge_S m_norm_S m_reach_S
  dsimp only
  grind
theorem ri_tam (x y w z k a b c : Int) : p_tam_S (x, y, w) (k, a, b, c) = m_reach_S (x, y, w, z) (k, a, b, c) := by
  unfold p_tam_S m_reach_S
  dsimp only
  grind
theorem ri_spread (k a b c : Int) : p_spread_S (k, a, b, c) = m_bulge_S (k, a, b, c) := by
  unfold p_spread_S m_bulge_S
  dsimp only
  grind
theorem ri_inEq (x y w z k a b c : Int) : p_inEq_S (x, y, w) (k, a, b, c) = m_within_S (x, y, w, z) (k, a, b, c) := by
  unfold p_inEq_S p_ownSq_S m_within_S
  dsimp only
  grind
theorem ri_mid3_1 (x y w z x2 y2 w2 z2 x3 y3 w3 z3 : Int) : (p_mid3_S (x, y, w) (x2, y2, w2) (x3, y3, w3)).1 = (((((x * (w2 * w3)) + (x2 * (w * w3))) + (x3 * (w * w2)), ((y * (w2 * w3)) + (y2 * (w * w3))) + (y3 * (w * w2)), 3 * w * (w2 * w3), 0) : T4)).1 := by
  unfold p_mid3_S p_over3_S
  dsimp only
  grind
theorem ri_mid3_2 (x y w z x2 y2 w2 z2 x3 y3 w3 z3 : Int) : (p_mid3_S (x, y, w) (x2, y2, w2) (x3, y3, w3)).2.1 = (((((x * (w2 * w3)) + (x2 * (w * w3))) + (x3 * (w * w2)), ((y * (w2 * w3)) + (y2 * (w * w3))) + (y3 * (w * w2)), 3 * w * (w2 * w3), 0) : T4)).2.1 := by
  unfold p_mid3_S p_over3_S
  dsimp only
  grind
theorem ri_mid3_3 (x y w z x2 y2 w2 z2 x3 y3 w3 z3 : Int) : (p_mid3_S (x, y, w) (x2, y2, w2) (x3, y3, w3)).2.2 = (((((x * (w2 * w3)) + (x2 * (w * w3))) + (x3 * (w * w2)), ((y * (w2 * w3)) + (y2 * (w * w3))) + (y3 * (w * w2)), 3 * w * (w2 * w3), 0) : T4)).2.2.1 := by
  unfold p_mid3_S p_over3_S
  dsimp only
  grind
theorem ri_moved_1 (x y w x2 y2 w2 x3 y3 w3 : Int) : (p_moved_S (x, y, w) (x2, y2, w2) (x3, y3, w3)).1 = ((((x3 * (w * w2)) + (((x2 * w) - (x * w2)) * w3), (y3 * (w * w2)) + (((y2 * w) - (y * w2)) * w3), w3 * (w * w2), 0) : T4)).1 := by
  unfold p_moved_S p_over3_S
  dsimp only
  grind
theorem ri_moved_2 (x y w x2 y2 w2 x3 y3 w3 : Int) : (p_moved_S (x, y, w) (x2, y2, w2) (x3, y3, w3)).2.1 = ((((x3 * (w * w2)) + (((x2 * w) - (x * w2)) * w3), (y3 * (w * w2)) + (((y2 * w) - (y * w2)) * w3), w3 * (w * w2), 0) : T4)).2.1 := by
  unfold p_moved_S p_over3_S
  dsimp only
  grind
theorem ri_moved_3 (x y w x2 y2 w2 x3 y3 w3 : Int) : (p_moved_S (x, y, w) (x2, y2, w2) (x3, y3, w3)).2.2 = ((((x3 * (w * w2)) + (((x2 * w) - (x * w2)) * w3), (y3 * (w * w2)) + (((y2 * w) - (y * w2)) * w3), w3 * (w * w2), 0) : T4)).2.2.1 := by
  unfold p_moved_S p_over3_S
  dsimp only
  grind
theorem ri_str_1 (x y w x3 y3 w3 n d : Int) : (p_str_S (x, y, w) (x3, y3, w3) n d).1 = ((((x * w3 * d) + (n * ((x3 * w) - (x * w3))), (y * w3 * d) + (n * ((y3 * w) - (y * w3))), w * w3 * d, 0) : T4)).1 := by
  unfold p_str_S
  dsimp only
  grind
theorem ri_str_2 (x y w x3 y3 w3 n d : Int) : (p_str_S (x, y, w) (x3, y3, w3) n d).2.1 = ((((x * w3 * d) + (n * ((x3 * w) - (x * w3))), (y * w3 * d) + (n * ((y3 * w) - (y * w3))), w * w3 * d, 0) : T4)).2.1 := by
  unfold p_str_S
  dsimp only
  grind
theorem ri_str_3 (x y w x3 y3 w3 n d : Int) : (p_str_S (x, y, w) (x3, y3, w3) n d).2.2 = ((((x * w3 * d) + (n * ((x3 * w) - (x * w3))), (y * w3 * d) + (n * ((y3 * w) - (y * w3))), w * w3 * d, 0) : T4)).2.2.1 := by
  unfold p_str_S
  dsimp only
  grind
theorem ri_hei_1 (x y w z x2 y2 w2 z2 x3 y3 w3 z3 : Int) : (-1) * (p_heights_S (x, y, w) (x2, y2, w2) (x3, y3, w3)).1 = (m_cross_S (m_upright_S (x, y, w, z) (m_cross_S (x2, y2, w2, z2) (x3, y3, w3, z3))) (m_upright_S (x2, y2, w2, z2) (m_cross_S (x, y, w, z) (x3, y3, w3, z3)))).1 := by
  unfold p_heights_S m_upright_S m_cross_S p_farSq_S p_cross_S
  dsimp only
  generalize y2 * w3 - w2 * y3 = f1
  generalize w2 * x3 - x2 * w3 = f2
  have e1 : y3 * w - w3 * y = -(y * w3 - w * y3) := by grind
  have e2 : w3 * x - x3 * w = -(w * x3 - x * w3) := by grind
  rw [e1, e2]
  generalize y * w3 - w * y3 = f3
  generalize w * x3 - x * w3 = f4
  grind
theorem ri_hei_2 (x y w z x2 y2 w2 z2 x3 y3 w3 z3 : Int) : (-1) * (p_heights_S (x, y, w) (x2, y2, w2) (x3, y3, w3)).2.1 = (m_cross_S (m_upright_S (x, y, w, z) (m_cross_S (x2, y2, w2, z2) (x3, y3, w3, z3))) (m_upright_S (x2, y2, w2, z2) (m_cross_S (x, y, w, z) (x3, y3, w3, z3)))).2.1 := by
  unfold p_heights_S m_upright_S m_cross_S p_farSq_S p_cross_S
  dsimp only
  generalize y2 * w3 - w2 * y3 = f1
  generalize w2 * x3 - x2 * w3 = f2
  have e1 : y3 * w - w3 * y = -(y * w3 - w * y3) := by grind
  have e2 : w3 * x - x3 * w = -(w * x3 - x * w3) := by grind
  rw [e1, e2]
  generalize y * w3 - w * y3 = f3
  generalize w * x3 - x * w3 = f4
  grind
theorem ri_hei_3 (x y w z x2 y2 w2 z2 x3 y3 w3 z3 : Int) : (-1) * (p_heights_S (x, y, w) (x2, y2, w2) (x3, y3, w3)).2.2 = (m_cross_S (m_upright_S (x, y, w, z) (m_cross_S (x2, y2, w2, z2) (x3, y3, w3, z3))) (m_upright_S (x2, y2, w2, z2) (m_cross_S (x, y, w, z) (x3, y3, w3, z3)))).2.2.1 := by
  unfold p_heights_S m_upright_S m_cross_S p_farSq_S p_cross_S
  dsimp only
  generalize y2 * w3 - w2 * y3 = f1
  generalize w2 * x3 - x2 * w3 = f2
  have e1 : y3 * w - w3 * y = -(y * w3 - w * y3) := by grind
  have e2 : w3 * x - x3 * w = -(w * x3 - x * w3) := by grind
  rw [e1, e2]
  generalize y * w3 - w * y3 = f3
  generalize w * x3 - x * w3 = f4
  grind
theorem ri_pn (x y w z k a b c : Int) : m_norm_S (m_polar_S (x, y, w, z) (k, a, b, c)) = 4 * k * m_within_S (x, y, w, z) (k, a, b, c) + m_bulge_S (k, a, b, c) * (w * w) := by
  unfold m_norm_S m_polar_S m_within_S m_bulge_S
  dsimp only
  grind
theorem ri_pr (x y w z k a b c : Int) : m_reach_S (m_polar_S (x, y, w, z) (k, a, b, c)) (k, a, b, c) = -(m_bulge_S (k, a, b, c) * w) := by
  unfold m_reach_S m_polar_S m_bulge_S
  dsimp only
  grind
theorem rows_sc (h1 h2 h3 a b c d e f g h i : Int) : m_rows_S (h1 * a) (h1 * b) (h1 * c) (h2 * d) (h2 * e) (h2 * f) (h3 * g) (h3 * h) (h3 * i) = h1 * h2 * h3 * m_rows_S a b c d e f g h i := by
  unfold m_rows_S
  grind
theorem thru_sc (g1 g2 g3 : Int) (P Q R : T4) : m_thru_S (sc4 g1 P) (sc4 g2 Q) (sc4 g3 R) = sc4 ((g1 * g1) * (g2 * g2) * (g3 * g3)) (m_thru_S P Q R) := by
  have m1 : ∀ g u v : Int, g * u * (g * v) = g * g * (u * v) := fun g u v => by grind
  have m2 : ∀ G u : Int, -(G * u) = G * -u := fun G u => (Int.mul_neg _ _).symm
  unfold m_thru_S
  show (m_rows_S (g1 * P.1 * (g1 * P.2.2.1)) (g1 * P.2.1 * (g1 * P.2.2.1)) (g1 * P.2.2.1 * (g1 * P.2.2.1)) (g2 * Q.1 * (g2 * Q.2.2.1)) (g2 * Q.2.1 * (g2 * Q.2.2.1)) (g2 * Q.2.2.1 * (g2 * Q.2.2.1)) (g3 * R.1 * (g3 * R.2.2.1)) (g3 * R.2.1 * (g3 * R.2.2.1)) (g3 * R.2.2.1 * (g3 * R.2.2.1)), -(m_rows_S (g1 * P.1 * (g1 * P.1) + g1 * P.2.1 * (g1 * P.2.1)) (g1 * P.2.1 * (g1 * P.2.2.1)) (g1 * P.2.2.1 * (g1 * P.2.2.1)) (g2 * Q.1 * (g2 * Q.1) + g2 * Q.2.1 * (g2 * Q.2.1)) (g2 * Q.2.1 * (g2 * Q.2.2.1)) (g2 * Q.2.2.1 * (g2 * Q.2.2.1)) (g3 * R.1 * (g3 * R.1) + g3 * R.2.1 * (g3 * R.2.1)) (g3 * R.2.1 * (g3 * R.2.2.1)) (g3 * R.2.2.1 * (g3 * R.2.2.1))), m_rows_S (g1 * P.1 * (g1 * P.1) + g1 * P.2.1 * (g1 * P.2.1)) (g1 * P.1 * (g1 * P.2.2.1)) (g1 * P.2.2.1 * (g1 * P.2.2.1)) (g2 * Q.1 * (g2 * Q.1) + g2 * Q.2.1 * (g2 * Q.2.1)) (g2 * Q.1 * (g2 * Q.2.2.1)) (g2 * Q.2.2.1 * (g2 * Q.2.2.1)) (g3 * R.1 * (g3 * R.1) + g3 * R.2.1 * (g3 * R.2.1)) (g3 * R.1 * (g3 * R.2.2.1)) (g3 * R.2.2.1 * (g3 * R.2.2.1)), -(m_rows_S (g1 * P.1 * (g1 * P.1) + g1 * P.2.1 * (g1 * P.2.1)) (g1 * P.1 * (g1 * P.2.2.1)) (g1 * P.2.1 * (g1 * P.2.2.1)) (g2 * Q.1 * (g2 * Q.1) + g2 * Q.2.1 * (g2 * Q.2.1)) (g2 * Q.1 * (g2 * Q.2.2.1)) (g2 * Q.2.1 * (g2 * Q.2.2.1)) (g3 * R.1 * (g3 * R.1) + g3 * R.2.1 * (g3 * R.2.1)) (g3 * R.1 * (g3 * R.2.2.1)) (g3 * R.2.1 * (g3 * R.2.2.1)))) = _
  simp only [m1, ← Int.mul_add, rows_sc, m2]
  rfl
