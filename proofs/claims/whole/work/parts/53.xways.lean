/-! the class lays all cells: printed by wip/whole/s53.py -/
theorem CS.put {h : aH} {c : Nat} (cs : CS h c) {o f : Nat} {r : Option Nat} (hf : ∀ i < 39, ¬(c + (xrl.getD i (0, 0, 0)).1 = o ∧ (xrl.getD i (0, 0, 0)).2.1 = f)) : CS (hput h o f r) c := by
  refine ⟨fun j hj => by rw [hT_put]; exact cs.1 j hj, fun i hi => ?_⟩
  rw [hR_put, if_neg (hf i hi)]
  exact cs.2 i hi
theorem xr_27 : ∀ i < 39, ∀ f < 2, ¬((xrl.getD i (0, 0, 0)).1 = 27 ∧ (xrl.getD i (0, 0, 0)).2.1 = f) := by decide +kernel
theorem CS.put27 {h : aH} {c : Nat} (cs : CS h c) {f : Nat} (hf : f < 2) {r : Option Nat} : CS (hput h (c + 27) f r) c := cs.put fun i hi e => xr_27 i hi f hf ⟨by omega, e.2⟩
def LRef (h g : aH) (c wa nb A B : Nat) : Prop := g = hput (hput h (c + 27) 0 (some A)) (c + 27) 1 (some B) ∧ ((A = wa ∧ B = nb) ∨ (A = nb ∧ B = wa))
section LREF
variable {h g : aH} {c wa nb A B : Nat}
theorem LRef.cs (q : LRef h g c wa nb A B) (cs : CS h c) : CS g c := by rw [q.1]; exact (cs.put27 (by omega)).put27 (by omega)
theorem LRef.r0 (q : LRef h g c wa nb A B) : hR g (c + 27) 0 = some A := by rw [q.1, hR_put, if_neg (by omega), hR_put, if_pos ⟨rfl, rfl⟩]
theorem LRef.r1 (q : LRef h g c wa nb A B) : hR g (c + 27) 1 = some B := by rw [q.1, hR_put, if_pos ⟨rfl, rfl⟩]
theorem LRef.t (q : LRef h g c wa nb A B) (a : Nat) : hT g a = hT h a := by rw [q.1, hT_put, hT_put]
theorem LRef.swap (q : LRef h g c wa nb A B) : LRef h (hput (hput g (c + 27) 0 (some B)) (c + 27) 1 (some A)) c wa nb B A := by
  refine ⟨?_, by have := q.2; omega⟩
  rw [q.1]
  unfold hput
  simp only [Prod.mk.injEq, true_and, and_true]
  funext b j
  by_cases e1 : b = c + 27 ∧ j = 1
  · simp [e1]
  · by_cases e0 : b = c + 27 ∧ j = 0
    · simp [e0]
    · simp [e1, e0]
theorem LRef.start (h0 : hR h (c + 27) 0 = some wa) (h1 : hR h (c + 27) 1 = some nb) : LRef h h c wa nb wa nb := by
  refine ⟨?_, Or.inl ⟨rfl, rfl⟩⟩
  unfold hput
  have e : (fun b j => if b = c + 27 ∧ j = 1 then some nb else if b = c + 27 ∧ j = 0 then some wa else h.2.2.1 b j) = h.2.2.1 := by
    funext b j
    by_cases e1 : b = c + 27 ∧ j = 1
    · rw [if_pos e1, e1.1, e1.2]; exact h1.symm
    · rw [if_neg e1]
      by_cases e0 : b = c + 27 ∧ j = 0
      · rw [if_pos e0, e0.1, e0.2]; exact h0.symm
      · rw [if_neg e0]
  rw [e]
end LREF
/-- the ways so far, and what they come to -/
def LInv (V T : Nat → Nat → Int) (wa nb A S w l : Nat) (n : Int) (c0 : Nat) : Prop := (∀ a, a ≠ wa → a ≠ nb → T a = V a) ∧ (∀ i < S ^ w, r64 (T A i)) ∧ cg (sm (S ^ w) fun i => T A i * tFc S w l n (w * l - c0) c0 i) (tFc S w l n (w * l) 0 0)
theorem LInv.step {V T V2 : Nat → Nat → Int} {wa nb A B S w l c0 : Nat} {n : Int} (hab : (A = wa ∧ B = nb) ∨ (A = nb ∧ B = wa)) (hc : c0 < w * l) (i : LInv V T wa nb A S w l n c0) (ti : TI T V2 B (S ^ w) (tFc S w l n (w * l - c0 - 1) (c0 + 1)) (sm (S ^ w) (tG1 S w l n (w * l - c0 - 1) c0 (T A)))) : LInv V V2 wa nb B S w l n (c0 + 1) := by
  obtain ⟨i1, i2, i3⟩ := i
  obtain ⟨t1, t2, t3⟩ := ti
  refine ⟨fun a h1 h2 => by rw [t1 a (by omega), i1 a h1 h2], t2, ?_⟩
  rw [show w * l - (c0 + 1) = w * l - c0 - 1 by omega]
  refine t3.trans ?_
  have e : w * l - c0 - 1 + 1 = w * l - c0 := by omega
  unfold tG1
  rw [e]
  exact i3
theorem LInv.fin {V T : Nat → Nat → Int} {wa nb A S w l : Nat} {n : Int} (hS : 0 < S) (i : LInv V T wa nb A S w l n (w * l)) : T A 0 = w64 (tFc S w l n (w * l) 0 0) := by
  obtain ⟨i1, i2, i3⟩ := i
  have hN : 0 < S ^ w := Nat.pow_pos hS
  rw [Nat.sub_self, sm_one hN fun i hi hne => by
    unfold tFc
    rw [tF, if_neg, Int.mul_zero]
    exact fun q => hne (dg_zero hi q)] at i3
  have e : tFc S w l n 0 (w * l) 0 = 1 := by
    unfold tFc
    rw [tF, if_pos]
    intro j _
    unfold dgc
    rw [Nat.zero_div, Nat.zero_mod]
  rw [e, Int.mul_one] at i3
  exact cg_r64 i3 (i2 0 hN)
theorem LInv.init {V T : Nat → Nat → Int} {wa nb A S w l : Nat} {n : Int} (hS : 0 < S) (hf : ∀ a, a ≠ wa → a ≠ nb → T a = V a) (h1 : T A 0 = 1) (h0 : ∀ i, 0 < i → i < S ^ w → T A i = 0) : LInv V T wa nb A S w l n 0 := by
  refine ⟨hf, fun i hi => ?_, ?_⟩
  · rcases Nat.eq_zero_or_pos i with q | q
    · rw [q, h1]; unfold r64; omega
    · rw [h0 i q hi]; unfold r64; omega
  · rw [sm_one (Nat.pow_pos hS) fun i hi hne => by rw [h0 i (by omega) hi, Int.zero_mul], h1, Int.one_mul, Nat.sub_zero]
    exact cg.rfl2 _
set_option maxRecDepth 100000 in
theorem x_ways53 {w : aW} {d : Nat} (hd : 4 ≤ d + 1) {h : aH} {c : Nat} (cs : CS h c) (V : Nat → Nat → Int) (nb : Nat) (hn1 : hR h (c + 27) 1 = some nb) (tn : hT h nb = (2, 6561)) (wa : Nat) (hn0 : hR h (c + 27) 0 = some wa) (ta : hT h wa = (2, 6561)) (hwn : wa ≠ nb) (hna : c + 34 ≤ nb) (haa : c + 34 ≤ wa) (w1 l : Nat) (n : Int) (hwd : V (c + 27) 2 = w1) (hlt : V (c + 27) 3 = l) (hgn : V (c + 27) 4 = n) (hw8 : w1 ≤ 8) (hl8 : l ≤ 8) (S : Nat) (hS : V (c + 27) 5 = S) (hS2 : 2 ≤ S) (hS3 : S ≤ 3) : Wk w d cd_X0_waysToLay 53 [(0, aO (some (c + 27))), (1, aI ((w1 : Int))), (2, aI ((l : Int))), (3, aJ n), (5, aI ((S : Int)))] [] (hw h V) (RJ (fun r h1 => (∃ g A B V2, h1 = hw g V2 ∧ LRef h g c wa nb A B ∧ ∀ a, a ≠ wa → a ≠ nb → V2 a = V a) ∧ r = w64 (tFc S w1 l n (w1 * l) 0 0))) := by
  have hN : S ^ w1 ≤ 6561 := Nat.le_trans (Nat.pow_le_pow_left hS3 w1) (Nat.pow_le_pow_right (n := 3) (by omega) hw8)
  have hN0 : 0 < S ^ w1 := Nat.pow_pos (by omega)
  have l122 : ∀ (fuel : Nat) (y : Nat) (g : aH) (A B : Nat) (T : Nat → Nat → Int), (y ≤ l) → (LRef h g c wa nb A B) → (LInv V T wa nb A S w1 l n (w1 * y)) → l - y < fuel → Wk w d cd_X0_waysToLay 122 [(7, aI ((y : Int))), (6, aI (((S ^ w1 : Nat) : Int))), (0, aO (some (c + 27))), (1, aI ((w1 : Int))), (2, aI ((l : Int))), (3, aJ n), (5, aI ((S : Int)))] [] (hw g T) (RJ (fun r h1 => (∃ g A B V2, h1 = hw g V2 ∧ LRef h g c wa nb A B ∧ ∀ a, a ≠ wa → a ≠ nb → V2 a = V a) ∧ r = w64 (tFc S w1 l n (w1 * l) 0 0))) := by
    intro fuel
    induction fuel with
    | zero => intros; omega
    | succ fuel ih122 =>
      intro y g A B T hy0 lr li hfuel
      have l134 : (y < l) → ∀ (fuel : Nat) (x : Nat) (g : aH) (A B : Nat) (T : Nat → Nat → Int), (x ≤ w1) → (LRef h g c wa nb A B) → (LInv V T wa nb A S w1 l n (w1 * y + x)) → w1 - x < fuel → Wk w d cd_X0_waysToLay 134 [(9, aI ((x : Int))), (8, aI (((S ^ x : Nat) : Int))), (7, aI ((y : Int))), (6, aI (((S ^ w1 : Nat) : Int))), (0, aO (some (c + 27))), (1, aI ((w1 : Int))), (2, aI ((l : Int))), (3, aJ n), (5, aI ((S : Int)))] [] (hw g T) (RJ (fun r h1 => (∃ g A B V2, h1 = hw g V2 ∧ LRef h g c wa nb A B ∧ ∀ a, a ≠ wa → a ≠ nb → V2 a = V a) ∧ r = w64 (tFc S w1 l n (w1 * l) 0 0))) := by
        intro hy fuel
        induction fuel with
        | zero => intros; omega
        | succ fuel ih134 =>
          intro x g A B T hx0 lr li hfuel
          have hp1 := pw3 (m := x) hS3 (by omega)
          have hp2 := pw3 (m := x + 1) hS3 (by omega)
          have hp4 : ((S ^ x : Nat) : Int) * (S : Int) = ((S ^ (x + 1) : Nat) : Int) := by rw [Nat.pow_succ, Int.natCast_mul]
          have hAB : A ≠ B := by have := lr.2; omega
          have hAc : c + 34 ≤ A := by have := lr.2; omega
          have hBc : c + 34 ≤ B := by have := lr.2; omega
          have tA : hT h A = (2, 6561) := by rcases lr.2 with ⟨e, -⟩ | ⟨e, -⟩ <;> rw [e] <;> assumption
          have tB : hT h B = (2, 6561) := by rcases lr.2 with ⟨-, e⟩ | ⟨-, e⟩ <;> rw [e] <;> assumption
          refine g_iload rfl rfl ?_
          refine g_iload_n rfl rfl ?_
          refine g_icmp_ge rfl (fun c137 => ?_) (fun c137 => ?_)
          · skip
            refine g_iinc (l1 := [(7, aI ((y : Int) + 1)), (9, aI ((x : Int))), (8, aI (((S ^ x : Nat) : Int))), (6, aI (((S ^ w1 : Nat) : Int))), (0, aO (some (c + 27))), (1, aI ((w1 : Int))), (2, aI ((l : Int))), (3, aJ n), (5, aI ((S : Int)))]) rfl rfl (by omega) (by omega) rfl ?_
            refine g_goto rfl ?_
            refine g_ls [0, 3, 4, 5, 6, 7, 8] rfl rfl ?_
            exact ih122 (y + 1) g A B T (by omega) (by exact lr) (by rw [show x = w1 by omega] at li; exact li) (by omega)
          · skip
            have hx : x < w1 := by omega
            have hc0 : w1 * y + x < w1 * l := Nat.lt_of_lt_of_le (by rw [Nat.mul_succ]; omega : w1 * y + x < w1 * (y + 1)) (Nat.mul_le_mul_left w1 (by omega))
            refine g_aload_n rfl rfl ?_
            refine g_iload rfl rfl ?_
            refine g_iload rfl rfl ?_
            refine g_iload rfl rfl ?_
            refine g_iload rfl rfl ?_
            refine g_callVN [aI ((x : Int)), aI ((y : Int)), aI (((S ^ x : Nat) : Int)), aI (((S ^ w1 : Nat) : Int))] [] rfl rfl rfl rfl (Nat.le_of_ble_eq_true rfl) ((lr.cs cs).kd 27 (by omega) rfl) (x_layCell (by omega) (lr.cs cs) T B lr.r1 (by rw [lr.t]; exact tB) A lr.r0 (by rw [lr.t]; exact tA) hAB hBc hAc w1 l n (by rw [li.1 _ (by omega) (by omega)]; exact hwd) (by rw [li.1 _ (by omega) (by omega)]; exact hlt) (by rw [li.1 _ (by omega) (by omega)]; exact hgn) hw8 hl8 S (by rw [li.1 _ (by omega) (by omega)]; exact hS) hS2 hS3 (w1 * l - (w1 * y + x) - 1) x y hx hy) ?_
            rintro _ ⟨V2, rfl, ti⟩
            have li2 := LInv.step lr.2 hc0 li ti
            have lr2 := lr.swap
            have hS2v : V2 (c + 27) 5 = S := by rw [li2.1 _ (by omega) (by omega)]; exact hS
            have csg : CS (hput (hput g (c + 27) 0 (some B)) (c + 27) 1 (some A)) c := lr2.cs cs
            refine g_iload rfl rfl ?_
            refine g_aload_n rfl rfl ?_
            refine g_getI rfl (csg.kd 27 (by omega) rfl) ?_
            refine g_top (v2 := aI ((S : Int))) (congrArg aI (by exact hS2v)) ?_
            refine g_imul rfl (by rw [hp4]; omega) (by rw [hp4]; omega) ?_
            refine g_top (v2 := aI (((S ^ (x + 1) : Nat) : Int))) (congrArg aI (by exact hp4)) ?_
            refine g_istore (l1 := [(8, aI (((S ^ (x + 1) : Nat) : Int))), (9, aI ((x : Int))), (7, aI ((y : Int))), (6, aI (((S ^ w1 : Nat) : Int))), (0, aO (some (c + 27))), (1, aI ((w1 : Int))), (2, aI ((l : Int))), (3, aJ n), (5, aI ((S : Int)))]) rfl rfl ?_
            refine g_iinc (l1 := [(9, aI ((x : Int) + 1)), (8, aI (((S ^ (x + 1) : Nat) : Int))), (7, aI ((y : Int))), (6, aI (((S ^ w1 : Nat) : Int))), (0, aO (some (c + 27))), (1, aI ((w1 : Int))), (2, aI ((l : Int))), (3, aJ n), (5, aI ((S : Int)))]) rfl rfl (by omega) (by omega) rfl ?_
            refine g_goto rfl ?_
            exact ih134 (x + 1) _ B A V2 (by omega) (by exact lr2) (by exact li2) (by omega)
      refine g_iload rfl rfl ?_
      refine g_iload_n rfl rfl ?_
      refine g_icmp_ge rfl (fun c125 => ?_) (fun c125 => ?_)
      · skip
        have hyl : y = l := by omega
        rw [hyl] at li
        have tA : hT h A = (2, 6561) := by rcases lr.2 with ⟨e, -⟩ | ⟨e, -⟩ <;> rw [e] <;> assumption
        refine g_aload_n rfl rfl ?_
        refine g_getR rfl ((lr.cs cs).kd 27 (by omega) rfl) lr.r0 ?_
        refine g_iconst rfl ?_
        refine g_lald (i := 0) rfl (by rw [hT_hw, lr.t]; exact tA) (by omega) (by omega) ?_
        refine g_lret rfl ?_
        exact ⟨⟨g, A, B, T, rfl, lr, li.1⟩, LInv.fin (by omega) li⟩
      · skip
        refine g_iconst rfl ?_
        refine g_istore (l1 := [(8, aI 1), (7, aI ((y : Int))), (6, aI (((S ^ w1 : Nat) : Int))), (0, aO (some (c + 27))), (1, aI ((w1 : Int))), (2, aI ((l : Int))), (3, aJ n), (5, aI ((S : Int)))]) rfl rfl ?_
        refine g_iconst rfl ?_
        refine g_istore (l1 := [(9, aI 0), (8, aI 1), (7, aI ((y : Int))), (6, aI (((S ^ w1 : Nat) : Int))), (0, aO (some (c + 27))), (1, aI ((w1 : Int))), (2, aI ((l : Int))), (3, aJ n), (5, aI ((S : Int)))]) rfl rfl ?_
        exact l134 (by omega) _ 0 g A B T (by omega) (by exact lr) (by exact li) (Nat.lt_succ_self _)
  have l83 : ∀ (fuel : Nat) (i : Nat) (V1 : Nat → Nat → Int), (i ≤ S ^ w1) → (∀ a, a ≠ wa → a ≠ nb → V1 a = V a) → (∀ j < i, V1 wa j = 0) → S ^ w1 - i < fuel → Wk w d cd_X0_waysToLay 83 [(7, aI ((i : Int))), (6, aI (((S ^ w1 : Nat) : Int))), (0, aO (some (c + 27))), (1, aI ((w1 : Int))), (2, aI ((l : Int))), (3, aJ n), (5, aI ((S : Int)))] [] (hw h V1) (RJ (fun r h1 => (∃ g A B V2, h1 = hw g V2 ∧ LRef h g c wa nb A B ∧ ∀ a, a ≠ wa → a ≠ nb → V2 a = V a) ∧ r = w64 (tFc S w1 l n (w1 * l) 0 0))) := by
    intro fuel
    induction fuel with
    | zero => intros; omega
    | succ fuel ih83 =>
      intro i V1 hi hf hz hfuel
      refine g_iload rfl rfl ?_
      refine g_iload rfl rfl ?_
      refine g_icmp_ge rfl (fun c87 => ?_) (fun c87 => ?_)
      · skip
        refine g_aload_n rfl rfl ?_
        refine g_getR rfl (cs.kd 27 (by omega) rfl) hn0 ?_
        refine g_iconst rfl ?_
        refine g_lconst1 rfl ?_
        refine g_last (i := 0) rfl ta (by omega) (by omega) ?_
        refine g_iconst rfl ?_
        refine g_istore (l1 := [(7, aI 0), (6, aI (((S ^ w1 : Nat) : Int))), (0, aO (some (c + 27))), (1, aI ((w1 : Int))), (2, aI ((l : Int))), (3, aJ n), (5, aI ((S : Int)))]) rfl rfl ?_
        exact l122 _ 0 h wa nb _ (by omega) (by exact LRef.start hn0 hn1) (by rw [Nat.mul_zero]; exact LInv.init (T := vset V1 wa 0 1) (by omega) (fun a h1 h2 => by funext j; rw [vset_ne _ _ _ _ (by omega), hf a h1 h2]) (vset_eq _ _ _ _) (fun i h1 h2 => by rw [vset_ne _ _ _ _ (by omega)]; exact hz i (by omega))) (Nat.lt_succ_self _)
      · skip
        refine g_iload rfl rfl ?_
        refine g_sipush rfl ?_
        refine g_icmp_ge_f rfl (by omega) ?_
        refine g_aload_n rfl rfl ?_
        refine g_getR rfl (cs.kd 27 (by omega) rfl) hn0 ?_
        refine g_iload rfl rfl ?_
        refine g_lconst0 rfl ?_
        refine g_last (i := i) rfl ta (by omega) (by omega) ?_
        refine g_iinc (l1 := [(7, aI ((i : Int) + 1)), (6, aI (((S ^ w1 : Nat) : Int))), (0, aO (some (c + 27))), (1, aI ((w1 : Int))), (2, aI ((l : Int))), (3, aJ n), (5, aI ((S : Int)))]) rfl rfl (by omega) (by omega) rfl ?_
        refine g_goto rfl ?_
        exact ih83 (i + 1) (vset V1 wa i 0) (by omega) (by intro a h1 h2; funext j; rw [vset_ne _ _ _ _ (by omega), hf a h1 h2]) (by intro j hj; by_cases e : j = i; (rw [e, vset_eq]); (rw [vset_ne _ _ _ _ (by omega)]; exact hz j (by omega))) (by omega)
  have l59 : ∀ (fuel : Nat) (i : Nat), (i ≤ w1) → w1 - i < fuel → Wk w d cd_X0_waysToLay 59 [(7, aI ((i : Int))), (6, aI (((S ^ i : Nat) : Int))), (0, aO (some (c + 27))), (1, aI ((w1 : Int))), (2, aI ((l : Int))), (3, aJ n), (5, aI ((S : Int)))] [] (hw h V) (RJ (fun r h1 => (∃ g A B V2, h1 = hw g V2 ∧ LRef h g c wa nb A B ∧ ∀ a, a ≠ wa → a ≠ nb → V2 a = V a) ∧ r = w64 (tFc S w1 l n (w1 * l) 0 0))) := by
    intro fuel
    induction fuel with
    | zero => intros; omega
    | succ fuel ih59 =>
      intro i hi hfuel
      have hp1 := pw3 (m := i) hS3 (by omega)
      have hp2 := pw3 (m := i + 1) hS3 (by omega)
      have hp4 : ((S ^ i : Nat) : Int) * (S : Int) = ((S ^ (i + 1) : Nat) : Int) := by rw [Nat.pow_succ, Int.natCast_mul]
      refine g_iload rfl rfl ?_
      refine g_iload_n rfl rfl ?_
      refine g_icmp_ge rfl (fun c62 => ?_) (fun c62 => ?_)
      · skip
        rw [show i = w1 by omega]
        refine g_iconst rfl ?_
        refine g_istore (l1 := [(7, aI 0), (6, aI (((S ^ w1 : Nat) : Int))), (0, aO (some (c + 27))), (1, aI ((w1 : Int))), (2, aI ((l : Int))), (3, aJ n), (5, aI ((S : Int)))]) rfl rfl ?_
        exact l83 _ 0 V (by omega) (by intro a _ _; rfl) (by intro j hj; omega) (Nat.lt_succ_self _)
      · skip
        refine g_iload rfl rfl ?_
        refine g_aload_n rfl rfl ?_
        refine g_getI rfl (cs.kd 27 (by omega) rfl) ?_
        refine g_top (v2 := aI ((S : Int))) (congrArg aI (by show V (c + 27) 5 = (S : Int); rw [hS])) ?_
        refine g_imul rfl (by rw [hp4]; omega) (by rw [hp4]; omega) ?_
        refine g_top (v2 := aI (((S ^ (i + 1) : Nat) : Int))) (congrArg aI (by exact hp4)) ?_
        refine g_istore (l1 := [(6, aI (((S ^ (i + 1) : Nat) : Int))), (7, aI ((i : Int))), (0, aO (some (c + 27))), (1, aI ((w1 : Int))), (2, aI ((l : Int))), (3, aJ n), (5, aI ((S : Int)))]) rfl rfl ?_
        refine g_iinc (l1 := [(7, aI ((i : Int) + 1)), (6, aI (((S ^ (i + 1) : Nat) : Int))), (0, aO (some (c + 27))), (1, aI ((w1 : Int))), (2, aI ((l : Int))), (3, aJ n), (5, aI ((S : Int)))]) rfl rfl (by omega) (by omega) rfl ?_
        refine g_goto rfl ?_
        exact ih59 (i + 1) (by omega) (by omega)
  refine g_iconst rfl ?_
  refine g_istore (l1 := [(6, aI 1), (0, aO (some (c + 27))), (1, aI ((w1 : Int))), (2, aI ((l : Int))), (3, aJ n), (5, aI ((S : Int)))]) rfl rfl ?_
  refine g_iconst rfl ?_
  refine g_istore (l1 := [(7, aI 0), (6, aI 1), (0, aO (some (c + 27))), (1, aI ((w1 : Int))), (2, aI ((l : Int))), (3, aJ n), (5, aI ((S : Int)))]) rfl rfl ?_
  exact l59 _ 0 (by omega) (Nat.lt_succ_self _)
