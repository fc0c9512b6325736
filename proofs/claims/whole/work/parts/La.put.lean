/-! putting a polynomial in: rows of the reference beside the class's -/
theorem prt_big {F f G : Nat → Int} {e : Nat} (he : e ≤ 10) (hF : BigR F f) (h1 : ∀ x < 121, G x = F (121 * e + x)) (h2 : ∀ x, 121 ≤ x → x < 1331 → G x = 0) : BigR G (prt f e) := by
  intro x hx
  show G x = if pG x then prt f e (pK x) else 0
  by_cases z : x < 121
  · have x0 : x / 121 = 0 := by omega
    have eL : big f (121 * e + x) = if e + x / 11 % 11 + x % 11 ≤ 10 then f (pI e (x / 11 % 11) (x % 11)) else 0 := by
      rw [← big_at (f := f) (i := e) (j := x / 11 % 11) (k := x % 11) he (by omega) (by omega), show 121 * e + 11 * (x / 11 % 11) + x % 11 = 121 * e + x by omega]
    rw [h1 x z, hF _ (by omega), eL]
    by_cases g : pG x
    · rw [if_pos g]
      unfold prt
      rw [pE_K g]
      dsimp only
      by_cases y : e + x / 11 % 11 + x % 11 ≤ 10
      · rw [if_pos y, if_pos ⟨x0, y⟩]
      · rw [if_neg y, if_neg (fun q => y q.2)]
    · rw [if_neg g, if_neg]
      intro y
      exact g (show x / 121 + x / 11 % 11 + x % 11 ≤ 10 by omega)
  · rw [h2 x (by omega) hx]
    by_cases g : pG x
    · rw [if_pos g]
      unfold prt
      rw [pE_K g, if_neg]
      rintro ⟨q, -⟩
      have q : x / 121 = 0 := q
      omega
    · rw [if_neg g]
theorem on_big {G : Nat → Int} (h0 : G 0 = 1) (h : ∀ x, x ≠ 0 → x < 1331 → G x = 0) : BigR G onX := by
  intro x hx
  show G x = if pG x then onX (pK x) else 0
  by_cases z : x = 0
  · subst z
    rw [h0, if_pos (show pG 0 by decide)]
    have e0 : pK 0 = 0 := by decide +kernel
    unfold onX
    rw [if_pos e0]
  · rw [h x z hx]
    by_cases g : pG x
    · rw [if_pos g]
      unfold onX
      rw [if_neg]
      intro y
      have e1 := pC_K g
      rw [y] at e1
      have e2 : pC 0 = 0 := by decide +kernel
      omega
    · rw [if_neg g]
theorem none_big {G : Nat → Int} (h : ∀ x < 1331, G x = 0) : BigR G (fun _ => 0) := by
  intro x hx
  show G x = if pG x then 0 else 0
  rw [h x hx]
  split <;> rfl
theorem add_big {G W M R Q : Nat → Int} (hW : BigR W R) (hM : BigR M Q) (h : ∀ x < 1331, G x = W x + M x) : BigR G (fun t => R t + Q t) := by
  intro x hx
  rw [h x hx, hW x hx, hM x hx]
  show _ = if pG x then R (pK x) + Q (pK x) else 0
  unfold big
  by_cases g : pG x
  · rw [if_pos g, if_pos g, if_pos g]
  · rw [if_neg g, if_neg g, if_neg g]
    rfl
def mstM (F : Nat → Int) : Nat → Nat
  | 0 => 0
  | x + 1 => if F x = 0 then mstM F x else x / 121
theorem mst_c (F : Nat → Int) : ∀ n, (∀ x < n, F x ≠ 0 → x / 121 ≤ mstM F n) ∧ (mstM F n = 0 ∨ ∃ x < n, F x ≠ 0 ∧ x / 121 = mstM F n)
  | 0 => ⟨fun x h => by omega, Or.inl rfl⟩
  | n + 1 => by
    have ih := mst_c F n
    have e : mstM F (n + 1) = if F n = 0 then mstM F n else n / 121 := rfl
    by_cases z : F n = 0
    · rw [if_pos z] at e
      rw [e]
      refine ⟨fun x h k => ?_, ih.2.imp id fun ⟨x, h, k⟩ => ⟨x, by omega, k⟩⟩
      by_cases y : x = n
      · subst y
        exact absurd z k
      · exact ih.1 x (by omega) k
    · rw [if_neg z] at e
      rw [e]
      exact ⟨fun x h _ => Nat.div_le_div_right (by omega), Or.inr ⟨n, by omega, z, rfl⟩⟩
theorem gt_c (f : Nat → Int) : ∀ n, (∀ t < n, f t ≠ 0 → (pE t).1 ≤ gtX f n) ∧ (gtX f n = 0 ∨ ∃ t < n, f t ≠ 0 ∧ (pE t).1 = gtX f n)
  | 0 => ⟨fun x h => by omega, Or.inl rfl⟩
  | n + 1 => by
    have ih := gt_c f n
    have e : gtX f (n + 1) = if f n = 0 then gtX f n else max (gtX f n) (pE n).1 := rfl
    by_cases z : f n = 0
    · rw [if_pos z] at e
      rw [e]
      refine ⟨fun x h k => ?_, ih.2.imp id fun ⟨x, h, k⟩ => ⟨x, by omega, k⟩⟩
      by_cases y : x = n
      · subst y
        exact absurd z k
      · exact ih.1 x (by omega) k
    · rw [if_neg z] at e
      rw [e]
      refine ⟨fun x h k => ?_, ?_⟩
      · by_cases y : x = n
        · subst y
          omega
        · have := ih.1 x (by omega) k
          omega
      · by_cases y : gtX f n ≤ (pE n).1
        · exact Or.inr ⟨n, by omega, z, by omega⟩
        · rcases ih.2 with q | ⟨x, h, k, q⟩
          · omega
          · exact Or.inr ⟨x, by omega, k, by omega⟩
theorem mst_gt {F f : Nat → Int} (h : BigR F f) : mstM F 1331 = gtX f 286 := by
  have a := mst_c F 1331
  have b := gt_c f 286
  have l1 : mstM F 1331 ≤ gtX f 286 := by
    rcases a.2 with q | ⟨x, hx, k, q⟩
    · omega
    · have g : pG x := Decidable.byContradiction fun g => k (h.z hx g)
      have e := h.k hx g
      have := b.1 (pK x) (pK_lt g) (by rw [← e]; exact k)
      rw [pE_K g] at this
      have this : x / 121 ≤ gtX f 286 := this
      omega
  have l2 : gtX f 286 ≤ mstM F 1331 := by
    rcases b.2 with q | ⟨t, ht, k, q⟩
    · omega
    · have e := h.c ht
      have := a.1 (pC t) (pK_C ht).2.2 (by rw [e]; exact k)
      rw [(pD_C ht).1] at this
      omega
  omega
