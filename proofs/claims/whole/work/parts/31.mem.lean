/-! memory as a function beside kinds that stay; rows of new arrays of one object -/
def vset (V : Nat → Nat → Int) (a i : Nat) (v : Int) : Nat → Nat → Int := fun b j => if b = a ∧ j = i then v else V b j
def hw (h : aH) (V : Nat → Nat → Int) : aH := (h.1, V, h.2.2)
theorem hw_set (h : aH) (V : Nat → Nat → Int) (a i : Nat) (v : Int) : hset (hw h V) a i v = hw h (vset V a i v) := rfl
theorem hw_self (h : aH) : hw h (hV h) = h := rfl
theorem hw_hw (h : aH) (V V1 : Nat → Nat → Int) : hw (hw h V) V1 = hw h V1 := rfl
theorem hV_hw (h : aH) (V : Nat → Nat → Int) : hV (hw h V) = V := rfl
theorem hT_hw (h : aH) (V : Nat → Nat → Int) : hT (hw h V) = hT h := rfl
theorem hR_hw (h : aH) (V : Nat → Nat → Int) : hR (hw h V) = hR h := rfl
theorem hz_hw (h : aH) (V : Nat → Nat → Int) : hz (hw h V) = hz h := rfl
theorem hs_hw (h : aH) (V : Nat → Nat → Int) : hs (hw h V) = hs h := rfl
theorem vset_eq (V : Nat → Nat → Int) (a i : Nat) (v : Int) : vset V a i v a i = v := by simp [vset]
theorem vset_ne (V : Nat → Nat → Int) (a i : Nat) (v : Int) {b j : Nat} (h : ¬(b = a ∧ j = i)) : vset V a i v b j = V b j := by simp [vset, h]
theorem vset_app (V : Nat → Nat → Int) (a i : Nat) (v : Int) (b j : Nat) : vset V a i v b j = if b = a ∧ j = i then v else V b j := rfl
/-- rows of arrays that one object is given: kind, length, field -/
def mk (h : aH) (o : Nat) (l : List (Nat × Nat × Nat)) : aH := match l with
  | [] => h
  | q :: t => mk (hput (hnew h q.1 q.2.1) o q.2.2 (some (hz h))) o t
theorem mk_hz (o : Nat) (l : List (Nat × Nat × Nat)) : ∀ h, hz (mk h o l) = hz h + l.length := by
  induction l with
  | nil => intro h; rfl
  | cons q t ih => intro h; unfold mk; rw [ih, hz_put, hz_new, List.length_cons]; omega
theorem mk_hs (o : Nat) (l : List (Nat × Nat × Nat)) : ∀ h, hs (mk h o l) = hs h + (l.map (fun q => q.2.1)).sum := by
  induction l with
  | nil => intro h; rfl
  | cons q t ih => intro h; unfold mk; rw [ih, hs_put, hs_new, List.map_cons, List.sum_cons]; omega
theorem mk_old (o : Nat) (l : List (Nat × Nat × Nat)) : ∀ h (b : Nat), b < hz h → hT (mk h o l) b = hT h b ∧ (∀ j, hV (mk h o l) b j = hV h b j) ∧ (b ≠ o → ∀ j, hR (mk h o l) b j = hR h b j) := by
  induction l with
  | nil => intro h b _; exact ⟨rfl, fun _ => rfl, fun _ _ => rfl⟩
  | cons q t ih =>
    intro h b hb
    unfold mk
    obtain ⟨e1, e2, e3⟩ := ih (hput (hnew h q.1 q.2.1) o q.2.2 (some (hz h))) b (by rw [hz_put, hz_new]; omega)
    refine ⟨?_, fun j => ?_, fun hne j => ?_⟩
    · rw [e1, hT_put, hT_new, if_neg (by omega)]
    · rw [e2, hV_put, hV_new, if_neg (by omega)]
    · rw [e3 hne, hR_put, if_neg (by omega), hR_new, if_neg (by omega)]
theorem mk_T (o : Nat) (l : List (Nat × Nat × Nat)) : ∀ h, o < hz h → ∀ (j k n f : Nat), l[j]? = some (k, n, f) → hT (mk h o l) (hz h + j) = (k, n) ∧ (∀ i, hV (mk h o l) (hz h + j) i = 0) := by
  induction l with
  | nil => intro h _ j k n f e; simp at e
  | cons q t ih =>
    intro h ho j k n f e
    unfold mk
    cases j with
    | zero =>
      simp at e
      subst e
      have hb : hz h < hz (hput (hnew h k n) o f (some (hz h))) := by rw [hz_put, hz_new]; omega
      obtain ⟨e1, e2, -⟩ := mk_old o t _ (hz h) hb
      refine ⟨?_, fun i => ?_⟩
      · rw [Nat.add_zero, e1, hT_put, hT_new, if_pos rfl]
      · rw [Nat.add_zero, e2, hV_put, hV_new, if_pos rfl]
    | succ j =>
      rw [List.getElem?_cons_succ] at e
      have hi := ih (hput (hnew h q.1 q.2.1) o q.2.2 (some (hz h))) (by rw [hz_put, hz_new]; omega) j k n f e
      rw [hz_put, hz_new, Nat.add_assoc, Nat.add_comm 1 j] at hi
      exact hi
theorem mk_Ro (o : Nat) (l : List (Nat × Nat × Nat)) : ∀ h, o < hz h → ∀ f, (∀ q ∈ l, q.2.2 ≠ f) → hR (mk h o l) o f = hR h o f := by
  induction l with
  | nil => intro h _ f _; rfl
  | cons q t ih =>
    intro h ho f hf
    unfold mk
    rw [ih _ (by rw [hz_put, hz_new]; omega) f (fun q1 h1 => hf q1 (List.mem_cons_of_mem _ h1)), hR_put, if_neg (by have := hf q List.mem_cons_self; omega), hR_new, if_neg (by omega)]
theorem mk_R (o : Nat) (l : List (Nat × Nat × Nat)) : ∀ h, o < hz h → (l.map (fun q => q.2.2)).Nodup → ∀ (j k n f : Nat), l[j]? = some (k, n, f) → hR (mk h o l) o f = some (hz h + j) := by
  induction l with
  | nil => intro h _ _ j k n f e; simp at e
  | cons q t ih =>
    intro h ho hn j k n f e
    unfold mk
    rw [List.map_cons, List.nodup_cons] at hn
    cases j with
    | zero =>
      simp at e
      subst e
      rw [mk_Ro o t _ (by rw [hz_put, hz_new]; omega) f (fun q1 h1 h2 => hn.1 (by rw [List.mem_map]; exact ⟨q1, h1, h2⟩)), hR_put, if_pos ⟨rfl, rfl⟩, Nat.add_zero]
    | succ j =>
      rw [List.getElem?_cons_succ] at e
      have hi := ih (hput (hnew h q.1 q.2.1) o q.2.2 (some (hz h))) (by rw [hz_put, hz_new]; omega) hn.2 j k n f e
      rw [hz_put, hz_new, Nat.add_assoc, Nat.add_comm 1 j] at hi
      exact hi
