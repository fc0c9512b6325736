/-! the small machine's heap beside the machine's own -/
def cval (v : aV) : Value := match v with
  | .inl (.inl z) => .int (Int32.ofInt z)
  | .inl (.inr z) => .long (Int64.ofInt z)
  | .inr (.inl none) => .null
  | .inr (.inl (some a)) => .ref a
  | .inr (.inr u) => .double u
def vok (v : aV) : Prop := match v with
  | .inl (.inl z) => r32 z
  | .inl (.inr z) => r64 z
  | _ => True
theorem cat_c (v : aV) : (cval v).category = acat v := by
  rcases v with (z | z) | ((_ | a) | u) <;> rfl
def fsG (c j : Nat) : Nat := fsort (clT c j).2.2.1
def arrF (k : Nat) (h : aH) (a : Nat) : Nat → Value := fun j => if k = 2 then .long (Int64.ofInt (hV h a j)) else if k = 4 ∨ k = 5 then va_rf (hR h a j) else .int (Int32.ofInt (hV h a j))
def arrTy (k : Nat) : FieldType := if k = 1 then .int else if k = 2 then .long else if k = 3 then .boolean else if k = 4 then .object "PlainGeometry$Whole" else .array .long
def arrVok (k : Nat) (z : Int) : Prop := if k = 2 then r64 z else if k = 3 then (z = 0 ∨ z = 1) else r32 z
def arrX (U : State) (cA : ClassId) (k : Nat) : Prop :=
  (k = 2 → U.vm.findClass "[J" = some cA) ∧
  (k = 4 → ∃ (kA : Class) (comp : ClassId), U.vm.classes[cA]? = some kA ∧ kA.kind = .array comp (.object "PlainGeometry$Whole") ∧ U.vm.findClass "PlainGeometry$Whole" = some comp) ∧
  (k = 5 → ∃ (kA : Class) (comp : ClassId), U.vm.classes[cA]? = some kA ∧ kA.kind = .array comp (.array .long) ∧ U.vm.findClass "[J" = some comp)
theorem arrX.moved {u U : State} {cA : ClassId} {k : Nat} (hvm : u.vm.Alike U.vm) (h : arrX u cA k) : arrX U cA k := by
  refine ⟨fun e => by rw [hvm.findClass]; exact h.1 e, fun e => ?_, fun e => ?_⟩
  · obtain ⟨kA, comp, h1, h2, h3⟩ := h.2.1 e
    obtain ⟨k', hk', he⟩ := hvm.2.2 _ _ h1
    exact ⟨k', comp, hk', by rw [he]; exact h2, by rw [hvm.findClass]; exact h3⟩
  · obtain ⟨kA, comp, h1, h2, h3⟩ := h.2.2 e
    obtain ⟨k', hk', he⟩ := hvm.2.2 _ _ h1
    exact ⟨k', comp, hk', by rw [he]; exact h2, by rw [hvm.findClass]; exact h3⟩
def cellOk (D : va_G) (base : Nat) (adK : Nat → Nat) (U : State) (h : aH) (H : Heap) (a : Nat) : Prop :=
  (1 ≤ (hT h a).1 → (hT h a).1 ≤ 5 → base ≤ a ∧ (hT h a).2 ≤ 1000000 ∧ (∃ cA : ClassId, H[a]? = some (arrV cA (hT h a).2 (arrF (hT h a).1 h a)) ∧ ArrOfT U cA (arrTy (hT h a).1) ∧ arrX U cA (hT h a).1) ∧ ∀ j, j < (hT h a).2 → arrVok (hT h a).1 (hV h a j)) ∧
  ((hT h a).1 = 6 → a < base ∧ (hT h a).2 ≤ 1000000 ∧ va_X a (hT h a).2 (fun j => Int32.ofInt (hV h a j)) U H ∧ ∀ j, j < (hT h a).2 → r32 (hV h a j)) ∧
  ((hT h a).1 = 8 → a < base ∧ ∃ i, i < 12 ∧ a = adK i ∧ (hT h a).2 = i) ∧
  (10 ≤ (hT h a).1 → (hT h a).1 ≤ 22 ∧ base ≤ a ∧ t_OB a (D.1 ((hT h a).1 - 10)) (clN ((hT h a).1 - 10)) (D.2 ((hT h a).1 - 10)) H (fun j => cval (fget h (fsG ((hT h a).1 - 10) j) j a)) ∧ ∀ j, j < clN ((hT h a).1 - 10) → vok (fget h (fsG ((hT h a).1 - 10) j) j a))
theorem cellOk.moved {D : va_G} {base : Nat} {adK : Nat → Nat} {u U : State} {h : aH} {H : Heap} {a : Nat} (hvm : u.vm.Alike U.vm) (q : cellOk D base adK u h H a) : cellOk D base adK U h H a := by
  refine ⟨fun h1 h2 => ?_, fun h1 => ?_, q.2.2.1, q.2.2.2⟩
  · obtain ⟨g1, g2, ⟨cA, g3, g4, g5⟩, g6⟩ := q.1 h1 h2
    exact ⟨g1, g2, ⟨cA, g3, arrOfT_moved hvm g4, g5.moved hvm⟩, g6⟩
  · obtain ⟨g1, g2, g3, g4⟩ := q.2.1 h1
    exact ⟨g1, g2, g3.moved hvm, g4⟩
theorem fget_kept {h h' : aH} {a : Nat} (hv : ∀ j, hV h' a j = hV h a j) (hr : ∀ j, hR h' a j = hR h a j) (c j : Nat) : fget h' c j a = fget h c j a := by
  unfold fget
  rw [hv, hr]
theorem cellOk.kept {D : va_G} {base : Nat} {adK : Nat → Nat} {U : State} {h h' : aH} {H H' : Heap} {a : Nat} (ht : hT h' a = hT h a) (hv : ∀ j, hV h' a j = hV h a j) (hr : ∀ j, hR h' a j = hR h a j) (hH : H'[a]? = H[a]?) (q : cellOk D base adK U h H a) : cellOk D base adK U h' H' a := by
  have e1 : arrF (hT h a).1 h' a = arrF (hT h a).1 h a := by funext j; unfold arrF; rw [hv, hr]
  unfold cellOk
  rw [ht]
  refine ⟨fun h1 h2 => ?_, fun h1 => ?_, q.2.2.1, fun h1 => ?_⟩
  · obtain ⟨g1, g2, ⟨cA, g3, g4, g5⟩, g6⟩ := q.1 h1 h2
    exact ⟨g1, g2, ⟨cA, by rw [hH, e1]; exact g3, g4, g5⟩, fun j hj => by rw [hv]; exact g6 j hj⟩
  · obtain ⟨g1, g2, g3, g4⟩ := q.2.1 h1
    exact ⟨g1, g2, by rw [funext hv]; exact g3.kept hH, fun j hj => by rw [hv]; exact g4 j hj⟩
  · obtain ⟨g1, g2, g3, g4⟩ := q.2.2.2 h1
    refine ⟨g1, g2, ?_, fun j hj => by rw [fget_kept hv hr]; exact g4 j hj⟩
    have e2 : (fun j => cval (fget h' (fsG ((hT h a).1 - 10) j) j a)) = (fun j => cval (fget h (fsG ((hT h a).1 - 10) j) j a)) := by funext j; rw [fget_kept hv hr]
    rw [e2]
    exact g3.kept hH
/-- the text constants' bytes -/
def txtL : List Nat := texts.map String.length
def txtB : List (List Int32) := texts.map (fun t => t.toList.map (fun ch => Int32.ofInt (ch.toNat : Int)))
def aA (base : Nat) : Nat → Prop := fun q => base ≤ q
/-- the text constants, and the two statics that String's methods ask -/
def SPc (base : Nat) (adK adV : Nat → Nat) (U : State) (H : Heap) : Prop :=
  vk_S 12 txtL txtB adK adV (aA base) U H ∧ va_Z "java/lang/String" "COMPACT_STRINGS" "Z" (.int 1) (aA base) U H ∧ va_Zq "jdk/internal/util/Preconditions" "SIOOBE_FORMATTER" "Ljava/util/function/BiFunction;" (aA base) U H ∧
  vx_Zq Bundle.tN "UNASSIGNED_STACK" Bundle.steD (aA base) U H ∧ vx_Zq Bundle.tN "SUPPRESSED_SENTINEL" Bundle.listD (aA base) U H
theorem SPc.moved {base : Nat} {adK adV : Nat → Nat} {u U : State} {H : Heap} (hvm : u.vm.Alike U.vm) (q : SPc base adK adV u H) : SPc base adK adV U H := ⟨q.1.moved hvm, q.2.1.moved hvm, q.2.2.1.moved hvm, q.2.2.2.1.moved hvm, q.2.2.2.2.moved hvm⟩
theorem SPc.kept {base : Nat} {adK adV : Nat → Nat} {U : State} {H H1 : Heap} (q : SPc base adK adV U H) (hq : ∀ a : Nat, a < H.size → ¬ aA base a → H1[a]? = H[a]?) : SPc base adK adV U H1 := ⟨q.1.kept hq, q.2.1.kept hq, q.2.2.1.kept hq, q.2.2.2.1.kept hq, q.2.2.2.2.kept hq⟩
def Rep (D : va_G) (base : Nat) (adK adV : Nat → Nat) (U : State) (h : aH) (H : Heap) : Prop :=
  (∀ a, cellOk D base adK U h H a) ∧ H.size = hz h ∧ (∀ a, hz h ≤ a → (hT h a).1 = 0) ∧ SPc base adK adV U H ∧ va_K D vwCl [] U ∧ base ≤ hz h
theorem Rep.moved {D : va_G} {base : Nat} {adK adV : Nat → Nat} {u U : State} {h : aH} {H : Heap} (hvm : u.vm.Alike U.vm) (q : Rep D base adK adV u h H) : Rep D base adK adV U h H :=
  ⟨fun a => (q.1 a).moved hvm, q.2.1, q.2.2.1, q.2.2.2.1.moved hvm, q.2.2.2.2.1.moved hvm, q.2.2.2.2.2⟩
theorem rep_upd {D : va_G} {base : Nat} {adK adV : Nat → Nat} {U : State} {h h' : aH} {H H' : Heap} {a : Nat} (q : Rep D base adK adV U h H) (ha : base ≤ a) (ht : ∀ b, hT h' b = hT h b) (hv : ∀ b, b ≠ a → ∀ j, hV h' b j = hV h b j) (hr : ∀ b, b ≠ a → ∀ j, hR h' b j = hR h b j) (hzz : hz h' = hz h)
    (hs : H'.size = H.size) (hH : ∀ b : Nat, b ≠ a → H'[b]? = H[b]?) (hc : cellOk D base adK U h' H' a) : Rep D base adK adV U h' H' := by
  refine ⟨fun b => ?_, by rw [hs, hzz]; exact q.2.1, fun b hb => by rw [ht]; exact q.2.2.1 b (by rw [← hzz]; exact hb), q.2.2.2.1.kept fun b _ hb => hH b (fun e => hb (by rw [e]; exact ha)), q.2.2.2.2.1, by rw [hzz]; exact q.2.2.2.2.2⟩
  by_cases hb : b = a
  · rw [hb]; exact hc
  · exact (q.1 b).kept (ht b) (hv b hb) (hr b hb) (hH b hb)
theorem rep_new {D : va_G} {base : Nat} {adK adV : Nat → Nat} {U : State} {h : aH} {H H' : Heap} {k n : Nat} (q : Rep D base adK adV U h H) (hs : H'.size = H.size + 1) (hH : ∀ b : Nat, b < H.size → H'[b]? = H[b]?) (hc : cellOk D base adK U (hnew h k n) H' (hz h)) : Rep D base adK adV U (hnew h k n) H' := by
  have hz1 : hz (hnew h k n) = hz h + 1 := rfl
  refine ⟨fun b => ?_, by rw [hs, hz1, q.2.1], fun b hb => ?_, q.2.2.2.1.kept fun b hb _ => hH b hb, q.2.2.2.2.1, by rw [hz1]; have := q.2.2.2.2.2; omega⟩
  · by_cases hb : b = hz h
    · rw [hb]; exact hc
    · have e1 : hT (hnew h k n) b = hT h b := if_neg hb
      have e2 : ∀ j, hV (hnew h k n) b j = hV h b j := fun j => if_neg hb
      have e3 : ∀ j, hR (hnew h k n) b j = hR h b j := fun j => if_neg hb
      by_cases hlt : b < H.size
      · exact (q.1 b).kept e1 e2 e3 (hH b hlt)
      · have h0 : (hT h b).1 = 0 := q.2.2.1 b (by rw [← q.2.1]; omega)
        unfold cellOk
        rw [e1, h0]
        exact ⟨fun h1 => absurd h1 (by omega), fun h1 => absurd h1 (by omega), fun h1 => absurd h1 (by omega), fun h1 => absurd h1 (by omega)⟩
  · have hb' : b ≠ hz h := by rw [hz1] at hb; omega
    have e1 : hT (hnew h k n) b = hT h b := if_neg hb'
    rw [e1]
    exact q.2.2.1 b (by rw [hz1] at hb; omega)
/-- the words that every method may use -/
def WALL : List Cond := lw_tbl.filter goodWord
theorem wall_in {w : Cond} (h : w ∈ lw_tbl) (g : goodWord w = true) : w ∈ WALL := List.mem_filter.mpr ⟨h, g⟩
def wsm (m : Nat) : List Cond := Cond.code (my m) (mb m) (mmL m) (mret m) :: WALL
