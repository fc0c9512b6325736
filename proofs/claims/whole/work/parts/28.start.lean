/-! THE CLAIM OUT OF ONE WALK OF THE LAW'S BODY. Your part is whole_start (and what it stands on); all else here is the same for every law, but numbers. -/
def R_law : String := "PlainGeometryLaw"
/-- the claim's own numbers, as its room has them (TURN prints one of two rooms: cells 601024, slots 7293034; cells 1201024, slots 5493034): what the walk wants is within both -/
def lwC : Nat := room_1.cells
def lwS : Nat := room_1.slots
theorem lwC_ge : 601024 ≤ lwC := by decide
theorem lwS_ge : 5493034 ≤ lwS := by decide
abbrev lwN : Nat := 3072
def lw_P (b : Addr) (xs : List Int32) (args : Array Value) (s : State) : Prop := args = #[.ref b] ∧ s.IntsAt b xs ∧ xs.length ≤ 3072 ∧ (Jvm.Cond.and given_1 narrow_1).before args s = true
/-- what a walk over the start with the record d0 says of its end, said of the start itself -/
theorem lw_closed {s t : State} {o : Outcome} {d0 : Drawn} {L : List Loc} {k n : Nat} (hd0 : s.drawn.sameBut d0 lw_cs) (hv : ∃ v, o = .returned v) (hW : (s.setDrawn d0).WarmedH t.vm) (hs : (s.setDrawn d0).sameButNew ({ t with vm := s.vm } : State) L k n) : State.butDraws s t lw_cs (fun t1 => Framed s o t1 L k n) := by
  have h2 : t.drawn = d0 := congrArg State.drawn hs.1
  refine ⟨⟨hv, hW, State.sameButNew.setDrawn hs s.drawn⟩, ?_, by decide⟩
  rw [h2]
  exact hd0
def lw_Q (_ : Array Value) (s : State) (o : Outcome) (t : State) : Prop := o = .returned (some (.int 1)) ∧ State.butDraws s t lw_cs (fun t1 => Framed s o t1 [] lwC lwS)
def lw_Z (below : List Frame) (a : Array Value) (s : State) : State → Prop := fun t => ∃ o, t.status = .running ∧ Ended t below o ∧ lw_Q a s o t
/-- the law's own end, with 1 on the stack, nothing written that was there before, its room as the claim has it; d0: the record of draws at this point (at the entry s.drawn: begin with 'refine W.base ?_' and 'have hd0 := Drawn.sameBut.refl s.drawn lw_cs') -/
theorem lw_ret {p : Program} {l : Launch} {e : Env} {s : State} {m : MethodId} {below : List Frame} {meth : Method} {c : Code} {b : Nat} {d0 : Drawn} (hd0 : s.drawn.sameBut d0 lw_cs) (hx : p.tables.exec = Jvm.exec) (hb : c.code = code) (hr : meth.sig.returnType = ret) (hlocks : meth.locks = false) {pc : Nat} {H : Heap} {ls : Array Slot} (hdg : decode code pc = .ok (.ireturn, 1)) : W p l e room_1 (s.setDrawn d0) m #[Value.ref b] below meth c H [] lwC lwS (lw_Z below #[Value.ref b] s) (F0 m pc ls [.int 1]) := by
  intro T hT X
  obtain ⟨fs, hret, hrun, hended, hW, hframe⟩ := X.leave (v := some (.int 1)) (hlocks := hlocks) (fun h => by rw [hr] at h; cases h)
  have hmeth' : T.vm.method? m = some meth := X.method'
  refine ⟨T.setFrames fs, ?_, .returned (some (.int 1)), hrun, hended, rfl, lw_closed hd0 ⟨_, rfl⟩ hW hframe⟩
  jvm_step X.here [X.here.top, hx, hb, hdg, hmeth', hr, ret, narrow_b1]
  (try refine ⟨rfl, ?_⟩); (try refine ⟨rfl, ?_⟩)
  first | (intro acts; rw [hret _ acts rfl rfl rfl]) | rw [hret _ _ rfl rfl rfl]
  exact Steps.refl _
/-- what holds at the law's entry: the machine, the code, the tables' words (any of lw_tbl by 'hts w (by decide +kernel)'), the script of L ints xs at the cell b, what the Statement gives of the start (any of its parts by flat_of_before) -/
def lw_At (p : Program) (s : State) (m : MethodId) (meth : Method) (c : Code) (b L : Nat) (xs : Nat → Int32) : Prop :=
  p.tables.exec = Jvm.exec ∧ c.code = code ∧ meth.sig.returnType = ret ∧ c.maxLocals = 9 ∧ s.vm.findClass R_law = some m.cls ∧ (∀ w ∈ lw_tbl, w.before #[Value.ref b] s = true) ∧ va_X b L xs s s.heap ∧ b < s.heap.size ∧ meth.locks = false ∧ (Jvm.Cond.and given_1 narrow_1).before #[Value.ref b] s = true
/-! the law's start: classes, text constants, statics, the script -/
theorem st_K {s : State} {args : Array Value} (hts : ∀ w ∈ lw_tbl, w.before args s = true) : ∃ D : va_G, va_K D vwCl [] s := by
  have h0 : ∀ c : Nat, ∃ q : ClassId × (Nat → Nat), ∀ e, vwCl[c]? = some e → u_Kn s e.1 e.2.1 e.2.2 q.1 q.2 := by
    intro c
    by_cases hc : c < 13
    · have hi := ins_all c hc
      rw [Bool.and_eq_true] at hi
      obtain ⟨cC, iS, h⟩ := u_known (C := cn c) (T := clT c) (N := clN c) (n := clN c) (ws := lw_tbl) hts (fun w hw => by
        obtain ⟨k, hk, rfl⟩ := List.mem_map.mp hw
        have hk := List.mem_range.mp hk
        have h40 : clN c ≤ 40 := by
          have key : ∀ c, c < 13 → clN c ≤ 40 := by decide +kernel
          exact key c hc
        have hl := lay_all c hc k (by omega)
        rw [Bool.or_eq_true, decide_eq_true_eq] at hl
        exact wAt_in (hl.resolve_left (by omega))) (hts _ (wAt_in hi.1))
      refine ⟨(cC, iS), fun e he => ?_⟩
      have e1 := cls_all c hc
      rw [he] at e1
      have e1 : e.1 = cn c := Option.some.inj e1
      have e2 : clT c = e.2.1 := by unfold clT; rw [he]
      have e3 : clN c = e.2.2 := by unfold clN; rw [he]
      rw [e1, ← e2, ← e3]
      exact h
    · exact ⟨(0, fun _ => 0), fun e he => by
        have := (List.getElem?_eq_some_iff.mp he).1
        exact absurd this hc⟩
  obtain ⟨f, hf⟩ := Classical.axiomOfChoice h0
  exact ⟨(fun c => (f c).1, fun c => (f c).2), fun c q hq => hf c q hq, fun k q h => by simp at h⟩
def txIx : List Nat := [73, 112, 122, 149, 151, 167, 169, 171, 192, 194, 196, 198]
def tmS (i : Nat) : Term := Term.string "PlainGeometry" (txIx.getD i 0)
abbrev nwF : List Cond := flatC (Jvm.Cond.and given_1 narrow_1)
theorem nw_ex : ∀ i, i < 12 → (Cond.exactly (tmS i) "java/lang/String") ∈ nwF := by decide +kernel
theorem nw_co : ∀ i, i < 12 → (Cond.eq (.field (tmS i) "java/lang/String" "coder" "B") (.int 0)) ∈ nwF := by decide +kernel
theorem nw_ar : ∀ i, i < 12 → (Cond.arrayOf (.field (tmS i) "java/lang/String" "value" "[B") .byte) ∈ nwF := by decide +kernel
theorem nw_le : ∀ i, i < 12 → (Cond.eq (.length (.field (tmS i) "java/lang/String" "value" "[B")) (.int (Int32.ofNat (txtL.getD i 0)))) ∈ nwF := by decide +kernel
theorem nw_el0 : ∀ j, j < txtL.getD 0 0 → (Cond.eq (.elem (.field (tmS 0) "java/lang/String" "value" "[B") (.int (Int32.ofNat j))) (.int ((txtB.getD 0 []).getD j 0))) ∈ nwF := by decide +kernel
theorem nw_el1 : ∀ j, j < txtL.getD 1 0 → (Cond.eq (.elem (.field (tmS 1) "java/lang/String" "value" "[B") (.int (Int32.ofNat j))) (.int ((txtB.getD 1 []).getD j 0))) ∈ nwF := by decide +kernel
theorem nw_el2 : ∀ j, j < txtL.getD 2 0 → (Cond.eq (.elem (.field (tmS 2) "java/lang/String" "value" "[B") (.int (Int32.ofNat j))) (.int ((txtB.getD 2 []).getD j 0))) ∈ nwF := by decide +kernel
theorem nw_el3 : ∀ j, j < txtL.getD 3 0 → (Cond.eq (.elem (.field (tmS 3) "java/lang/String" "value" "[B") (.int (Int32.ofNat j))) (.int ((txtB.getD 3 []).getD j 0))) ∈ nwF := by decide +kernel
theorem nw_el4 : ∀ j, j < txtL.getD 4 0 → (Cond.eq (.elem (.field (tmS 4) "java/lang/String" "value" "[B") (.int (Int32.ofNat j))) (.int ((txtB.getD 4 []).getD j 0))) ∈ nwF := by decide +kernel
theorem nw_el5 : ∀ j, j < txtL.getD 5 0 → (Cond.eq (.elem (.field (tmS 5) "java/lang/String" "value" "[B") (.int (Int32.ofNat j))) (.int ((txtB.getD 5 []).getD j 0))) ∈ nwF := by decide +kernel
theorem nw_el6 : ∀ j, j < txtL.getD 6 0 → (Cond.eq (.elem (.field (tmS 6) "java/lang/String" "value" "[B") (.int (Int32.ofNat j))) (.int ((txtB.getD 6 []).getD j 0))) ∈ nwF := by decide +kernel
theorem nw_el7 : ∀ j, j < txtL.getD 7 0 → (Cond.eq (.elem (.field (tmS 7) "java/lang/String" "value" "[B") (.int (Int32.ofNat j))) (.int ((txtB.getD 7 []).getD j 0))) ∈ nwF := by decide +kernel
theorem nw_el8 : ∀ j, j < txtL.getD 8 0 → (Cond.eq (.elem (.field (tmS 8) "java/lang/String" "value" "[B") (.int (Int32.ofNat j))) (.int ((txtB.getD 8 []).getD j 0))) ∈ nwF := by decide +kernel
theorem nw_el9 : ∀ j, j < txtL.getD 9 0 → (Cond.eq (.elem (.field (tmS 9) "java/lang/String" "value" "[B") (.int (Int32.ofNat j))) (.int ((txtB.getD 9 []).getD j 0))) ∈ nwF := by decide +kernel
theorem nw_el10 : ∀ j, j < txtL.getD 10 0 → (Cond.eq (.elem (.field (tmS 10) "java/lang/String" "value" "[B") (.int (Int32.ofNat j))) (.int ((txtB.getD 10 []).getD j 0))) ∈ nwF := by decide +kernel
theorem nw_el11 : ∀ j, j < txtL.getD 11 0 → (Cond.eq (.elem (.field (tmS 11) "java/lang/String" "value" "[B") (.int (Int32.ofNat j))) (.int ((txtB.getD 11 []).getD j 0))) ∈ nwF := by decide +kernel
theorem nw_el : ∀ i, i < 12 → ∀ j, j < txtL.getD i 0 → (Cond.eq (.elem (.field (tmS i) "java/lang/String" "value" "[B") (.int (Int32.ofNat j))) (.int ((txtB.getD i []).getD j 0))) ∈ nwF
  | 0, _, j, hj => nw_el0 j hj
  | 1, _, j, hj => nw_el1 j hj
  | 2, _, j, hj => nw_el2 j hj
  | 3, _, j, hj => nw_el3 j hj
  | 4, _, j, hj => nw_el4 j hj
  | 5, _, j, hj => nw_el5 j hj
  | 6, _, j, hj => nw_el6 j hj
  | 7, _, j, hj => nw_el7 j hj
  | 8, _, j, hj => nw_el8 j hj
  | 9, _, j, hj => nw_el9 j hj
  | 10, _, j, hj => nw_el10 j hj
  | 11, _, j, hj => nw_el11 j hj
  | n + 12, h, _, _ => absurd h (by omega)
theorem nw_ne : ∀ i, i < 12 → ∀ j, j < 12 → i ≠ j → (Cond.not (Cond.eq (tmS i) (tmS j))) ∈ nwF ∨ (Cond.not (Cond.eq (tmS j) (tmS i))) ∈ nwF := by decide +kernel
theorem nw_st : (Cond.eq (.static "java/lang/String" "COMPACT_STRINGS" "Z") (.int 1)) ∈ nwF ∧ (Cond.isRef (.static "jdk/internal/util/Preconditions" "SIOOBE_FORMATTER" "Ljava/util/function/BiFunction;")) ∈ nwF ∧ (Cond.isRef (.static Bundle.tN "UNASSIGNED_STACK" Bundle.steD)) ∈ nwF ∧ (Cond.isRef (.static Bundle.tN "SUPPRESSED_SENTINEL" Bundle.listD)) ∈ nwF := by decide +kernel
theorem txL_lt : ∀ i, i < 12 → txtL.getD i 0 < 2 ^ 31 := by decide +kernel
theorem ls_1 : Cond.laysStatic "java/lang/String" "COMPACT_STRINGS" "Z" ∈ lw_tbl := wAt_in (q := (1, 141)) (by decide +kernel)
theorem ls_2 : Cond.laysStatic "jdk/internal/util/Preconditions" "SIOOBE_FORMATTER" "Ljava/util/function/BiFunction;" ∈ lw_tbl := wAt_in (q := (1, 157)) (by decide +kernel)
theorem ls_3 : Cond.laysStatic Bundle.tN "UNASSIGNED_STACK" Bundle.steD ∈ lw_tbl := wAt_in (q := (5, 210)) (by decide +kernel)
theorem ls_4 : Cond.laysStatic Bundle.tN "SUPPRESSED_SENTINEL" Bundle.listD ∈ lw_tbl := wAt_in (q := (5, 212)) (by decide +kernel)
theorem li_1 : Cond.initialized "java/lang/String" ∈ lw_tbl := wAt_in (q := (0, 17)) (by decide +kernel)
theorem li_2 : Cond.initialized "jdk/internal/util/Preconditions" ∈ lw_tbl := wAt_in (q := (0, 19)) (by decide +kernel)
theorem li_3 : Cond.initialized Bundle.tN ∈ lw_tbl := wAt_in (q := (0, 11)) (by decide +kernel)
theorem lc_1 : Cond.castable aEx aEx ∈ lw_tbl := wAt_in (q := (5, 185)) (by decide +kernel)
theorem de_1 : exD.all (fun n => lw_tbl.any (fun u => decide (u = .declares (Bundle.initS n)))) = true := by decide +kernel
theorem de_in {n : String} (hn : n ∈ exD) : Cond.declares (Bundle.initS n) ∈ lw_tbl := by
  have h := List.all_eq_true.mp de_1 n hn
  rw [List.any_eq_true] at h
  obtain ⟨u, hu, h⟩ := h
  rw [← of_decide_eq_true h]
  exact hu
theorem sl_ix : slks.all (fun e => decide (e.1 = 11) && decide (txIx.getD e.2.2.1 0 = e.2.1) && decide (e.2.2.1 < 12)) = true := by decide +kernel
theorem st_S {s : State} {args : Array Value} (hts : ∀ w ∈ lw_tbl, w.before args s = true) (hnw : ∀ w ∈ nwF, w.before args s = true) : ∃ adK adV : Nat → Nat, SPc s.heap.size adK adV s s.heap ∧ KS adK s := by
  have hA : ∀ a : Nat, a < s.heap.size → ¬ aA s.heap.size a := fun a h1 h2 => absurd h1 (Nat.not_lt.mpr h2)
  obtain ⟨adK, adV, h1, h2⟩ := vk_Sof (tm := tmS) (A := aA s.heap.size) (args := args) (s := s) (N := 12) (len := txtL) (byt := txtB) txL_lt (fun i hi => hnw _ (nw_ex i hi)) (fun i hi => hnw _ (nw_co i hi)) (fun i hi => hnw _ (nw_ar i hi)) (fun i hi => hnw _ (nw_le i hi)) (fun i hi j hj => hnw _ (nw_el i hi j hj)) (fun i j hi hj hne => (nw_ne i hi j hj hne).imp (hnw _) (hnw _)) hA
  refine ⟨adK, adV, ⟨h1, va_Zof (hts _ ls_1) (hts _ li_1) (va_eqt (hnw _ nw_st.1)) hA, va_Zqof (hts _ ls_2) (hts _ li_2) (hnw _ nw_st.2.1) hA, vx_Zqof (hts _ ls_3) (hts _ li_3) (hnw _ nw_st.2.2.1) hA, vx_Zqof (hts _ ls_4) (hts _ li_3) (hnw _ nw_st.2.2.2) hA⟩, fun own idx t ht => ?_, va_AO.of (hts _ ao_4), hts _ ao_5, va_Nw.of rfl (hts _ lc_1), fun n hn => va_Nw.of rfl (hts _ (de_in hn))⟩
  unfold slook at ht
  obtain ⟨e, he, rfl⟩ := Option.map_eq_some_iff.mp ht
  have hm := List.mem_of_find?_eq_some he
  have hp := List.find?_some he
  simp only [Bool.and_eq_true, beq_iff_eq] at hp
  have hw := List.all_eq_true.mp sl_all e hm
  have hx := List.all_eq_true.mp sl_ix e hm
  simp only [Bool.and_eq_true, decide_eq_true_eq] at hx
  have h3 := h2 _ hx.2
  unfold tmS at h3
  rw [hx.1.2] at h3
  rw [← hp.1, ← hp.2]
  refine vk_R.of (hts _ (wAt_in hw)) ?_
  rw [hx.1.1]
  exact h3
/-- what the small machine's heap is at the law's entry: the script, the texts, nothing else -/
def Start (w : aW) (h : aH) (b L : Nat) : Prop := hT h b = (6, L) ∧ (∀ i < 12, hT h (w i) = (8, i)) ∧ (∀ a, hz h ≤ a → (hT h a).1 = 0) ∧ b < hz h ∧ (∀ i < 12, w i < hz h) ∧ ∀ j < L, r32 (hV h b j)
noncomputable def h00 (b L : Nat) (xs : Nat → Int32) (adK : Nat → Nat) (n : Nat) : aH :=
  (fun a => if a = b then (6, L) else match (List.range 12).find? (fun i => decide (adK i = a)) with
    | some i => (8, i)
    | none => (0, 0), fun _ j => (xs j).toInt, fun _ _ => none, n, 0)
theorem find_ad {adK : Nat → Nat} (hinj : ∀ i j : Nat, i < 12 → j < 12 → adK i = adK j → i = j) {i : Nat} (hi : i < 12) : (List.range 12).find? (fun j => decide (adK j = adK i)) = some i := by
  cases e : (List.range 12).find? (fun j => decide (adK j = adK i)) with
  | none =>
    have := List.find?_eq_none.mp e i (List.mem_range.mpr hi)
    simp at this
  | some j =>
    have h1 := List.find?_some e
    have h2 := List.mem_range.mp (List.mem_of_find?_eq_some e)
    rw [hinj j i h2 hi (by simpa using h1)]
theorem st_ne {base : Nat} {adK adV : Nat → Nat} {s : State} {b L : Nat} {xs : Nat → Int32} (hS : SPc base adK adV s s.heap) (hX : va_X b L xs s s.heap) {i : Nat} (hi : i < 12) : adK i ≠ b := by
  intro e
  obtain ⟨cf, k, j, f, cell, -, -, h3, -, h5, -⟩ := (hS.1.1 i hi).2.2.1
  obtain ⟨scr, g1, -, -, g4, g5⟩ := hX
  rw [e, g1] at h3
  cases h3
  have hlt := (Array.getElem?_eq_some_iff.mp h5).1
  rw [g4] at hlt
  rw [g5 _ hlt] at h5
  cases h5
theorem st_rep {D : va_G} {adK adV : Nat → Nat} {s : State} {b L : Nat} {xs : Nat → Int32} (hL : L ≤ 1000000) (hK : va_K D vwCl [] s) (hS : SPc s.heap.size adK adV s s.heap) (hX : va_X b L xs s s.heap) (hb : b < s.heap.size) :
    Rep D s.heap.size adK adV s (h00 b L xs adK s.heap.size) s.heap ∧ Start adK (h00 b L xs adK s.heap.size) b L := by
  have hlt : ∀ i, i < 12 → adK i < s.heap.size := fun i hi => by
    obtain ⟨cell, h1, -⟩ := (hS.1.1 i hi).1
    exact (Array.getElem?_eq_some_iff.mp h1).1
  have eb : hT (h00 b L xs adK s.heap.size) b = (6, L) := if_pos rfl
  have et : ∀ i, i < 12 → hT (h00 b L xs adK s.heap.size) (adK i) = (8, i) := fun i hi => by
    show (if adK i = b then (6, L) else _) = _
    rw [if_neg (st_ne hS hX hi), find_ad hS.1.2 hi]
  have hr : ∀ a j, r32 (hV (h00 b L xs adK s.heap.size) a j) := fun a j => by
    show r32 (xs j).toInt
    have h1 := Int32.le_toInt (xs j)
    have h2 := Int32.toInt_lt (xs j)
    exact ⟨by omega, by omega⟩
  have eo : ∀ a, a ≠ b → (∀ i, i < 12 → adK i ≠ a) → hT (h00 b L xs adK s.heap.size) a = (0, 0) := fun a h1 h2 => by
    show (if a = b then (6, L) else _) = _
    rw [if_neg h1]
    have : (List.range 12).find? (fun i => decide (adK i = a)) = none := List.find?_eq_none.mpr fun i hi => by simpa using h2 i (List.mem_range.mp hi)
    rw [this]
  refine ⟨⟨fun a => ?_, rfl, fun a ha => ?_, hS, hK, Nat.le_refl _⟩, eb, et, fun a ha => ?_, hb, hlt, fun j _ => hr b j⟩
  · by_cases h1 : a = b
    · subst h1
      unfold cellOk
      rw [eb]
      refine ⟨fun _ h2 => absurd h2 (show ¬ 6 ≤ 5 by decide), fun _ => ⟨hb, hL, ?_, fun j _ => hr a j⟩, fun h => absurd h (show ¬ 6 = 8 by decide), fun h => absurd h (show ¬ 10 ≤ 6 by decide)⟩
      have e : (fun j => Int32.ofInt (hV (h00 a L xs adK s.heap.size) a j)) = xs := by
        funext j
        show Int32.ofInt (xs j).toInt = xs j
        exact Int32.ofInt_toInt _
      rw [e]
      exact hX
    · by_cases h2 : ∃ i, i < 12 ∧ adK i = a
      · obtain ⟨i, hi, rfl⟩ := h2
        unfold cellOk
        rw [et i hi]
        exact ⟨fun _ h2 => absurd h2 (show ¬ 8 ≤ 5 by decide), fun h => absurd h (show ¬ 8 = 6 by decide), fun _ => ⟨hlt i hi, i, hi, rfl, rfl⟩, fun h => absurd h (show ¬ 10 ≤ 8 by decide)⟩
      · unfold cellOk
        rw [eo a h1 (fun i hi e => h2 ⟨i, hi, e⟩)]
        exact ⟨fun h => absurd h (by decide), fun h => absurd h (by decide), fun h => absurd h (by decide), fun h => absurd h (by decide)⟩
  · have ha : s.heap.size ≤ a := ha
    rw [eo a (fun e => by rw [e] at ha; omega) (fun i hi e => by have := hlt i hi; rw [e] at this; omega)]
  · have ha : s.heap.size ≤ a := ha
    rw [eo a (fun e => by rw [e] at ha; omega) (fun i hi e => by have := hlt i hi; rw [e] at this; omega)]
theorem fin_law {p : Program} {l : Launch} {e : Env} {s : State} {m : MethodId} {below : List Frame} {meth : Method} {c : Code} {b : Nat} {D : va_G} {adK adV : Nat → Nat} {h' : aH} {z0 s0 : Nat} (hx : p.tables.exec = Jvm.exec) (hb : c.code = code) (hr : meth.sig.returnType = ret) (hlocks : meth.locks = false) (hz' : hz h' ≤ z0 + lwC) (hs' : hs h' ≤ s0 + lwS) :
    FinOk p l e room_1 s m #[Value.ref b] below meth c (lw_Z below #[Value.ref b] s) D s.heap.size adK adV z0 s0 s.heap (some .boolean) code (fun r1 h1 => r1 = some (aI 1) ∧ h1 = h') := by
  intro ins pc lsC H locs r1 h1 hf hz1 hs1 hd hro hvo hRp hS
  obtain ⟨rfl, rfl⟩ := hf
  have hi : ins = .ireturn := by
    rcases hro with ⟨rfl, -⟩ | ⟨-, x, h1, -⟩ | ⟨-, x, h1, -⟩ | ⟨-, x, ty, h1, -⟩ | ⟨-, h1, -⟩
    · rfl
    · cases h1
    · cases h1
    · cases h1
    · cases h1
  subst hi
  refine va_forget hS.2.2 ?_
  refine W.widen (k := lwC) (n := lwS) (by omega) (by omega) ?_
  refine W.base ?_
  exact lw_ret (Drawn.sameBut.refl s.drawn lw_cs) hx hb hr hlocks hd
theorem start_of {p : Program} {e : Env} {s : State} {m : MethodId} {below : List Frame} {meth : Method} {c : Code} (l : Launch) (hflags : l.flags = flags0) {b L : Nat} {xs : Nat → Int32} (hL : L ≤ lwN) (C0 : lw_At p s m meth c b L xs)
    (H : ∀ (w : aW) (h0 : aH), Start w h0 b L → Wk w 1000 cd_L_law 0 [(0, aO (some b))] [] h0 (fun r h1 => r = some (aI 1) ∧ hz h1 ≤ hz h0 + lwC ∧ hs h1 ≤ hs h0 + lwS)) :
    W p l e room_1 s m #[Value.ref b] below meth c s.heap [] 0 0 (lw_Z below #[Value.ref b] s) (entryFrame m ([Value.ref b] : List Value).toArray 9) := by
  obtain ⟨hx, hb, hr, hml, hown, hts, hX, hbl, hlocks, hgv⟩ := C0
  obtain ⟨D, hK⟩ := st_K hts
  obtain ⟨adK, adV, hSP, hKS⟩ := st_S hts (flat_of_before _ hgv)
  obtain ⟨hRp, hSt⟩ := st_rep (by unfold lwN at hL; omega) hK hSP hX hbl
  obtain ⟨r, h', n, hrun, rfl, hz1, hs1⟩ := H adK _ hSt
  have hfl : l.stackTraces = false := by
    unfold Launch.stackTraces
    rw [hflags]
    decide +kernel
  have hmono := ares_mono (w := adK) (bi := biG adK) (cd := cdm) biG_mono 1000
  have C : Ctx p room_1 s m #[Value.ref b] meth c s.heap.size 9 (hz (h00 b L xs adK s.heap.size)) (hs (h00 b L xs adK s.heap.size)) (hz h') (hs h') s.heap 13 yL_law (some .boolean) code 1000 :=
    ⟨hx, hb, hml, hown, fun w hw => hts w (List.mem_filter.mp hw).1, hr, hlocks, fun h => absurd h (by decide +kernel), ⟨by show _ ≤ lwC; omega, by show _ ≤ lwS; omega⟩, ⟨by decide, by decide⟩, Nat.le_refl _, by omega⟩
  have g := (run_soundL (e := e) (below := below) (Q := lw_Z below #[Value.ref b] s) C (sound l D s.heap.size adK adV (biG adK) biG_mono (biG_ok l D s.heap.size adK adV) 1000) (fr9_ares l hfl D s.heap.size adK adV 999 (by omega)) hmono hKS (fin_law hx hb hr hlocks hz1 hs1) n 0 _ _ _ hrun).2.2 ⟨Nat.le_refl _, Nat.le_refl _⟩
  have hl := lv_entry ([.ref b]) (n := 9) (Nat.le_of_ble_eq_true rfl)
  rw [lg_entry_eq]
  have g2 := g _ s.heap [] hl (fun q hq => by
    rcases List.mem_cons.mp hq with rfl | hq
    · trivial
    · cases hq) (fun v hv => by cases hv) hRp va_S.rf
  rw [Nat.sub_self, Nat.sub_self] at g2
  exact g2
