/-! exceptions: the class's fraction over 0, and its catching by the law's own fraction. vx_throwS2 follows vx_throwS of kit/laws (the size of the heap behind a throw told exactly) -/
section VX2
variable {p : Program} {l : Launch} {e : Env} {R : Room} {s : State} {m : MethodId} {args : Array Value} {below : List Frame} {meth : Method} {c : Code} {H : Heap} {locs : List Loc} {cells slots : Nat} {Q : State → Prop}
variable {mc ms : Nat} {free : Addr → Prop} {A0 A1 : Nat → Prop} {H0 : Heap} {a : Array Value} {ls : Array Slot} {st0 rest : List Value}
variable {Qc : Array Value → State → Outcome → State → Prop} {XC : String → State → State → Prop}
theorem vx_throwS2 {cc : ByteArray} {pc : Nat} (hexec : p.tables.exec = Jvm.exec) (hb : c.code = cc) (hl : l.stackTraces = false) {own cls text : String} {names : List String} {ik is ic mc ms sa : Nat} {A : Nat → Prop}
    (hown : s.vm.findClass own = some m.cls) (hcls : Bundle.fit cls = true) (hnames : ∀ n ∈ names, Bundle.fit n = true)
    (hk : (Cond.classLink own ik cls).before args s = true) (hini : (Cond.initialized cls).before args s = true) (hstr : vk_R own is text sa s) (hat : ∀ w ∈ vx_atS own ic cls names, w.before args s = true)
    (hgood : ∀ w ∈ Cond.classLink own ik cls :: Cond.initialized cls :: vx_atS own ic cls names, vx_ot w = true)
    (hU : vx_Zq Bundle.tN "UNASSIGNED_STACK" Bundle.steD A s s.heap) (hN : vx_Zq Bundle.tN "SUPPRESSED_SENTINEL" Bundle.listD A s s.heap) (hS : va_S A s.heap H locs) (hsize : ls.size = c.maxLocals)
    (d0 : decode cc pc = .ok (.new ik, 3)) (d3 : decode cc (pc + 3) = .ok (.dup, 1)) (d4 : decode cc (pc + 4) = .ok (.ldc is, 2)) (d6 : decode cc (pc + 6) = .ok (.invokespecial ic, 3)) (d9 : decode cc (pc + 9) = .ok (.athrow, 1))
    (hout : ∀ x ∈ c.exceptionTable.toList, covers x (pc + 9) = false)
    (hRframes : names.length + 3 < R.frames) (hRlocals : (rest.map fun v => v.category).sum + (13 * (names.length + 1) + 43) ≤ R.locals) (hRcells : cells + 1 ≤ R.cells) (hRslots : slots + 6 ≤ R.slots) (hlocks : meth.locks = false)
    (hx : ∀ t : State, s.vm.Alike t.vm → t.heap.size = H.size + 1 → (∀ q : Nat, q < H.size → t.heap[q]? = H[q]?) → XC cls s t)
    (hf : ∀ z ∈ locs, free z.base) (hc : cells + 1 ≤ mc) (hs : slots + 6 ≤ ms) :
    W p l e R s m args below meth c H locs cells slots (vx_MQ below Qc XC args s mc ms free) (F0 m pc ls rest) := by
  intro T hT X
  have htr : e.platform.stackTraces = false := (show e.platform.stackTraces = l.stackTraces by rw [X.admits.platform]).trans hl
  have Y := vx_rebase X (R' := { frames := R.frames, locals := R.locals, cells := 1, slots := 6 }) (Nat.le_refl _) (Nat.le_refl _) hRcells hRslots
  obtain ⟨s', hA⟩ : ∃ z, z = (T.setVm s.vm).setFrames (.invoking m args :: below) := ⟨_, rfl⟩
  rw [← hA] at Y
  have hvm : s'.vm = s.vm := by rw [hA]; rfl
  have hhp : s'.heap = H := by rw [hA]; exact hT
  have hW0 : s.WarmedH s'.vm := by rw [hvm]; exact State.WarmedH.refl s
  have hat' : ∀ w ∈ vx_atS own ic cls names, w.before args s' = true := fun w hw => vx_ot_at hW0 hvm.symm (hgood w (List.mem_cons_of_mem _ (List.mem_cons_of_mem _ hw))) (hat w hw)
  have hk' : (Cond.classLink own ik cls).before args s' = true := vx_ot_at hW0 hvm.symm (hgood _ List.mem_cons_self) hk
  have hini' : (Cond.initialized cls).before args s' = true := vx_ot_at hW0 hvm.symm (hgood _ (List.mem_cons_of_mem _ List.mem_cons_self)) hini
  have hU' : vx_Zq Bundle.tN "UNASSIGNED_STACK" Bundle.steD A s' s'.heap := by rw [hhp]; exact vx_Zq.moved hW0.alike (hU.kept hS.2.1)
  have hN' : vx_Zq Bundle.tN "SUPPRESSED_SENTINEL" Bundle.listD A s' s'.heap := by rw [hhp]; exact vx_Zq.moved hW0.alike (hN.kept hS.2.1)
  have h : ∀ w ∈ Bundle.ownAtoms own ic cls names, w.before args s' = true := vx_own hat' (vx_isRefq hU'.1) (vx_isRefq hN'.1) hU'.2.word hN'.2.word
  have hown' : s'.vm.findClass own = some m.cls := by rw [hvm]; exact hown
  have hins : (Cond.instantiable cls 6).before args s' = true := h _ (by simp [Bundle.ownAtoms])
  obtain ⟨vm₁, cX, kX, hfX, hkX, -, -, X₁, st1⟩ := Y.newCold hexec (own := own) (C := cls) (index := ik) (n := 6) hown' hk' hins hini'
    (g := F0 m pc ls rest) rfl (by rw [hb]; exact d0) (Nat.le_refl _) (Nat.le_refl _)
  generalize hT1 : (T.setVm vm₁).pushCell { cls := cX, slots := kX.instanceTypes.map defaultValue, vm := .none } = T1 at X₁ st1
  have hcat : (Value.ref T.heap.size).category = 1 := rfl
  have hcellA : T1.heap[T.heap.size]? = some (freshCell cX kX) := by rw [← hT1]; exact State.heap_pushCell_size _ _
  have d3' : decode c.code (pc + 3) = .ok (.dup, 1) := by rw [hb]; exact d3
  have d4' : decode c.code (pc + 4) = .ok (.ldc is, 2) := by rw [hb]; exact d4
  have hstr' : vk_R own is text sa s' := vk_R.warm hW0 hstr
  obtain ⟨U, hsteps, hrun, hend, hW, hsame, ce, hce, hO⟩ := X₁.ctorThrowS hexec htr (own := own) (cls := cls) (names := names) (ic := ic) hown' hcls hnames h (fun x hx => nomatch hx) hfX hkX hcellA (by rw [hhp, hT]; exact Nat.le_refl _) (msg := .ref sa) rfl
    (g := { method := m, pc := pc + 6, locals := ls, stack := .ref sa :: .ref T.heap.size :: .ref T.heap.size :: rest, locked := none }) rfl hsize rfl rfl (rest := rest) rfl
    (by rw [hb]; exact d6) (by rw [hb]; exact d9) hout hRframes (by simp only [List.map_cons, List.sum_cons, hcat]; omega) hlocks
  obtain ⟨f1, f2⟩ := vx_frame hsame
  rw [hhp] at f1 f2
  have f0 : U.heap.size = H.size + 1 := by
    have z1 := hsame.2.2.1
    rw [hhp] at z1
    have z2 := (Array.getElem?_eq_some_iff.mp hce).1
    rw [hT] at z2
    show U.heap.size = _
    have z3 : U.heap.size ≤ H.size + 1 := z1
    omega
  have hWs : s.WarmedH U.vm := State.WarmedH.trans hW0 hW
  have hcl : s.vm.findClass cls = some ce.cls := by
    have h9 := hO.cls
    rw [hvm] at h9
    exact h9
  have hall : s.sameButNew ({ U with vm := s.vm } : State) locs mc ms := by
    subst hA
    obtain ⟨e1, e2⟩ := hsame
    rw [State.setFrames_setFrames] at e1
    have h2 : (T.setVm s.vm).sameButNew ({ U with vm := s.vm } : State) [] (0 + 1) (0 + 6) := ⟨e1, e2⟩
    have h3 := X.same.trans h2
    rw [List.append_nil] at h3
    exact h3.mono hc hs
  refine ⟨U, ?_, .threw T.heap.size, hrun, hend, Or.inr ⟨T.heap.size, rfl, cls, ce, locs, hx U hWs.alike f0 (fun q hq => f2 q hq (fun z hz => nomatch hz)), hce, hO.vm, hcl, hWs, hall, hf⟩⟩
  refine st1 _ ?_
  show Steps p.tables e below (T1.setTop { method := m, pc := pc + 3, locals := ls, stack := .ref T.heap.size :: rest, locked := none }) _
  jvm_step X₁.here [X₁.here.top, hexec, d3', Value.category]
  exact X₁.ldcString hexec (own := own) (text := text) (index := is) (a := sa) hown' hstr'.1 hstr'.2
    (g := { method := m, pc := pc + 4, locals := ls, stack := .ref T.heap.size :: .ref T.heap.size :: rest, locked := none }) rfl d4' _ hsteps
end VX2
theorem dfr_0 : decode cX11_fraction 0 = .ok (.lload_n 3, 1) := by decide +kernel
theorem dfr_1 : decode cX11_fraction 1 = .ok (.lconst 0, 1) := by decide +kernel
theorem dfr_2 : decode cX11_fraction 2 = .ok (.lcmp, 1) := by decide +kernel
theorem dfr_3 : decode cX11_fraction 3 = .ok (.ifCond .ne 13, 3) := by decide +kernel
theorem dfr_6 : decode cX11_fraction 6 = .ok (.new 71, 3) := by decide +kernel
theorem dfr_9 : decode cX11_fraction 9 = .ok (.dup, 1) := by decide +kernel
theorem dfr_10 : decode cX11_fraction 10 = .ok (.ldc 73, 2) := by decide +kernel
theorem dfr_12 : decode cX11_fraction 12 = .ok (.invokespecial 75, 3) := by decide +kernel
theorem dfr_15 : decode cX11_fraction 15 = .ok (.athrow, 1) := by decide +kernel
theorem dlf_0 : decode cL_fraction 0 = .ok (.aload 5, 2) := by decide +kernel
theorem dlf_2 : decode cL_fraction 2 = .ok (.iconst 0, 1) := by decide +kernel
theorem dlf_3 : decode cL_fraction 3 = .ok (.aload_n 0, 1) := by decide +kernel
theorem dlf_4 : decode cL_fraction 4 = .ok (.lload_n 1, 1) := by decide +kernel
theorem dlf_5 : decode cL_fraction 5 = .ok (.lload_n 3, 1) := by decide +kernel
theorem dlf_6 : decode cL_fraction 6 = .ok (.invokevirtual 7, 3) := by decide +kernel
theorem dlf_14 : decode cL_fraction 14 = .ok (.astore 6, 2) := by decide +kernel
theorem dlf_16 : decode cL_fraction 16 = .ok (.iconst 1, 1) := by decide +kernel
theorem dlf_17 : decode cL_fraction 17 = .ok (.ireturn, 1) := by decide +kernel
def exNames : List String := ["java/lang/RuntimeException", "java/lang/Exception"]
theorem ex_a : (vx_atS RX11 75 aEx exNames).all (fun w => vx_ot w && (goodWord w || (decide (w = .castable aEx aEx) || exD.any (fun n => decide (w = .declares (Bundle.initS n)))))) = true := by decide +kernel
theorem ex_b : (vx_atS RX11 75 aEx exNames).all (fun w => !goodWord w || lw_tbl.any (fun u => decide (u = w))) = true := by decide +kernel
theorem ex_k : Cond.classLink RX11 71 aEx ∈ WALL := wall_in (wAt_in (q := (5, 183)) (by decide +kernel)) rfl
theorem ex_i : Cond.initialized aEx ∈ WALL := wall_in (wAt_in (q := (0, 14)) (by decide +kernel)) rfl
theorem ex_l : Cond.classLink RL 13 aEx ∈ WALL := wall_in (wAt_in (q := (5, 178)) (by decide +kernel)) rfl
theorem cell7 {D : va_G} {base : Nat} {adK : Nat → Nat} {U : State} {h : aH} {H' : Heap} : cellOk D base adK U (hnew h 7 6) H' (hz h) := by
  have e : hT (hnew h 7 6) (hz h) = (7, 6) := by rw [hT_new, if_pos rfl]
  unfold cellOk
  rw [e]
  exact ⟨fun _ h2 => absurd h2 (by decide), fun h1 => absurd h1 (by decide), fun h1 => absurd h1 (by decide), fun h1 => absurd h1 (by decide)⟩
def frRm : Room := { frames := 6, cells := 1, slots := 6, locals := 100 }
set_option maxHeartbeats 4000000 in
theorem fr_thr (l : Launch) (hfl : l.stackTraces = false) (D : va_G) (base : Nat) (adK adV : Nat → Nat) {h : aH} {x : Nat} {up : Int} : vx_Met l (my 200) (wsm 200) frRm (PcR D base adK adV [aO (some x), aJ up, aJ 0] h) (va_Qi (fun _ (_ : Unit) => False) (fun _ _ => True) (aA base)) (vx_X (fun (_ : Unit) => True) (fun E _ t => E = aEx ∧ Rep D base adK adV t (hnew h 7 6) t.heap) (aA base)) 1 6 (aA base) := by
  refine vx_ofW (cc := cX11_fraction) (maxL := 5) (ret := some .int) (by decide +kernel) rfl ?_
  intro p e s m args below meth c s1 B hml hex hv
  obtain ⟨rfl, hRp, hKS⟩ := hv
  have hx := B.exec
  have hb := B.bytes
  have hts0 := atoms_spec (ws := wsm 200) B.pre
  have hts : ∀ w ∈ WALL, w.before _ s = true := fun w hw => hts0 w (List.mem_cons_of_mem _ hw)
  have hown : s.vm.findClass RX11 = some m.cls := findClass_of_methodNamed B.named
  have hl := lv_entry ([.ref x, .long (Int64.ofInt up), .long (Int64.ofInt 0)]) (n := 5) (Nat.le_of_ble_eq_true rfl)
  show W p l e _ s m _ below meth c s.heap [] 0 0 _ (entryFrame m ([.ref x, .long (Int64.ofInt up), .long (Int64.ofInt 0)] : List Value).toArray 5)
  rw [lg_entry_eq]
  refine lv_lload_n hx hb dfr_0 rfl (lv_at hl 2 rfl) ?_
  refine lv_lconst (v := 0) hx hb dfr_1 rfl ?_
  refine W.lcmp hx hb dfr_2 ?_
  refine lv_if_ne (tgt := 16) hx hb dfr_3 (by decide) (fun e => absurd (by decide) e) (fun _ => ?_)
  have hsp := hRp.2.2.2.1
  have hat : ∀ w ∈ vx_atS RX11 75 aEx exNames, w.before ([.ref x, .long (Int64.ofInt up), .long (Int64.ofInt 0)] : List Value).toArray s = true := by
    intro w hw
    have h1 := List.all_eq_true.mp ex_a w hw
    have h2 := List.all_eq_true.mp ex_b w hw
    rw [Bool.and_eq_true] at h1
    cases hg : goodWord w with
    | true =>
      rw [hg] at h2
      simp only [Bool.not_true, Bool.false_or, List.any_eq_true, decide_eq_true_eq] at h2
      obtain ⟨u, hu, rfl⟩ := h2
      exact hts _ (wall_in hu hg)
    | false =>
      have h3 := h1.2
      rw [hg] at h3
      simp only [Bool.false_or, Bool.or_eq_true, List.any_eq_true, decide_eq_true_eq] at h3
      rcases h3 with h3 | ⟨n, hn, h3⟩
      · rw [h3]
        exact va_Nw.use rfl hKS.2.2.2.1
      · rw [h3]
        exact va_Nw.use rfl (hKS.2.2.2.2 n hn)
  refine vx_throwS2 hx hb hfl (own := RX11) (cls := aEx) (text := texts.getD 0 "") (names := exNames) (ik := 71) (is := 73) (ic := 75) (sa := adK 0) (A := aA base) hown (by decide +kernel) (by decide +kernel) (hts _ ex_k) (hts _ ex_i) (hKS.1 11 73 0 (by decide +kernel)) hat (fun w hw => ?_) hsp.2.2.2.1 hsp.2.2.2.2 va_S.rf (hl.1.trans hml.symm) dfr_6 dfr_9 dfr_10 dfr_12 dfr_15 (fun z hz => (hex z hz).elim) (by decide) (by decide) (by decide) (by decide) B.notSynchronized (fun t hal hsz hkp => ⟨(), trivial, ⟨rfl, ?_⟩, ?_⟩) (fun z hz => nomatch hz) (by decide) (by decide)
  · rcases List.mem_cons.mp hw with rfl | hw
    · rfl
    · rcases List.mem_cons.mp hw with rfl | hw
      · rfl
      · have h1 := List.all_eq_true.mp ex_a w hw
        rw [Bool.and_eq_true] at h1
        exact h1.1
  · exact Rep.moved hal (rep_new hRp hsz hkp cell7)
  · exact ⟨by rw [hsz]; omega, fun q hq _ => hkp q hq⟩
theorem met_WH {l : Launch} {y : MethodName} {ws ws' : List Cond} {rm : Room} {Pc : Array Value → State → Prop} {Qc : Array Value → State → Outcome → State → Prop} {mc ms : Nat} {free : Addr → Prop} {cc : ByteArray} {maxL : Nat} {ret : Option FieldType} {hh : List (Nat × Nat × Nat × Nat)}
    (hy : plainName y.cls = true) (hw : ws = Cond.codeWith y cc maxL ret hh :: ws')
    (body : ∀ p e s m args below meth c s₁, BodyLoose p l y (headSpec ws rm) cc maxL ret e s m args below meth c s₁ → c.maxLocals = maxL → Pc args s →
      W p l e (headSpec ws rm).room s m args below meth c s.heap [] 0 0 (MQ below Qc args s mc ms free) (entryFrame m args maxL)) : Met l y ws rm Pc Qc mc ms free := by
  have h : vx_Met l y ws rm Pc Qc (fun _ _ _ => False) mc ms free := vx_ofWH hy hw (fun p e s m args below meth c s1 B hml hP => vx_ret (body p e s m args below meth c s1 B hml hP))
  exact Jvm.Free.MetFree.mono h (fun _ _ h => h) (fun _ _ _ _ _ h => h) (fun a st o t _ hQ => by
    rcases hQ with hQ | ⟨q, -, E, ce, L, hx, -⟩
    · exact hQ
    · exact hx.elim)
def wsF : List Cond := Cond.codeWith yL_fraction cL_fraction 7 (some .int) [(0, 11, 14, 13)] :: WALL
theorem mc_frac : cd_L_fraction.all (fun e => echk 13 yL_fraction (some .int) 7 cL_fraction e && !(e.2.2.2.1 == 389)) = true := by decide +kernel
theorem biG_mono {w : aW} (cal : aCal) (hm : ∀ m as h r h1, cal m as h r h1 → hz h ≤ hz h1 ∧ hs h ≤ hs h1) : ∀ m as h r h1, biG w cal m as h r h1 → hz h ≤ hz h1 ∧ hs h ≤ hs h1 := by
  intro m as h r h1 hb
  rcases hb with ⟨rfl, o, rfl, ht, rfl, rfl⟩ | ⟨rfl, o, i, rfl, ht, h0, hi, rfl, rfl⟩ | ⟨-, ⟨x, up, out, -, -, -, rfl⟩ | ⟨n, u⟩⟩
  · exact ⟨Nat.le_refl _, Nat.le_refl _⟩
  · exact ⟨Nat.le_refl _, Nat.le_refl _⟩
  · exact ⟨by rw [hz_new]; omega, by rw [hs_new]; omega⟩
  · exact run_mono hm _ _ _ _ _ u
set_option maxHeartbeats 4000000 in
theorem frac_met (l : Launch) (hfl : l.stackTraces = false) (D : va_G) (base : Nat) (adK adV : Nat → Nat) (d : Nat) (hd : 2 ≤ d) {cal : aCal} (hcal : CalOk l D base adK adV cal d) (hmono : ∀ m as h r h1, cal m as h r h1 → hz h ≤ hz h1 ∧ hs h ≤ hs h1) {as : List aV} {h : aH} {r : Option aV} {h1 : aH} (u : frC adK cal as h r h1) (hvo : ∀ v ∈ as, vok v) (hcat : acats as ≤ 7) :
    Met l yL_fraction wsF (mRoom (d + 1) h h1) (PcR D base adK adV as h) (QcR D base adK adV r h1) (hz h1 - hz h) (hs h1 - hs h) (aA base) := by
  rcases u with ⟨x, up, out, rfl, hx21, rfl, rfl⟩ | ⟨n, u⟩
  · refine met_WH (cc := cL_fraction) (maxL := 7) (ret := some .int) (hh := [(0, 11, 14, 13)]) (by decide +kernel) rfl ?_
    intro p e s m args below meth c s1 B hml hv
    obtain ⟨rfl, hRp, hKS⟩ := hv
    have hx := B.exec
    have hb := B.bytes
    have hts0 := atoms_spec (ws := wsF) B.pre
    have hts : ∀ w ∈ WALL, w.before _ s = true := fun w hw => hts0 w (List.mem_cons_of_mem _ hw)
    have hown : s.vm.findClass RL = some m.cls := findClass_of_methodNamed B.named
    have htab : c.exceptionTable.toList = tableOf [(0, 11, 14, 13)] := vx_table (x := yL_fraction) B (hts0 _ List.mem_cons_self)
    have hl := lv_entry ([.ref x, .long (Int64.ofInt up), .long (Int64.ofInt 0), .ref out]) (n := 7) (Nat.le_of_ble_eq_true rfl)
    show W p l e _ s m _ below meth c s.heap [] 0 0 _ (entryFrame m ([.ref x, .long (Int64.ofInt up), .long (Int64.ofInt 0), .ref out] : List Value).toArray 7)
    rw [lg_entry_eq]
    refine lv_aload hx hb dlf_0 (lv_at hl 3 rfl) ?_
    refine lv_iconst (v := 0) hx hb dlf_2 rfl ?_
    refine lv_aload_n hx hb dlf_3 rfl (lv_at hl 0 rfl) ?_
    refine lv_lload_n hx hb dlf_4 rfl (lv_at hl 1 rfl) ?_
    refine lv_lload_n hx hb dlf_5 rfl (lv_at hl 2 rfl) ?_
    have hm := mfacts (a := 200) (by omega) (Or.inl (by omega))
    obtain ⟨hin, hsel⟩ := hm.2.2.2.1 rfl
    have hsel := hsel.resolve_left (by decide +kernel)
    have hcb : CallB (headSpec wsF (mRoom (d + 1) h (hnew h 7 6))).room s ([.ref x, .long (Int64.ofInt up), .long (Int64.ofInt 0), .ref out] : List Value).toArray (cn 13) 7 (my 200) (mb 200) (mmL 200) (mret 200) (wsm 200) frRm 1 6 2 := by
      have hlk := mlook_in (own := 13) (idx := 7) (a := 200) (by decide +kernel) (by omega)
      refine callB_of 2 hts (goodIn_wall (wsm_in hm)) rfl rfl rfl (hts _ hm.2.1) (hts _ hlk) hm.2.2.2.2.2.1 ⟨?_, ?_⟩
      · show 6 + 1 ≤ d + 1 + 4
        omega
      · show 8 + (5 + 11) + 100 ≤ 80 * (d + 1 + 4)
        omega
    have hrun := vx_runV (p := p) (l := l) (e := e) (below := below) (meth := meth) (H := s.heap) (locs := []) (cells := 0) (slots := 0) (As := [.long (Int64.ofInt up), .long (Int64.ofInt 0)]) (b := x) (C := (my 200).cls) (rest := [.int 0, .ref out]) (Ts := WALL) (own := cn 13) (g := F0 m 6 _ [.long (Int64.ofInt 0), .long (Int64.ofInt up), .ref x, .int 0, .ref out]) ⟨hx, hb, hml, hown, hts⟩ (fr_thr l hfl D base adK adV (h := h) (x := x) (up := up)) ⟨hcb, hts _ hin, hts _ hsel⟩ ⟨PcR_blind, arecv_of (a := 200) (q := 21) hRp (Or.inl (by omega)) (by omega) (by decide +kernel) hx21, fun U hU hW => ⟨rfl, by rw [hU]; exact Rep.moved hW.alike hRp, hKS.warm hW⟩⟩ rfl rfl hl.1 rfl (lv_room (Nat.le_of_ble_eq_true rfl)) dlf_6 ⟨by show 0 + 1 ≤ hz (hnew h 7 6) - hz h; rw [hz_new]; omega, by show 0 + 6 ≤ hs (hnew h 7 6) - hs h; rw [hs_new]; omega⟩
    refine vx_calli hrun (A0 := aA base) (H0 := s.heap) va_S.rf (fun q _ h => h) (fun q h => h) (fun q _ h => h) (fun E ce q9 u t H1 locs1 ht hal _ hB hsz hkp hS1 hcell hcv hcl => ?_) (fun r u t H1 locs1 _ _ hp => hp.elim)
    obtain ⟨rfl, hrep⟩ := hB
    rw [ht] at hrep
    refine vx_catch (own := RL) (name := aEx) hown [] { startPc := 0, endPc := 11, handlerPc := 14, catchType := 13 } [] (by rw [htab]; rfl) (fun z hz => nomatch hz) (by decide) (by decide) (hts _ ex_l) (va_Nw.use rfl hKS.2.2.2.1) hcell hcv hcl ?_
    refine lv_astore hx hb dlf_14 hl (by omega) rfl (fun ls' hl' => ?_)
    refine lv_iconst (v := 1) hx hb dlf_16 rfl ?_
    have e1 : hz (hnew h 7 6) - hz h = 0 + 1 := by rw [hz_new]; omega
    have e2 : hs (hnew h 7 6) - hs h = 0 + 6 := by rw [hs_new]; omega
    rw [e1, e2]
    refine W.zret hx hb B.returns rfl (fun t ht hW => ⟨⟨rfl, fun v hv => ?_⟩, by rw [ht]; exact Rep.moved hW.alike (Rep.moved hal.symm hrep), hS1.F ht⟩) hS1.2.2 dlf_17 B.notSynchronized
    cases hv
    show r32 1
    unfold r32
    omega
  · have hm0 := run_mono hmono n _ _ _ _ u
    refine met_WH (cc := cL_fraction) (maxL := 7) (ret := some .int) (hh := [(0, 11, 14, 13)]) (by decide +kernel) rfl ?_
    intro p e s mm args below meth c s1 B hml hv
    obtain ⟨rfl, hRp, hKS⟩ := hv
    have hts := atoms_spec (ws := wsF) B.pre
    have C : Ctx p (headSpec wsF (mRoom (d + 1) h h1)).room s mm (as.map cval).toArray meth c base 7 (hz h) (hs h) (hz h1) (hs h1) s.heap 13 yL_fraction (some .int) cL_fraction d :=
      ⟨B.exec, B.bytes, hml, findClass_of_methodNamed B.named, fun w hw => hts w (List.mem_cons_of_mem _ hw), B.returns, B.notSynchronized, fun _ => (name_of_methodNamed B.named B.method).1, ⟨Nat.le_refl _, Nat.le_refl _⟩, ⟨by show d + 5 ≤ d + 1 + 4; omega, by show 80 * (d + 5) ≤ 80 * (d + 1 + 4); omega⟩, by rw [hRp.2.1]; exact hRp.2.2.2.2.2, by omega⟩
    have hs0 := run_sound (cd := cd_L_fraction) (e := e) (below := below) (r := r) (h' := h1) C hcal hmono hKS (fin_met B.exec B.bytes B.returns B.notSynchronized) (by
      intro x hx
      have hk := List.all_eq_true.mp mc_frac x hx
      rw [Bool.and_eq_true] at hk
      exact ⟨hk.1, fun _ => by have := hk.2; simpa using this⟩) n 0 (largs 0 as) [] h u
    have hlen : (lg_sl (as.map cval)).length ≤ 7 := by rw [lgsl_len]; omega
    have hl := lv_entry (as.map cval) hlen
    rw [← largs_map] at hl
    rw [lg_entry_eq]
    have g := hs0.2.2 ⟨Nat.le_refl _, Nat.le_refl _⟩ _ s.heap [] hl (largs_ok hvo 0) (fun v hv => by cases hv) hRp va_S.rf
    rw [Nat.sub_self, Nat.sub_self] at g
    exact g
