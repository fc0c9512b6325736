/-! calls and returns of the small machine, followed by the machine's own -/
theorem mlook_dom {own idx a : Nat} (h : mlook own idx = some a) (h3 : a ≠ 389) : a ≤ 388 ∨ a = 900 ∨ a = 901 := by
  unfold mlook at h
  cases e : mlks.find? (fun e => e.1 == own && e.2.1 == idx) with
  | none => rw [e] at h; cases h
  | some x =>
    rw [e] at h
    have h1 := List.mem_of_find?_eq_some e
    have h4 := List.all_eq_true.mp ml_all x h1
    obtain ⟨x1, x2, x3, x4⟩ := x
    simp only [Option.map_some, Option.some.injEq] at h
    subst h
    simp only [Bool.or_eq_true, beq_iff_eq, Bool.and_eq_true, decide_eq_true_eq] at h4
    rcases h4 with u | u
    · exact absurd u h3
    · omega
theorem mth_mem {m : Nat} (h1 : 1 ≤ m) (h2 : m ≤ 388) : mth m ∈ amT := by
  unfold mth
  have hl : amT.length = 388 := by decide +kernel
  rw [List.getD_eq_getElem?_getD, List.getElem?_eq_getElem (by omega)]
  exact List.getElem_mem _
theorem amT_code {q : aM} (h : q ∈ amT) : Cond.code q.2.1 q.2.2.1 q.2.2.2.1 q.2.2.2.2.1 ∈ lw_tbl := by
  unfold amT at h
  simp only [List.mem_append] at h
  rcases h with h | h | h | h | h | h | h | h
  · exact cwT0 q h
  · exact cwT1 q h
  · exact cwT2 q h
  · exact cwT3 q h
  · exact cwT4 q h
  · exact cwT5 q h
  · exact cwT6 q h
  · exact cwT7 q h
/-- what is known of a method's words -/
def mFacts (a : Nat) : Prop :=
  Cond.code (my a) (mb a) (mmL a) (mret a) ∈ WALL ∧ Cond.initialized (my a).cls ∈ WALL ∧ (mstat a = true → Cond.static (my a) ∈ WALL) ∧ (mstat a = false → Cond.instanceMethod (my a) ∈ WALL ∧ ((my a).name = "<init>" ∨ Cond.selects (my a).cls (my a) (my a) ∈ WALL)) ∧
    plainFor (my a) = true ∧ ((my a).cls ≠ "java/lang/invoke/MethodHandle" ∧ (my a).cls ≠ "java/lang/invoke/VarHandle" ∧ (parseMethodDescriptor (my a).desc).map (fun d => d.parameters.length) = some (arity a)) ∧ nslots a + (bif mstat a then 0 else 1) ≤ mmL a ∧ mmL a ≤ 60
theorem mf_of {j a : Nat} (h : mwchk j a = true) (hcode : Cond.code (my a) (mb a) (mmL a) (mret a) ∈ lw_tbl) : mFacts a := by
  unfold mwchk at h
  simp only [Bool.and_eq_true, decide_eq_true_eq] at h
  obtain ⟨⟨⟨⟨⟨⟨h1, h2⟩, h3⟩, h4⟩, h5⟩, h6⟩, h7⟩ := h
  refine ⟨wall_in hcode rfl, wall_in (wAt_in h1) rfl, fun hs => ?_, fun hs => ?_, h3, ⟨h4.1, h4.2, h5⟩, h6, h7⟩
  · rw [hs] at h2
    exact wall_in (wAt_in h2) rfl
  · rw [hs] at h2
    simp only [cond_false, Bool.and_eq_true, Bool.or_eq_true, decide_eq_true_eq] at h2
    exact ⟨wall_in (wAt_in h2.1) rfl, h2.2.elim Or.inl (fun u => Or.inr (wall_in (wAt_in u) rfl))⟩
theorem mfacts {a : Nat} (h1 : 1 ≤ a) (h2 : a ≤ 388 ∨ a = 900 ∨ a = 901) : mFacts a := by
  rcases h2 with h2 | rfl | rfl
  · have hc : Cond.code (my a) (mb a) (mmL a) (mret a) ∈ lw_tbl := by
      have e1 : my a = (mth a).2.1 := by unfold my; rw [if_neg (by omega), if_neg (by omega)]
      have e2 : mb a = (mth a).2.2.1 := by unfold mb; rw [if_neg (by omega), if_neg (by omega)]
      have e3 : mmL a = (mth a).2.2.2.1 := by unfold mmL; rw [if_neg (by omega), if_neg (by omega)]
      have e4 : mret a = (mth a).2.2.2.2.1 := by unfold mret; rw [if_neg (by omega), if_neg (by omega)]
      rw [e1, e2, e3, e4]
      exact amT_code (mth_mem h1 h2)
    have key : ∃ j, mwchk j a = true := by
      rcases Nat.lt_or_ge a 51 with q | q
      · have := mw_0 (a - 1) (by omega); rw [show 1 + (a - 1) = a by omega] at this; exact ⟨_, this⟩
      rcases Nat.lt_or_ge a 101 with q | q
      · have := mw_1 (a - 51) (by omega); rw [show 51 + (a - 51) = a by omega] at this; exact ⟨_, this⟩
      rcases Nat.lt_or_ge a 151 with q | q
      · have := mw_2 (a - 101) (by omega); rw [show 101 + (a - 101) = a by omega] at this; exact ⟨_, this⟩
      rcases Nat.lt_or_ge a 201 with q | q
      · have := mw_3 (a - 151) (by omega); rw [show 151 + (a - 151) = a by omega] at this; exact ⟨_, this⟩
      rcases Nat.lt_or_ge a 251 with q | q
      · have := mw_4 (a - 201) (by omega); rw [show 201 + (a - 201) = a by omega] at this; exact ⟨_, this⟩
      rcases Nat.lt_or_ge a 301 with q | q
      · have := mw_5 (a - 251) (by omega); rw [show 251 + (a - 251) = a by omega] at this; exact ⟨_, this⟩
      rcases Nat.lt_or_ge a 351 with q | q
      · have := mw_6 (a - 301) (by omega); rw [show 301 + (a - 301) = a by omega] at this; exact ⟨_, this⟩
      · have := mw_7 (a - 351) (by omega); rw [show 351 + (a - 351) = a by omega] at this; exact ⟨_, this⟩
    obtain ⟨j, hj⟩ := key
    exact mf_of hj hc
  · exact mf_of mw_900 cw_J0_length_8abf5
  · exact mf_of mw_901 cw_J0_charAt_5068e
theorem goodIn_wall {ws : List Cond} (h : ∀ w ∈ ws, w ∈ WALL) : GoodIn WALL ws := fun w hw => ⟨h w hw, good_of_word (List.mem_filter.mp (h w hw)).2⟩
theorem wsm_in {a : Nat} (h : mFacts a) : ∀ w ∈ wsm a, w ∈ WALL := by
  intro w hw
  rcases List.mem_cons.mp hw with rfl | hw
  · exact h.1
  · exact hw
def PcR (D : va_G) (base : Nat) (adK adV : Nat → Nat) (as : List aV) (h : aH) : Array Value → State → Prop := fun av U => av = (as.map cval).toArray ∧ Rep D base adK adV U h U.heap ∧ KS adK U
def QcR (D : va_G) (base : Nat) (adK adV : Nat → Nat) (r : Option aV) (h : aH) : Array Value → State → Outcome → State → Prop := fun _ st oc t => (oc = .returned (r.map cval) ∧ ∀ v, r = some v → vok v) ∧ Rep D base adK adV t h t.heap ∧ va_F (aA base) st t
theorem PcR_blind {D : va_G} {base : Nat} {adK adV : Nat → Nat} {as : List aV} {h : aH} : FrameBlind (PcR D base adK adV as h) := fun _ U _ _ q => ⟨q.1, Rep.moved (u := U) (Vm.Alike.refl U.vm) q.2.1, KS.same (u := U) rfl q.2.2⟩
def mRoom (d : Nat) (h h1 : aH) : Room := { frames := d + 4, cells := hz h1 - hz h, slots := hs h1 - hs h, locals := 80 * (d + 4) }
/-- a call relation that the machine follows, with d frames -/
def CalOk (l : Launch) (D : va_G) (base : Nat) (adK adV : Nat → Nat) (cal : aCal) (d : Nat) : Prop :=
  ∀ (m : Nat) (as : List aV) (h : aH) (r : Option aV) (h1 : aH), cal m as h r h1 → m ≠ 389 → (∀ v ∈ as, vok v) → ((acats as : Int) ≤ mmL m) → hz h ≤ hz h1 ∧ hs h ≤ hs h1 ∧
    Met l (my m) (wsm m) (mRoom d h h1) (PcR D base adK adV as h) (QcR D base adK adV r h1) (hz h1 - hz h) (hs h1 - hs h) (aA base)
theorem acats_map (st : List aV) : ((st.map cval).map fun v => v.category).sum = acats st := by
  unfold acats
  rw [List.map_map]
  congr 1
  apply List.map_congr_left
  intro v _
  exact cat_c v
section SIM4
variable {p : Program} {l : Launch} {e : Env} {R : Room} {s : State} {m : MethodId} {args : Array Value} {below : List Frame} {meth : Method} {c : Code} {Q : State → Prop} {D : va_G} {base : Nat} {adK adV : Nat → Nat} {nL z0 s0 zE sE : Nat} {H0 : Heap} {own : Nat} {y : MethodName} {ret : Option FieldType} {cc : ByteArray} {d : Nat} {K : Nat → aLs → List aV → aH → Prop} {pc nx a k q : Nat} {z : Int} {ls : aLs} {st : List aV} {h : aH}
/-- behind a call -/
theorem sim_back {cal : aCal} {lsC : Array Slot} {H : Heap} {locs : List Loc} {rest : List aV} {as : List aV} {r : Option aV} {h1 : aH} {av : Array Value} (C : Ctx p R s m args meth c base nL z0 s0 zE sE H0 own y ret cc d) (hb4 : z0 ≤ hz h ∧ s0 ≤ hs h) (hz1 : hz h ≤ hz h1) (hs1 : hs h ≤ hs h1)
    (hrun : va_Run p l e R s m args below meth c H locs (hz h - z0) (hs h - s0) (hz h1 - hz h) (hs h1 - hs h) (F0 m pc lsC (st.map cval)) (rest.map cval) (QcR D base adK adV r h1 av) (aA base))
    (hS : va_S (aA base) H0 H locs) (hso : ∀ v ∈ rest, vok v) (hl : lv_has lsC nL (ls.map fun q => (q.1, cval q.2))) (hlo : ∀ q ∈ ls, vok q.2)
    (g3 : Sim p l e R s m args below meth c Q D base adK adV nL z0 s0 zE sE H0 (pc + 3) ls (r.toList ++ rest) h1) : W p l e R s m args below meth c H locs (hz h - z0) (hs h - s0) Q (F0 m pc lsC (st.map cval)) := by
  intro T hT X
  obtain ⟨v, st₀, t, T', L, h0, X', hL, e1, e2, ⟨⟨hv, hrok⟩, hrep, hz3, hk3⟩, stp⟩ := hrun T hT X
  rw [h0] at hz3 hk3
  have ev : v = r.map cval := by cases hv; rfl
  have hw : s.vm.Alike t.vm := by rw [← e2]; exact X'.warmed.alike
  have hrep2 : Rep D base adK adV s h1 T'.heap := by rw [e1]; exact Rep.moved hw.symm hrep
  have hS2 : va_S (aA base) H0 T'.heap (locs ++ L) := by
    refine ⟨Nat.le_trans hS.1 (by rw [e1]; exact hz3), fun q h1 h2 => ?_, fun q hq => ?_⟩
    · rw [e1, hk3 q (Nat.lt_of_lt_of_le h1 hS.1) h2]; exact hS.2.1 q h1 h2
    · rcases List.mem_append.mp hq with u | u
      · exact hS.2.2 q u
      · exact hL q u
  have g := g3 ⟨by omega, by omega⟩ lsC T'.heap (locs ++ L) hl hlo (fun w hw => by
    rcases List.mem_append.mp hw with u | u
    · cases r with
      | none => cases u
      | some r => exact hrok w (by simp at u; rw [u])
    · exact hso w u) hrep2 hS2
  rw [show hz h1 - z0 = hz h - z0 + (hz h1 - hz h) by omega, show hs h1 - s0 = hs h - s0 + (hs h1 - hs h) by omega] at g
  obtain ⟨t2, a1, b1⟩ := g T' rfl X'
  refine ⟨t2, stp t2 ?_, b1⟩
  have e3 : ({ F0 m pc lsC (st.map cval) with pc := (F0 m pc lsC (st.map cval)).pc + 3, stack := v.toList ++ rest.map cval } : JFrame) = F0 m (pc + 3) lsC ((r.toList ++ rest).map cval) := by
    rw [ev]
    cases r <;> rfl
  rw [e3]
  exact a1
end SIM4
theorem oi_1 : Cond.instanceMethod Lib.objectInit ∈ lw_tbl := wAt_in (q := (0, 30)) (by decide +kernel)
theorem oi_2 : Cond.code Lib.objectInit ⟨#[0xb1]⟩ 1 none ∈ lw_tbl := wl_in 0 _ (List.mem_of_getElem? (i := 31) rfl)
section SIM5
variable {p : Program} {l : Launch} {e : Env} {R : Room} {s : State} {m : MethodId} {args : Array Value} {below : List Frame} {meth : Method} {c : Code} {Q : State → Prop} {D : va_G} {base : Nat} {adK adV : Nat → Nat} {nL z0 s0 zE sE : Nat} {H0 : Heap} {own : Nat} {y : MethodName} {ret : Option FieldType} {cc : ByteArray} {d : Nat} {K : Nat → aLs → List aV → aH → Prop} {pc nx a k q : Nat} {z : Int} {ls : aLs} {st : List aV} {h : aH} {cal : aCal} {idx : Nat}
theorem cb_of {h1 : aH} (C : Ctx p R s m args meth c base nL z0 s0 zE sE H0 own y ret cc d) (hm : mFacts a) (hl : mlook own idx = some a) (h0 : a ≠ 0) (h9 : a ≠ 389) : CallB R s args (cn own) idx (my a) (mb a) (mmL a) (mret a) (wsm a) (mRoom d h h1) (hz h1 - hz h) (hs h1 - hs h) (arity a) := by
  have hlk := mlook_in hl h9
  have e0 : (bif a == 0 then Lib.objectInit else my a) = my a := by
    have : (a == 0) = false := by simpa using h0
    rw [this]; rfl
  rw [e0] at hlk
  have hfr := C.2.2.2.2.2.2.2.2.2.1
  refine callB_of (arity a) C.2.2.2.2.1 (goodIn_wall (wsm_in hm)) rfl rfl rfl (C.2.2.2.2.1 _ hm.2.1) (C.2.2.2.2.1 _ hlk) hm.2.2.2.2.2.1 ⟨?_, ?_⟩
  · show d + 4 + 1 ≤ R.frames
    exact hfr.1
  · show 8 + (mmL a + 11) + 80 * (d + 4) ≤ R.locals
    have := hm.2.2.2.2.2.2.2
    omega
theorem sim_invokestatic (C : Ctx p R s m args meth c base nL z0 s0 zE sE H0 own y ret cc d) (hK : ∀ pc ls st h, K pc ls st h → hz h ≤ zE ∧ hs h ≤ sE ∧ Sim p l e R s m args below meth c Q D base adK adV nL z0 s0 zE sE H0 pc ls st h) (hcal : CalOk l D base adK adV cal d) (hKS : KS adK s) (h9 : a ≠ 389) (hc : echk own y ret nL cc (pc, .invokestatic idx, nx, a, k, q, z) = true) (hst : acall cal K nx a k 0 z ls st h) : Sim p l e R s m args below meth c Q D base adK adV nL z0 s0 zE sE H0 pc ls st h := by
  simp only [echk, Bool.and_eq_true, Bool.or_eq_true, decide_eq_true_eq, and_true, Bool.not_eq_true'] at hc
  try simp only [ilen] at hc
  obtain ⟨⟨hd, hlt⟩, rfl, ⟨⟨⟨hml, hka⟩, hstt⟩, ha0⟩, hzn⟩ := hc
  rw [Nat.add_sub_cancel_left] at hd
  obtain ⟨as, s1, r, h1, rfl, hlen, hcat, hcs, -, hr, hk⟩ := hst
  have hm := mfacts (a := a) (by omega) (mlook_dom hml h9)
  have hnl := hm.2.2.2.2.2.2.1
  rw [hstt] at hnl
  obtain ⟨g1, g2, g3⟩ := hK _ _ _ _ hk
  intro hb4 lsC H locs hl hlo hso hRp hS
  obtain ⟨u1, u2, hM⟩ := hcal a as h r h1 hr h9 (fun v hv => hso v (List.mem_append_left _ (List.mem_reverse.mpr hv))) (by simp only [cond_true] at hnl; omega)
  have hrm := C.2.2.2.2.2.2.2.2.1
  refine sim_back (cal := cal) (as := as) (rest := s1) (av := (as.map cval).toArray) C hb4 u1 u2 ?_ hS (fun v hv => hso v (List.mem_append_right _ hv)) hl hlo g3
  refine va_runS (As := as.map cval) (Ts := WALL) (own := cn own) ⟨C.1, C.2.1, C.2.2.1, C.2.2.2.1, C.2.2.2.2.1⟩ hM ⟨cb_of C hm hml ha0 h9, C.2.2.2.2.1 _ (hm.2.2.1 hstt)⟩ ⟨PcR_blind, fun U hU hW => ⟨rfl, by rw [hU]; exact Rep.moved hW.alike hRp, hKS.warm hW⟩⟩ rfl (by rw [List.length_map, hlen, hka]) hl.1 ?_ (lv_room (by rw [acats_map]; exact hcs)) hd ⟨by omega, by omega⟩
  show (as.reverse ++ s1).map cval = (as.map cval).reverse ++ s1.map cval
  rw [List.map_append, List.map_reverse]
theorem arecv_of {o : Nat} {H : Heap} (hRp : Rep D base adK adV s h H) (h2 : a ≤ 388 ∨ a = 900 ∨ a = 901) (h0 : a ≠ 0) (hq : (bif a == 900 || a == 901 then decide (q = 8) else decide (q = 10 + (mth a).1) && decide ((mth a).1 < 13)) = true) (ho : (hT h o).1 = q) :
    ∃ cellB : Cell, H[o]? = some cellB ∧ cellB.vm.isStatics = false ∧ s.vm.findClass (my a).cls = some cellB.cls := by
  rcases h2 with h2 | h2
  · have e1 : (a == 900 || a == 901) = false := by simp; omega
    rw [e1] at hq
    simp only [cond_false, Bool.and_eq_true, decide_eq_true_eq] at hq
    obtain ⟨hq1, hq2⟩ := hq
    obtain ⟨-, -, ⟨cell, q1, q2, q3, -⟩, -⟩ := (hRp.1 o).2.2.2 (by omega)
    have e2 : (hT h o).1 - 10 = (mth a).1 := by omega
    rw [e2] at q2
    have hfc := (hRp.2.2.2.2.1.1 _ _ (vwcl_at hq2)).2.1
    have hmc := mc_all (m := a) (by omega) h2
    unfold mchk at hmc
    simp only [Bool.and_eq_true, decide_eq_true_eq] at hmc
    have e3 : my a = (mth a).2.1 := by unfold my; rw [if_neg (by omega), if_neg (by omega)]
    refine ⟨cell, q1, by rw [q3]; rfl, ?_⟩
    rw [e3, hmc.1.1, q2]
    exact hfc
  · have e1 : (a == 900 || a == 901) = true := by rcases h2 with rfl | rfl <;> rfl
    rw [e1] at hq
    simp only [cond_true, decide_eq_true_eq] at hq
    obtain ⟨-, i, hi, rfl, -⟩ := (hRp.1 o).2.2.1 (by omega)
    obtain ⟨hO, -⟩ := hRp.2.2.2.1.1.1 i hi
    have e2 : (my a).cls = "java/lang/String" := by rcases h2 with rfl | rfl <;> rfl
    rw [e2]
    obtain ⟨cell, x1, x2, x3, -⟩ := hO
    exact ⟨cell, x1, x2, x3⟩
theorem sim_invokevirtual (C : Ctx p R s m args meth c base nL z0 s0 zE sE H0 own y ret cc d) (hK : ∀ pc ls st h, K pc ls st h → hz h ≤ zE ∧ hs h ≤ sE ∧ Sim p l e R s m args below meth c Q D base adK adV nL z0 s0 zE sE H0 pc ls st h) (hcal : CalOk l D base adK adV cal d) (hKS : KS adK s) (h9 : a ≠ 389) (hc : echk own y ret nL cc (pc, .invokevirtual idx, nx, a, k, q, z) = true) (hst : acall cal K nx a k q z ls st h) : Sim p l e R s m args below meth c Q D base adK adV nL z0 s0 zE sE H0 pc ls st h := by
  simp only [echk, Bool.and_eq_true, decide_eq_true_eq, and_true, Bool.not_eq_true'] at hc
  try simp only [ilen] at hc
  obtain ⟨⟨hd, hlt⟩, rfl, ⟨⟨⟨⟨⟨hml, hka⟩, hstt⟩, hnm⟩, ha0⟩, hzn⟩, hq⟩ := hc
  rw [Nat.add_sub_cancel_left] at hd
  obtain ⟨as, s1, r, h1, rfl, hlen, hcat, hcs, hrk, hr, hk⟩ := hst
  have hdom := mlook_dom hml h9
  have hm := mfacts (a := a) (by omega) hdom
  have hnl := hm.2.2.2.2.2.2.1
  rw [hstt] at hnl
  obtain ⟨hin, hsel⟩ := hm.2.2.2.1 hstt
  have hsel := hsel.resolve_left hnm
  have hq0 : q ≠ 0 := by
    intro u
    rcases hdom with w | w
    · have e1 : (a == 900 || a == 901) = false := by simp; omega
      rw [e1] at hq
      simp only [cond_false, Bool.and_eq_true, decide_eq_true_eq] at hq
      omega
    · have e1 : (a == 900 || a == 901) = true := by rcases w with rfl | rfl <;> rfl
      rw [e1] at hq
      simp only [cond_true, decide_eq_true_eq] at hq
      omega
  obtain ⟨o, t, rfl, ho⟩ := hrk hq0
  obtain ⟨g1, g2, g3⟩ := hK _ _ _ _ hk
  intro hb4 lsC H locs hl hlo hso hRp hS
  obtain ⟨u1, u2, hM⟩ := hcal a _ h r h1 hr h9 (fun v hv => hso v (List.mem_append_left _ (List.mem_reverse.mpr hv))) (by simp only [cond_false] at hnl; omega)
  have hrm := C.2.2.2.2.2.2.2.2.1
  refine sim_back (cal := cal) (as := aO (some o) :: t) (rest := s1) (av := ((aO (some o) :: t).map cval).toArray) C hb4 u1 u2 ?_ hS (fun v hv => hso v (List.mem_append_right _ hv)) hl hlo g3
  refine va_runV (As := t.map cval) (b := o) (C := (my a).cls) (Ts := WALL) (own := cn own) ⟨C.1, C.2.1, C.2.2.1, C.2.2.2.1, C.2.2.2.2.1⟩ hM ⟨cb_of C hm hml ha0 h9, C.2.2.2.2.1 _ hin, C.2.2.2.2.1 _ hsel⟩ ⟨PcR_blind, arecv_of hRp hdom ha0 hq ho, fun U hU hW => ⟨rfl, by rw [hU]; exact Rep.moved hW.alike hRp, hKS.warm hW⟩⟩ rfl (by rw [List.length_map]; simp only [List.length_cons] at hlen; omega) hl.1 ?_ (lv_room (by rw [acats_map]; exact hcs)) hd ⟨by omega, by omega⟩
  show ((aO (some o) :: t).reverse ++ s1).map cval = (t.map cval).reverse ++ .ref o :: s1.map cval
  rw [List.reverse_cons, List.map_append, List.map_append, List.map_reverse, List.append_assoc]
  rfl
theorem sim_invokespecial (C : Ctx p R s m args meth c base nL z0 s0 zE sE H0 own y ret cc d) (hK : ∀ pc ls st h, K pc ls st h → hz h ≤ zE ∧ hs h ≤ sE ∧ Sim p l e R s m args below meth c Q D base adK adV nL z0 s0 zE sE H0 pc ls st h) (hcal : CalOk l D base adK adV cal d) (hKS : KS adK s) (h9 : a ≠ 389) (hc : echk own y ret nL cc (pc, .invokespecial idx, nx, a, k, q, z) = true) (hst : (a = 0 ∧ ∃ o s, st = aO (some o) :: s ∧ acats s ≤ 8 ∧ K nx ls s h) ∨ (a ≠ 0 ∧ acall cal K nx a k q z ls st h)) : Sim p l e R s m args below meth c Q D base adK adV nL z0 s0 zE sE H0 pc ls st h := by
  simp only [echk, Bool.and_eq_true, Bool.or_eq_true, decide_eq_true_eq, and_true, Bool.not_eq_true'] at hc
  try simp only [ilen] at hc
  obtain ⟨⟨hd, hlt⟩, rfl, hcc⟩ := hc
  rw [Nat.add_sub_cancel_left] at hd
  rcases hst with ⟨ha0, o, s1, rfl, hcs, hk⟩ | ⟨ha0, hst⟩
  · obtain ⟨g1, g2, g3⟩ := hK _ _ _ _ hk
    intro hb4 lsC H locs hl hlo hso hRp hS
    have hml : mlook own idx = some 0 := by
      rcases hcc with u | u
      · exact u.2
      · exact absurd ha0 u.1.1.1.1.1.1.1.1
    have hlk := mlook_in hml (by omega)
    have hfr := C.2.2.2.2.2.2.2.2.2.1
    refine W.objInit C.1 C.2.1 C.2.2.2.1 (C.2.2.2.2.1 _ hlk) (C.2.2.2.2.1 _ (wall_in oi_1 rfl)) (C.2.2.2.2.1 _ (wall_in oi_2 rfl)) rfl (hl.1.trans C.2.2.1.symm) rfl hd (by omega) ?_ ?_
    · have e1 : (F0 m pc lsC ((aO (some o) :: s1).map cval)).monitorRoom = 0 := rfl
      rw [e1, acats_map]
      omega
    · exact g3 hb4 lsC H locs hl hlo (fun v hv => hso v (List.mem_cons_of_mem _ hv)) hRp hS
  · obtain ⟨⟨⟨⟨⟨⟨⟨⟨-, hml⟩, hka⟩, hstt⟩, hnm⟩, hret⟩, hzn⟩, hq⟩, hq2⟩ := hcc.resolve_left (fun u => ha0 u.1)
    obtain ⟨as, s1, r, h1, rfl, hlen, hcat, hcs, hrk, hr, hk⟩ := hst
    have hdom := mlook_dom hml h9
    have hm := mfacts (a := a) (by omega) hdom
    have hnl := hm.2.2.2.2.2.2.1
    rw [hstt] at hnl
    obtain ⟨hin, -⟩ := hm.2.2.2.1 hstt
    obtain ⟨o, t, rfl, ho⟩ := hrk (by omega)
    obtain ⟨g1, g2, g3⟩ := hK _ _ _ _ hk
    intro hb4 lsC H locs hl hlo hso hRp hS
    obtain ⟨u1, u2, hM⟩ := hcal a _ h r h1 hr h9 (fun v hv => hso v (List.mem_append_left _ (List.mem_reverse.mpr hv))) (by simp only [cond_false] at hnl; omega)
    have hrm := C.2.2.2.2.2.2.2.2.1
    refine sim_back (cal := cal) (as := aO (some o) :: t) (rest := s1) (av := ((aO (some o) :: t).map cval).toArray) C hb4 u1 u2 ?_ hS (fun v hv => hso v (List.mem_append_right _ hv)) hl hlo g3
    have hcb := cb_of (h := h) (h1 := h1) C hm hml ha0 h9
    rw [hret] at hcb
    refine va_runI (As := t.map cval) (b := o) (Ts := WALL) (own := cn own) ⟨C.1, C.2.1, C.2.2.1, C.2.2.2.1, C.2.2.2.2.1⟩ hM ⟨hcb, hnm, C.2.2.2.2.1 _ hin⟩ ⟨PcR_blind, fun U hU hW => ⟨rfl, by rw [hU]; exact Rep.moved hW.alike hRp, hKS.warm hW⟩⟩ rfl (by rw [List.length_map]; simp only [List.length_cons] at hlen; omega) hl.1 ?_ (lv_room (by rw [acats_map]; exact hcs)) hd ⟨by omega, by omega⟩
    show ((aO (some o) :: t).reverse ++ s1).map cval = (t.map cval).reverse ++ .ref o :: s1.map cval
    rw [List.reverse_cons, List.map_append, List.map_append, List.map_reverse, List.append_assoc]
    rfl
/-- an end of a method -/
def retOk (ins : Instr) (r : Option aV) (ret : Option FieldType) : Prop :=
  (ins = .ireturn ∧ ∃ x ty, r = some (aI x) ∧ ret = some ty ∧ narrow ty (.int (Int32.ofInt x)) = .int (Int32.ofInt x)) ∨ (ins = .lreturn ∧ ∃ x, r = some (aJ x) ∧ ret = some .long) ∨ (ins = .dreturn ∧ ∃ x, r = some (aD x) ∧ ret = some .double) ∨
    (ins = .areturn ∧ ∃ x ty, r = some (aO x) ∧ ret = some ty ∧ ((∃ n, ty = .object n) ∨ ∃ t, ty = .array t)) ∨ (ins = .return_ ∧ r = none ∧ ret = none)
/-- what a method's end must give: for any of its ends -/
def FinOk (p : Program) (l : Launch) (e : Env) (R : Room) (s : State) (m : MethodId) (args : Array Value) (below : List Frame) (meth : Method) (c : Code) (Q : State → Prop) (D : va_G) (base : Nat) (adK adV : Nat → Nat) (z0 s0 : Nat) (H0 : Heap) (ret : Option FieldType) (cc : ByteArray) (fin : Option aV → aH → Prop) : Prop :=
  ∀ (ins : Instr) (pc : Nat) (lsC : Array Slot) (H : Heap) (locs : List Loc) (r : Option aV) (h : aH), fin r h → z0 ≤ hz h → s0 ≤ hs h → decode cc pc = .ok (ins, 1) → retOk ins r ret → (∀ v, r = some v → vok v) → Rep D base adK adV s h H → va_S (aA base) H0 H locs →
    W p l e R s m args below meth c H locs (hz h - z0) (hs h - s0) Q (F0 m pc lsC (r.toList.map cval))
end SIM5
