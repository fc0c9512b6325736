/-! the law itself over the small machine: its call of fraction, its end, its start -/
theorem lf_m : Cond.methodLink RL 21 yL_fraction ∈ WALL := wall_in (wAt_in (q := (5, 175)) (by decide +kernel)) rfl
theorem lf_s : Cond.static yL_fraction ∈ WALL := wall_in (wAt_in (q := (5, 176)) (by decide +kernel)) rfl
theorem lf_c : Cond.codeWith yL_fraction cL_fraction 7 (some .int) [(0, 11, 14, 13)] ∈ WALL := wall_in (wAt_in (q := (5, 177)) (by decide +kernel)) rfl
theorem lf_i : Cond.initialized RL ∈ WALL := wall_in (wAt_in (q := (0, 0)) (by decide +kernel)) rfl
theorem wsF_in : ∀ w ∈ va_wsS RL 21 yL_fraction wsF, w ∈ WALL := by
  intro w hw
  unfold va_wsS wsF at hw
  simp only [List.cons_append, List.nil_append, List.mem_cons, List.mem_append, List.not_mem_nil, or_false] at hw
  rcases hw with rfl | rfl | rfl | rfl | hw <;> first | exact lf_m | exact lf_s | exact lf_c | exact lf_i | exact hw
section LAWSIM
variable {p : Program} {l : Launch} {e : Env} {R : Room} {s : State} {m : MethodId} {args : Array Value} {below : List Frame} {meth : Method} {c : Code} {Q : State → Prop} {D : va_G} {base : Nat} {adK adV : Nat → Nat} {nL z0 s0 zE sE : Nat} {H0 : Heap} {y : MethodName} {ret : Option FieldType} {cc : ByteArray} {d : Nat} {K : Nat → aLs → List aV → aH → Prop} {pc nx a k q : Nat} {z : Int} {ls : aLs} {st : List aV} {h : aH} {cal : aCal}
def Fr9 (l : Launch) (D : va_G) (base : Nat) (adK adV : Nat → Nat) (cal : aCal) (d : Nat) : Prop := ∀ (as : List aV) (h : aH) (r : Option aV) (h1 : aH), cal 389 as h r h1 → (∀ v ∈ as, vok v) → acats as ≤ 7 → Met l yL_fraction wsF (mRoom d h h1) (PcR D base adK adV as h) (QcR D base adK adV r h1) (hz h1 - hz h) (hs h1 - hs h) (aA base)
theorem sim_389 (C : Ctx p R s m args meth c base nL z0 s0 zE sE H0 13 y ret code d) (hK : ∀ pc ls st h, K pc ls st h → hz h ≤ zE ∧ hs h ≤ sE ∧ Sim p l e R s m args below meth c Q D base adK adV nL z0 s0 zE sE H0 pc ls st h) (h9 : Fr9 l D base adK adV cal d) (hmono : ∀ m as h r h1, cal m as h r h1 → hz h ≤ hz h1 ∧ hs h ≤ hs h1) (hKS : KS adK s) (hd : decode code pc = .ok (.invokestatic 21, 3)) (hz6 : z ≤ 7) (hst : acall cal K (pc + 3) 389 4 0 z ls st h) : Sim p l e R s m args below meth c Q D base adK adV nL z0 s0 zE sE H0 pc ls st h := by
  obtain ⟨as, s1, r, h1, rfl, hlen, hcat, hcs, -, hr, hk⟩ := hst
  obtain ⟨g1, g2, g3⟩ := hK _ _ _ _ hk
  intro hb4 lsC H locs hl hlo hso hRp hS
  obtain ⟨u1, u2⟩ := hmono _ _ _ _ _ hr
  have hM := h9 as h r h1 hr (fun v hv => hso v (List.mem_append_left _ (List.mem_reverse.mpr hv))) (by omega)
  have hrm := C.2.2.2.2.2.2.2.2.1
  have hfr := C.2.2.2.2.2.2.2.2.2.1
  refine sim_back (cal := cal) (as := as) (rest := s1) (av := (as.map cval).toArray) C hb4 u1 u2 ?_ hS (fun v hv => hso v (List.mem_append_right _ hv)) hl hlo g3
  have cw : vx_CSW R s args RL 21 yL_fraction cL_fraction 7 (some .int) [(0, 11, 14, 13)] wsF (mRoom d h h1) (hz h1 - hz h) (hs h1 - hs h) 4 := by
    refine vx_cwSW 4 C.2.2.2.2.1 (goodIn_wall wsF_in) rfl rfl rfl ⟨by decide +kernel, by decide +kernel, by decide +kernel⟩ ⟨?_, ?_⟩
    · show d + 4 + 1 ≤ R.frames
      exact hfr.1
    · show 8 + (7 + 11) + 80 * (d + 4) ≤ R.locals
      omega
  refine vx_runSW (As := as.map cval) (Ts := WALL) (own := RL) ⟨C.1, C.2.1, C.2.2.1, C.2.2.2.1, C.2.2.2.2.1⟩ hM cw ⟨PcR_blind, fun U hU hW => ⟨rfl, by rw [hU]; exact Rep.moved hW.alike hRp, hKS.warm hW⟩⟩ rfl (by rw [List.length_map, hlen]) hl.1 ?_ (lv_room (by rw [acats_map]; exact hcs)) hd ⟨by omega, by omega⟩
  show (as.reverse ++ s1).map cval = (as.map cval).reverse ++ s1.map cval
  rw [List.map_append, List.map_reverse]
def lawOkz (e : aE) : Bool := lawOk e && (!(e.2.2.2.1 == 389) || decide (e.2.2.2.2.2.2 ≤ 7))
theorem mc_z7 {e : aE} (h : e ∈ cd_L_law) (h9 : e.2.2.2.1 = 389) : e.2.2.2.2.2.2 ≤ 7 := by
  have key : cd_L_law.all (fun e => !(e.2.2.2.1 == 389) || decide (e.2.2.2.2.2.2 ≤ 7)) = true := by decide +kernel
  have := List.all_eq_true.mp key e h
  simp only [h9, beq_self_eq_true, Bool.not_true, Bool.false_or, decide_eq_true_eq] at this
  exact this
theorem run_soundL {r : Option aV} {h' : aH} (C : Ctx p R s m args meth c base 9 z0 s0 (hz h') (hs h') H0 13 yL_law (some .boolean) code d) (hcal : CalOk l D base adK adV cal d) (h9 : Fr9 l D base adK adV cal d) (hmono : ∀ m as h r h1, cal m as h r h1 → hz h ≤ hz h1 ∧ hs h ≤ hs h1) (hKS : KS adK s) (HF : FinOk p l e R s m args below meth c Q D base adK adV z0 s0 H0 (some .boolean) code (fun r1 h1 => r1 = r ∧ h1 = h')) :
    ∀ n pc ls st h, arun adK cal cd_L_law n pc ls st h r h' → hz h ≤ hz h' ∧ hs h ≤ hs h' ∧ Sim p l e R s m args below meth c Q D base adK adV 9 z0 s0 (hz h') (hs h') H0 pc ls st h := by
  intro n
  induction n with
  | zero => intro pc ls st h hr; exact hr.elim
  | succ n ih =>
    intro pc ls st h hr
    obtain ⟨ins, nx, a, k, q, z, hlk, hst⟩ := hr
    have hmem := clook_mem hlk
    have hm := mc_law hmem
    have h1 := astep_mono (zE := hz h') (sE := hs h') (fun pc ls st h u => ⟨(ih pc ls st h u).1, (ih pc ls st h u).2.1⟩) hmono (fun r1 h1 u => by rw [u.2]; exact ⟨Nat.le_refl _, Nat.le_refl _⟩) hst
    refine ⟨h1.1, h1.2, ?_⟩
    unfold lawOk at hm
    by_cases ha : a = 389
    · subst ha
      simp only [beq_self_eq_true, cond_true, Bool.and_eq_true, decide_eq_true_eq] at hm
      obtain ⟨⟨⟨hd, rfl⟩, rfl⟩, rfl⟩ := hm
      exact sim_389 C ih h9 hmono hKS hd (mc_z7 hmem rfl) hst
    · have ha2 : (a == 389) = false := by simpa using ha
      simp only [ha2, cond_false] at hm
      exact sim_step C ih hcal hKS HF (fun _ => ha) hm hst
theorem ca389 {w : aW} {d : Nat} {as : List aV} {h : aH} {r : Option aV} {h1 : aH} (u : ares w (biG w) cdm (d + 1) 389 as h r h1) : frC w (ares w (biG w) cdm d) as h r h1 := by
  rcases u with u | ⟨n, u⟩
  · rcases u with ⟨h8, -⟩ | ⟨h8, -⟩ | ⟨-, u⟩
    · exact absurd h8 (by omega)
    · exact absurd h8 (by omega)
    · exact u
  · cases n with
    | zero => exact u.elim
    | succ n =>
      obtain ⟨ins, nx, a, k, q, z, hlk, -⟩ := u
      have : cdm 389 = [] := rfl
      rw [this] at hlk
      cases hlk
theorem fr9_ares (l : Launch) (hfl : l.stackTraces = false) (D : va_G) (base : Nat) (adK adV : Nat → Nat) (d : Nat) (hd : 2 ≤ d) : Fr9 l D base adK adV (ares adK (biG adK) cdm (d + 1)) (d + 1) := by
  intro as h r h1 u hvo hcat
  exact frac_met l hfl D base adK adV d hd (sound l D base adK adV (biG adK) biG_mono (biG_ok l D base adK adV) d) (ares_mono biG_mono d) (ca389 u) hvo hcat
end LAWSIM
