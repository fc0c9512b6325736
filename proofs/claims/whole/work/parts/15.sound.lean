/-! the machine follows the small machine: a step, a run, a method -/
section SIM6
variable {p : Program} {l : Launch} {e : Env} {R : Room} {s : State} {m : MethodId} {args : Array Value} {below : List Frame} {meth : Method} {c : Code} {Q : State → Prop} {D : va_G} {base : Nat} {adK adV : Nat → Nat} {nL z0 s0 zE sE : Nat} {H0 : Heap} {own : Nat} {y : MethodName} {ret : Option FieldType} {cc : ByteArray} {d : Nat} {K : Nat → aLs → List aV → aH → Prop} {pc nx a k q : Nat} {z : Int} {ls : aLs} {st : List aV} {h : aH} {cal : aCal} {idx : Nat} {fin : Option aV → aH → Prop}
theorem sim_ireturn (HF : FinOk p l e R s m args below meth c Q D base adK adV z0 s0 H0 ret cc fin) (hc : echk own y ret nL cc (pc, .ireturn, nx, a, k, q, z) = true) (hst : ∃ x, st = [aI x] ∧ (a = 1 → x = 0 ∨ x = 1) ∧ (a = 2 → 0 ≤ x ∧ x < 65536) ∧ fin (some (aI x)) h) : Sim p l e R s m args below meth c Q D base adK adV nL z0 s0 zE sE H0 pc ls st h := by
  simp only [echk, Bool.and_eq_true, Bool.or_eq_true, decide_eq_true_eq, and_true, Bool.not_eq_true'] at hc
  try simp only [ilen] at hc
  obtain ⟨⟨hd, hlt⟩, rfl, hcr⟩ := hc
  rw [Nat.add_sub_cancel_left] at hd
  obtain ⟨x, rfl, h1, h2, hf⟩ := hst
  intro hb4 lsC H locs hl hlo hso hRp hS
  exact HF .ireturn pc lsC H locs (some (aI x)) h hf hb4.1 hb4.2 hd (by
    refine Or.inl ⟨rfl, x, ?_⟩
    rcases hcr with (⟨u1, u2⟩ | ⟨u1, u2⟩) | ⟨u1, u2⟩
    · exact ⟨.int, rfl, u2, rfl⟩
    · exact ⟨.boolean, rfl, u2, narrow_b (h1 u1)⟩
    · exact ⟨.char, rfl, u2, narrow_c (h2 u1).1 (h2 u1).2⟩) (fun v hv => by cases hv; exact hso _ List.mem_cons_self) hRp hS
theorem sim_lreturn (HF : FinOk p l e R s m args below meth c Q D base adK adV z0 s0 H0 ret cc fin) (hc : echk own y ret nL cc (pc, .lreturn, nx, a, k, q, z) = true) (hst : ∃ x, st = [aJ x] ∧ fin (some (aJ x)) h) : Sim p l e R s m args below meth c Q D base adK adV nL z0 s0 zE sE H0 pc ls st h := by
  simp only [echk, Bool.and_eq_true, Bool.or_eq_true, decide_eq_true_eq, and_true, Bool.not_eq_true'] at hc
  try simp only [ilen] at hc
  obtain ⟨⟨hd, hlt⟩, rfl, hcr⟩ := hc
  rw [Nat.add_sub_cancel_left] at hd
  obtain ⟨x, rfl, hf⟩ := hst
  intro hb4 lsC H locs hl hlo hso hRp hS
  exact HF .lreturn pc lsC H locs (some (aJ x)) h hf hb4.1 hb4.2 hd (Or.inr (Or.inl ⟨rfl, x, rfl, hcr⟩)) (fun v hv => by cases hv; exact hso _ List.mem_cons_self) hRp hS
theorem sim_dreturn (HF : FinOk p l e R s m args below meth c Q D base adK adV z0 s0 H0 ret cc fin) (hc : echk own y ret nL cc (pc, .dreturn, nx, a, k, q, z) = true) (hst : ∃ x, st = [aD x] ∧ fin (some (aD x)) h) : Sim p l e R s m args below meth c Q D base adK adV nL z0 s0 zE sE H0 pc ls st h := by
  simp only [echk, Bool.and_eq_true, Bool.or_eq_true, decide_eq_true_eq, and_true, Bool.not_eq_true'] at hc
  try simp only [ilen] at hc
  obtain ⟨⟨hd, hlt⟩, rfl, hcr⟩ := hc
  rw [Nat.add_sub_cancel_left] at hd
  obtain ⟨x, rfl, hf⟩ := hst
  intro hb4 lsC H locs hl hlo hso hRp hS
  exact HF .dreturn pc lsC H locs (some (aD x)) h hf hb4.1 hb4.2 hd (Or.inr (Or.inr (Or.inl ⟨rfl, x, rfl, hcr⟩))) (fun v hv => by cases hv; exact hso _ List.mem_cons_self) hRp hS
theorem sim_areturn (HF : FinOk p l e R s m args below meth c Q D base adK adV z0 s0 H0 ret cc fin) (hc : echk own y ret nL cc (pc, .areturn, nx, a, k, q, z) = true) (hst : ∃ x, st = [aO x] ∧ fin (some (aO x)) h) : Sim p l e R s m args below meth c Q D base adK adV nL z0 s0 zE sE H0 pc ls st h := by
  simp only [echk, Bool.and_eq_true, Bool.or_eq_true, decide_eq_true_eq, and_true, Bool.not_eq_true'] at hc
  try simp only [ilen] at hc
  obtain ⟨⟨hd, hlt⟩, rfl, hcr⟩ := hc
  rw [Nat.add_sub_cancel_left] at hd
  obtain ⟨x, rfl, hf⟩ := hst
  intro hb4 lsC H locs hl hlo hso hRp hS
  exact HF .areturn pc lsC H locs (some (aO x)) h hf hb4.1 hb4.2 hd (by
    refine Or.inr (Or.inr (Or.inr (Or.inl ⟨rfl, x, ?_⟩)))
    cases ret with
    | none => cases hcr
    | some ty => cases ty with
      | object n => exact ⟨_, rfl, rfl, Or.inl ⟨_, rfl⟩⟩
      | array t => exact ⟨_, rfl, rfl, Or.inr ⟨_, rfl⟩⟩
      | _ => cases hcr) (fun v hv => by cases hv; exact hso _ List.mem_cons_self) hRp hS
theorem sim_return_ (HF : FinOk p l e R s m args below meth c Q D base adK adV z0 s0 H0 ret cc fin) (hc : echk own y ret nL cc (pc, .return_, nx, a, k, q, z) = true) (hst : st = [] ∧ fin none h) : Sim p l e R s m args below meth c Q D base adK adV nL z0 s0 zE sE H0 pc ls st h := by
  simp only [echk, Bool.and_eq_true, Bool.or_eq_true, decide_eq_true_eq, and_true, Bool.not_eq_true'] at hc
  try simp only [ilen] at hc
  obtain ⟨⟨hd, hlt⟩, rfl, hcr⟩ := hc
  rw [Nat.add_sub_cancel_left] at hd
  obtain ⟨rfl, hf⟩ := hst
  intro hb4 lsC H locs hl hlo hso hRp hS
  exact HF .return_ pc lsC H locs none h hf hb4.1 hb4.2 hd (Or.inr (Or.inr (Or.inr (Or.inr ⟨rfl, rfl, hcr⟩)))) (fun v hv => by cases hv) hRp hS
def isCall (i : Instr) : Bool := match i with
  | .invokestatic _ => true
  | .invokevirtual _ => true
  | .invokespecial _ => true
  | _ => false
theorem sim_step (C : Ctx p R s m args meth c base nL z0 s0 zE sE H0 own y ret cc d) (hK : ∀ pc ls st h, K pc ls st h → hz h ≤ zE ∧ hs h ≤ sE ∧ Sim p l e R s m args below meth c Q D base adK adV nL z0 s0 zE sE H0 pc ls st h) (hcal : CalOk l D base adK adV cal d) (hKS : KS adK s) (HF : FinOk p l e R s m args below meth c Q D base adK adV z0 s0 H0 ret cc fin) {ins : Instr} (h9 : isCall ins = true → a ≠ 389) (hc : echk own y ret nL cc (pc, ins, nx, a, k, q, z) = true) (hst : astep adK cal fin K ins pc nx a k q z ls st h) : Sim p l e R s m args below meth c Q D base adK adV nL z0 s0 zE sE H0 pc ls st h := by
  cases ins
  case iadd => exact sim_iadd C hK hc hst
  case isub => exact sim_isub C hK hc hst
  case imul => exact sim_imul C hK hc hst
  case iand => exact sim_iand C hK hc hst
  case ior => exact sim_ior C hK hc hst
  case ixor => exact sim_ixor C hK hc hst
  case ishl => exact sim_ishl C hK hc hst
  case ishr => exact sim_ishr C hK hc hst
  case iushr => exact sim_iushr C hK hc hst
  case idiv => exact sim_idiv C hK hc hst
  case irem => exact sim_irem C hK hc hst
  case ladd => exact sim_ladd C hK hc hst
  case lsub => exact sim_lsub C hK hc hst
  case lmul => exact sim_lmul C hK hc hst
  case land => exact sim_land C hK hc hst
  case lor => exact sim_lor C hK hc hst
  case lxor => exact sim_lxor C hK hc hst
  case ldiv => exact sim_ldiv C hK hc hst
  case lrem => exact sim_lrem C hK hc hst
  case lshl => exact sim_lshl C hK hc hst
  case lshr => exact sim_lshr C hK hc hst
  case lushr => exact sim_lushr C hK hc hst
  case lcmp => exact sim_lcmp C hK hc hst
  case ineg => exact sim_ineg C hK hc hst
  case lneg => exact sim_lneg C hK hc hst
  case i2l => exact sim_i2l C hK hc hst
  case l2i => exact sim_l2i C hK hc hst
  case l2d => exact sim_l2d C hK hc hst
  case ddiv => exact sim_ddiv C hK hc hst
  case dcmp => exact sim_dcmp C hK hc hst
  case aconst_null => exact sim_aconst_null C hK hc hst
  case iconst => exact sim_iconst C hK hc hst
  case bipush => exact sim_bipush C hK hc hst
  case sipush => exact sim_sipush C hK hc hst
  case lconst => exact sim_lconst C hK hc hst
  case dconst => exact sim_dconst C hK hc hst
  case iload => exact sim_iload C hK hc hst
  case iload_n => exact sim_iload_n C hK hc hst
  case lload => exact sim_lload C hK hc hst
  case lload_n => exact sim_lload_n C hK hc hst
  case dload => exact sim_dload C hK hc hst
  case dload_n => exact sim_dload_n C hK hc hst
  case aload => exact sim_aload C hK hc hst
  case aload_n => exact sim_aload_n C hK hc hst
  case istore => exact sim_istore C hK hc hst
  case istore_n => exact sim_istore_n C hK hc hst
  case lstore => exact sim_lstore C hK hc hst
  case lstore_n => exact sim_lstore_n C hK hc hst
  case dstore => exact sim_dstore C hK hc hst
  case dstore_n => exact sim_dstore_n C hK hc hst
  case astore => exact sim_astore C hK hc hst
  case astore_n => exact sim_astore_n C hK hc hst
  case iinc => exact sim_iinc C hK hc hst
  case dup => exact sim_dup C hK hc hst
  case dup2 => exact sim_dup2 C hK hc hst
  case pop => exact sim_pop C hK hc hst
  case if_icmp => exact sim_if_icmp C hK hc hst
  case ifCond => exact sim_ifCond C hK hc hst
  case ifnull => exact sim_ifnull C hK hc hst
  case ifnonnull => exact sim_ifnonnull C hK hc hst
  case goto => exact sim_goto C hK hc hst
  case getfield => exact sim_getfield C hK hc hst
  case putfield => exact sim_putfield C hK hc hst
  case laload => exact sim_laload C hK hc hst
  case baload => exact sim_baload C hK hc hst
  case iaload => exact sim_iaload C hK hc hst
  case aaload => exact sim_aaload C hK hc hst
  case arraylength => exact sim_arraylength C hK hc hst
  case iastore => exact sim_iastore C hK hc hst
  case lastore => exact sim_lastore C hK hc hst
  case bastore => exact sim_bastore C hK hc hst
  case aastore => exact sim_aastore C hK hc hst
  case ldc2_w => exact sim_ldc2_w C hK hc hst
  case ldc => exact sim_ldc C hK hKS hc hst
  case tableswitch => exact sim_tableswitch C hK hc hst
  case new => exact sim_new C hK hc hst
  case newarray => exact sim_newarray C hK hc hst
  case anewarray => exact sim_anewarray C hK hKS hc hst
  case invokestatic => exact sim_invokestatic C hK hcal hKS (h9 rfl) hc hst
  case invokevirtual => exact sim_invokevirtual C hK hcal hKS (h9 rfl) hc hst
  case invokespecial => exact sim_invokespecial C hK hcal hKS (h9 rfl) hc hst
  case ireturn => exact sim_ireturn HF hc hst
  case lreturn => exact sim_lreturn HF hc hst
  case dreturn => exact sim_dreturn HF hc hst
  case areturn => exact sim_areturn HF hc hst
  case return_ => exact sim_return_ HF hc hst
  all_goals exact hst.elim
theorem astep_mono {w : aW} (hK : ∀ pc ls st h, K pc ls st h → hz h ≤ zE ∧ hs h ≤ sE) (hcal : ∀ m as h r h1, cal m as h r h1 → hz h ≤ hz h1 ∧ hs h ≤ hs h1) (hF : ∀ r h, fin r h → hz h ≤ zE ∧ hs h ≤ sE) {ins : Instr} (hst : astep w cal fin K ins pc nx a k q z ls st h) : hz h ≤ zE ∧ hs h ≤ sE := by
  have hn : ∀ k n, hz (hnew h k n) ≤ zE ∧ hs (hnew h k n) ≤ sE → hz h ≤ zE ∧ hs h ≤ sE := by
    intro k n u
    rw [hz_new, hs_new] at u
    omega
  have hcl : ∀ rk, acall cal K nx a k rk z ls st h → hz h ≤ zE ∧ hs h ≤ sE := by
    intro rk u
    obtain ⟨as, s1, r, h1, -, -, -, -, -, hr, hk⟩ := u
    have := hcal _ _ _ _ _ hr
    have := hK _ _ _ _ hk
    omega
  cases ins
  case new => exact hn _ _ (hK _ _ _ _ hst)
  case newarray => obtain ⟨_, _, _, _, _, hk⟩ := hst; exact hn _ _ (hK _ _ _ _ hk)
  case anewarray => obtain ⟨_, _, _, _, _, hk⟩ := hst; exact hn _ _ (hK _ _ _ _ hk)
  case ldc => rcases hst with ⟨_, hk⟩ | ⟨_, hk⟩ <;> exact hK _ _ _ _ hk
  case putfield =>
    obtain ⟨_, _, _, _, _, hk⟩ := hst
    rcases hk with ⟨_, _, _, hk⟩ | ⟨_, _, _, hk⟩ | ⟨_, _, _, hk⟩ <;> (have u := hK _ _ _ _ hk; exact u)
  case invokestatic => exact hcl _ hst
  case invokevirtual => exact hcl _ hst
  case invokespecial =>
    rcases hst with ⟨_, _, _, _, _, hk⟩ | ⟨_, hk⟩
    · exact hK _ _ _ _ hk
    · exact hcl _ hk
  all_goals first
    | exact hst.elim
    | exact hK _ _ _ _ hst
    | (obtain ⟨_, hk⟩ := hst; exact hK _ _ _ _ hk)
    | (obtain ⟨_, _, hk⟩ := hst; exact hK _ _ _ _ hk)
    | (obtain ⟨_, _, _, hk⟩ := hst; exact hK _ _ _ _ hk)
    | (obtain ⟨_, _, _, _, hk⟩ := hst; exact hK _ _ _ _ hk)
    | (obtain ⟨_, _, _, _, _, hk⟩ := hst; exact hK _ _ _ _ hk)
    | (obtain ⟨_, _, _, _, _, _, hk⟩ := hst; exact hK _ _ _ _ hk)
    | (obtain ⟨_, _, _, _, _, _, _, hk⟩ := hst; exact hK _ _ _ _ hk)
    | (obtain ⟨_, _, _, _, _, _, _, _, hk⟩ := hst; exact hK _ _ _ _ hk)
    | (obtain ⟨_, _, _, _, _, _, _, _, _, hk⟩ := hst; exact hK _ _ _ _ hk)
    | (obtain ⟨_, _, _, _, _, _, _, _, hk⟩ := hst; have u := hK _ _ _ _ hk; exact u)
    | (obtain ⟨_, _, _, _, _, _, _, _, _, hk⟩ := hst; have u := hK _ _ _ _ hk; exact u)
    | (obtain ⟨_, _, _, _, _, _, _, _, _, _, hk⟩ := hst; have u := hK _ _ _ _ hk; exact u)
    | (obtain ⟨_, hk⟩ := hst; exact hF _ _ hk)
    | (obtain ⟨_, _, hk⟩ := hst; exact hF _ _ hk)
    | (obtain ⟨_, _, _, _, hk⟩ := hst; exact hF _ _ hk)
theorem clook_mem {cd : List aE} {pc : Nat} {t : Instr × Nat × Nat × Nat × Nat × Int} (h : clook cd pc = some t) : (pc, t) ∈ cd := by
  induction cd with
  | nil => cases h
  | cons q0 r0 ih =>
    unfold clook at h
    cases e : (q0.1 == pc) with
    | true =>
      rw [e] at h
      have e1 : q0.1 = pc := by simpa using e
      have e2 : q0.2 = t := Option.some.inj h
      rw [← e1, ← e2]
      exact List.mem_cons_self
    | false =>
      rw [e] at h
      exact List.mem_cons_of_mem _ (ih h)
theorem run_sound {cd : List aE} {r : Option aV} {h' : aH} (C : Ctx p R s m args meth c base nL z0 s0 (hz h') (hs h') H0 own y ret cc d) (hcal : CalOk l D base adK adV cal d) (hmono : ∀ m as h r h1, cal m as h r h1 → hz h ≤ hz h1 ∧ hs h ≤ hs h1) (hKS : KS adK s) (HF : FinOk p l e R s m args below meth c Q D base adK adV z0 s0 H0 ret cc (fun r1 h1 => r1 = r ∧ h1 = h'))
    (hcd : ∀ x ∈ cd, echk own y ret nL cc x = true ∧ (isCall x.2.1 = true → x.2.2.2.1 ≠ 389)) : ∀ n pc ls st h, arun adK cal cd n pc ls st h r h' → hz h ≤ hz h' ∧ hs h ≤ hs h' ∧ Sim p l e R s m args below meth c Q D base adK adV nL z0 s0 (hz h') (hs h') H0 pc ls st h := by
  intro n
  induction n with
  | zero => intro pc ls st h hr; exact hr.elim
  | succ n ih =>
    intro pc ls st h hr
    obtain ⟨ins, nx, a, k, q, z, hlk, hst⟩ := hr
    have hm := hcd _ (clook_mem hlk)
    have h1 := astep_mono (zE := hz h') (sE := hs h') (fun pc ls st h u => ⟨(ih pc ls st h u).1, (ih pc ls st h u).2.1⟩) hmono (fun r1 h1 u => by rw [u.2]; exact ⟨Nat.le_refl _, Nat.le_refl _⟩) hst
    exact ⟨h1.1, h1.2, sim_step C ih hcal hKS HF hm.2 hm.1 hst⟩
theorem run_mono {w : aW} {cd : List aE} {r : Option aV} {h' : aH} (hmono : ∀ m as h r h1, cal m as h r h1 → hz h ≤ hz h1 ∧ hs h ≤ hs h1) : ∀ n pc ls st h, arun w cal cd n pc ls st h r h' → hz h ≤ hz h' ∧ hs h ≤ hs h' := by
  intro n
  induction n with
  | zero => intro pc ls st h hr; exact hr.elim
  | succ n ih =>
    intro pc ls st h hr
    obtain ⟨ins, nx, a, k, q, z, hlk, hst⟩ := hr
    exact astep_mono ih hmono (fun r1 h1 u => by rw [u.2]; exact ⟨Nat.le_refl _, Nat.le_refl _⟩) hst
theorem ares_mono {w : aW} {bi : aCal → aCal} {cd : Nat → List aE} (hbi : ∀ cal : aCal, (∀ m as h r h1, cal m as h r h1 → hz h ≤ hz h1 ∧ hs h ≤ hs h1) → ∀ m as h r h1, bi cal m as h r h1 → hz h ≤ hz h1 ∧ hs h ≤ hs h1) : ∀ d m as h r h1, ares w bi cd d m as h r h1 → hz h ≤ hz h1 ∧ hs h ≤ hs h1 := by
  intro d
  induction d with
  | zero => intro m as h r h1 u; exact u.elim
  | succ d ih =>
    intro m as h r h1 u
    rcases u with u | ⟨n, u⟩
    · exact hbi _ ih _ _ _ _ _ u
    · exact run_mono ih n _ _ _ _ u
theorem fin_met {r : Option aV} {h' : aH} (hx : p.tables.exec = Jvm.exec) (hb : c.code = cc) (hr : meth.sig.returnType = ret) (hlocks : meth.locks = false) : FinOk p l e R s m args below meth c (MQ below (QcR D base adK adV r h') args s (hz h' - z0) (hs h' - s0) (aA base)) D base adK adV z0 s0 s.heap ret cc (fun r1 h1 => r1 = r ∧ h1 = h') := by
  intro ins pc lsC H locs r1 h1 hf hz1 hs1 hd hro hvo hRp hS
  obtain ⟨rfl, rfl⟩ := hf
  have hq : ∀ (t : State) (v : Option Value), v = r1.map cval → t.heap = H → s.WarmedH t.vm → QcR D base adK adV r1 h1 args s (.returned v) t := by
    intro t v hv ht hW
    exact ⟨⟨by rw [hv], hvo⟩, by rw [ht]; exact Rep.moved hW.alike hRp, hS.F ht⟩
  rcases hro with ⟨rfl, x, ty, rfl, hty, hn⟩ | ⟨rfl, x, rfl, hty⟩ | ⟨rfl, x, rfl, hty⟩ | ⟨rfl, x, ty, rfl, hty, ht⟩ | ⟨rfl, rfl, hty⟩
  · exact W.zret hx hb (hr.trans hty) hn (fun t u v => hq t _ rfl u v) hS.2.2 hd hlocks
  · exact W.lret hx hb (hr.trans hty) (fun t u v => hq t _ rfl u v) hS.2.2 hd hlocks
  · exact W.dret hx hb (hr.trans hty) (fun t u v => hq t _ rfl u v) hS.2.2 hd hlocks
  · exact W.aret hx hb (hr.trans hty) ht (by cases x with | none => exact Or.inl rfl | some x => exact Or.inr ⟨x, rfl⟩) (fun t u v => hq t _ rfl u v) hS.2.2 hd hlocks
  · exact W.vret hx hb (hr.trans hty) (fun t u v => hq t _ rfl u v) hS.2.2 hd hlocks
theorem largs_map (as : List aV) : ∀ n, (largs n as).map (fun q => (q.1, cval q.2)) = lv_args n (as.map cval) := by
  induction as with
  | nil => intro n; rfl
  | cons v t ih =>
    intro n
    simp only [largs, List.map_cons, lv_args]
    rw [ih, cat_c]
    congr 2
    rcases v with (z | z) | ((_ | a) | u) <;> rfl
theorem largs_ok {as : List aV} (h : ∀ v ∈ as, vok v) : ∀ n, ∀ q ∈ largs n as, vok q.2 := by
  induction as with
  | nil => intro n q hq; cases hq
  | cons v t ih =>
    intro n q hq
    rcases List.mem_cons.mp hq with rfl | hq
    · exact h _ List.mem_cons_self
    · exact ih (fun v hv => h v (List.mem_cons_of_mem _ hv)) _ q hq
theorem lgsl_len (as : List aV) : (lg_sl (as.map cval)).length = acats as := by
  induction as with
  | nil => rfl
  | cons v t ih =>
    have e1 : acats (v :: t) = acat v + acats t := by simp [acats]
    have e2 : lg_sl ((v :: t).map cval) = (if (cval v).category = 2 then [Slot.val (cval v), .second] else [.val (cval v)]) ++ lg_sl (t.map cval) := by simp [lg_sl]
    rw [e1, e2, List.length_append, ih, cat_c]
    rcases v with (z | z) | ((_ | a) | u) <;> rfl
theorem ml389 {own idx : Nat} (h : mlook own idx = some 389) : own = 13 := by
  have key : mlks.all (fun e => e.2.2.1 != 389 || e.1 == 13) = true := by decide +kernel
  unfold mlook at h
  cases e : mlks.find? (fun e => e.1 == own && e.2.1 == idx) with
  | none => rw [e] at h; cases h
  | some x =>
    rw [e] at h
    have h1 := List.mem_of_find?_eq_some e
    have h2 := List.find?_some e
    have h3 := List.all_eq_true.mp key x h1
    obtain ⟨x1, x2, x3, x4⟩ := x
    simp only [Option.map_some, Option.some.injEq] at h
    simp only [Bool.and_eq_true, beq_iff_eq] at h2
    obtain ⟨rfl, rfl⟩ := h2
    subst h
    simpa using h3
theorem call389 {own pc nx a k q : Nat} {y : MethodName} {ret : Option FieldType} {nL : Nat} {cc : ByteArray} {z : Int} {ins : Instr} (ho : own ≠ 13) (hc : echk own y ret nL cc (pc, ins, nx, a, k, q, z) = true) : isCall ins = true → a ≠ 389 := by
  intro hi ha
  subst ha
  cases ins <;> (try cases hi)
  all_goals simp only [echk, Bool.and_eq_true, Bool.or_eq_true, decide_eq_true_eq, and_true, Bool.not_eq_true'] at hc
  · rcases hc.2.2 with u | u
    · exact absurd u.1 (by decide)
    · exact ho (ml389 u.1.1.1.1.1.1.1.2)
  · exact ho (ml389 hc.2.2.1.1.1.1)
  · exact ho (ml389 hc.2.2.1.1.1.1.1.1)
theorem own13 {m : Nat} (h1 : 1 ≤ m) (h2 : m ≤ 388) : (mth m).1 ≠ 13 := by
  have key : amT.all (fun q => q.1 != 13) = true := by decide +kernel
  have := List.all_eq_true.mp key _ (mth_mem h1 h2)
  simpa using this
theorem sound (l : Launch) (D : va_G) (base : Nat) (adK adV : Nat → Nat) (bi : aCal → aCal) (hbm : ∀ cal : aCal, (∀ m as h r h1, cal m as h r h1 → hz h ≤ hz h1 ∧ hs h ≤ hs h1) → ∀ m as h r h1, bi cal m as h r h1 → hz h ≤ hz h1 ∧ hs h ≤ hs h1)
    (hbi : ∀ d cal, CalOk l D base adK adV cal d → CalOk l D base adK adV (bi cal) (d + 1)) : ∀ d, CalOk l D base adK adV (ares adK bi cdm d) d := by
  intro d
  induction d with
  | zero => intro m as h r h1 u; exact u.elim
  | succ d ih =>
    intro m as h r h1 u h9 hvo hcat
    rcases u with u | ⟨n, u⟩
    · exact hbi d _ ih m as h r h1 u h9 hvo hcat
    have hmono := ares_mono (w := adK) (bi := bi) (cd := cdm) hbm d
    have hm12 : 1 ≤ m ∧ m ≤ 388 := by
      cases n with
      | zero => exact u.elim
      | succ n =>
        obtain ⟨_, _, _, _, _, _, hlk, -⟩ := u
        unfold cdm at hlk
        cases e : ((m == 0) || decide (389 ≤ m)) with
        | true => rw [e] at hlk; cases hlk
        | false =>
          simp only [Bool.or_eq_false_iff, beq_eq_false_iff_ne, decide_eq_false_iff_not] at e
          omega
    have e1 : my m = (mth m).2.1 := by unfold my; rw [if_neg (by omega), if_neg (by omega)]
    have e2 : mb m = (mth m).2.2.1 := by unfold mb; rw [if_neg (by omega), if_neg (by omega)]
    have e3 : mmL m = (mth m).2.2.2.1 := by unfold mmL; rw [if_neg (by omega), if_neg (by omega)]
    have e4 : mret m = (mth m).2.2.2.2.1 := by unfold mret; rw [if_neg (by omega), if_neg (by omega)]
    have e5 : cdm m = (mth m).2.2.2.2.2.2 := by
      unfold cdm
      have : ((m == 0) || decide (389 ≤ m)) = false := by
        simp only [Bool.or_eq_false_iff, beq_eq_false_iff_ne, decide_eq_false_iff_not]
        omega
      rw [this]; rfl
    have hmc := mc_all hm12.1 hm12.2
    unfold mchk at hmc
    simp only [Bool.and_eq_true, decide_eq_true_eq] at hmc
    obtain ⟨⟨hcn, hml6⟩, hall⟩ := hmc
    have hmf := mfacts hm12.1 (Or.inl hm12.2)
    have ho13 : (mth m).1 ≠ 13 := own13 hm12.1 hm12.2
    have hm0 := run_mono hmono n _ _ _ _ u
    refine ⟨hm0.1, hm0.2, ?_⟩
    refine va_MetF (cc := mb m) (maxL := mmL m) (ret := mret m) hmf.2.2.2.2.1 rfl ?_
    intro p e s mm args below meth c s1 B hml hv
    obtain ⟨rfl, hRp, hKS⟩ := hv
    have hts := atoms_spec (ws := wsm m) B.pre
    have C : Ctx p (headSpec (wsm m) (mRoom (d + 1) h h1)).room s mm (as.map cval).toArray meth c base (mmL m) (hz h) (hs h) (hz h1) (hs h1) s.heap (mth m).1 (my m) (mret m) (mb m) d :=
      ⟨B.exec, B.bytes, hml, by rw [← hcn, ← e1]; exact findClass_of_methodNamed B.named, fun w hw => hts w (List.mem_cons_of_mem _ hw), B.returns, B.notSynchronized, fun _ => (name_of_methodNamed B.named B.method).1, ⟨Nat.le_refl _, Nat.le_refl _⟩, ⟨by show d + 5 ≤ d + 1 + 4; omega, by show 80 * (d + 5) ≤ 80 * (d + 1 + 4); omega⟩, by rw [hRp.2.1]; exact hRp.2.2.2.2.2, hmf.2.2.2.2.2.2.2⟩
    have hs0 := run_sound (cd := cdm m) (e := e) (below := below) (r := r) (h' := h1) C ih hmono hKS (fin_met B.exec B.bytes B.returns B.notSynchronized) (by
      intro x hx
      rw [e5] at hx
      have hk := List.all_eq_true.mp hall x hx
      rw [← e1, ← e2, ← e3, ← e4] at hk
      exact ⟨hk, call389 ho13 hk⟩) n 0 (largs 0 as) [] h u
    have hlen : (lg_sl (as.map cval)).length ≤ mmL m := by rw [lgsl_len]; omega
    have hl := lv_entry (as.map cval) hlen
    rw [← largs_map] at hl
    rw [lg_entry_eq]
    have g := hs0.2.2 ⟨Nat.le_refl _, Nat.le_refl _⟩ _ s.heap [] hl (largs_ok hvo 0) (fun v hv => by cases hv) hRp va_S.rf
    rw [Nat.sub_self, Nat.sub_self] at g
    exact g
end SIM6
