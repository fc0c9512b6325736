/-! what makes cells, constants, switches: printed by wip/whole/gensimd.py -/
theorem vs_grow {A : Nat → Prop} {H0 H H1 : Heap} {locs : List Loc} (h : va_S A H0 H locs) (z : H.size ≤ H1.size) (oq : ∀ q : Nat, q < H.size → H1[q]? = H[q]?) : va_S A H0 H1 locs :=
  ⟨Nat.le_trans h.1 z, fun q h1 h2 => by rw [oq q (Nat.lt_of_lt_of_le h1 h.1)]; exact h.2.1 q h1 h2, h.2.2⟩
/-- what a method's start is told beside the heap: the text constants, the classes of arrays of references -/
def aEx : String := "java/lang/ArithmeticException"
def exD : List String := ["java/lang/RuntimeException", "java/lang/Exception", Bundle.tN]
def KS (adK : Nat → Nat) (U : State) : Prop := (∀ own idx t, slook own idx = some t → vk_R (cn own) idx (texts.getD t "") (adK t) U) ∧ va_AO "PlainGeometry$Whole" U ∧ (Cond.arrayOver (.array .long)).before #[] U = true ∧ va_Nw (.castable aEx aEx) U ∧ ∀ n ∈ exD, va_Nw (.declares (Bundle.initS n)) U
theorem KS.warm {adK : Nat → Nat} {u U : State} (hW : u.WarmedH U.vm) (h : KS adK u) : KS adK U :=
  ⟨fun own idx t ht => vk_R.warm hW (h.1 own idx t ht), va_AO.moved hW.alike h.2.1, over_moved hW.alike h.2.2.1, va_Nw.warmC hW h.2.2.2.1, fun n hn => va_Nw.warmD hW (h.2.2.2.2 n hn)⟩
theorem KS.same {adK : Nat → Nat} {u U : State} (hv : U.vm = u.vm) (h : KS adK u) : KS adK U := by
  have hal : u.vm.Alike U.vm := by rw [hv]; exact Vm.Alike.refl _
  exact ⟨fun own idx t ht => vk_R.same hv (h.1 own idx t ht), va_AO.moved hal h.2.1, over_moved hal h.2.2.1, va_Nw.same rfl hv.symm h.2.2.2.1, fun n hn => va_Nw.same rfl hv.symm (h.2.2.2.2 n hn)⟩
theorem ao_4 : Cond.arrayOver (.object "PlainGeometry$Whole") ∈ lw_tbl := wAt_in (q := (0, 39)) (by decide +kernel)
theorem ao_5 : Cond.arrayOver (.array .long) ∈ lw_tbl := wAt_in (q := (0, 156)) (by decide +kernel)
theorem ac_5 : Cond.classLink "PlainGeometry$Polynomials" 24 (FieldType.array .long).toString ∈ lw_tbl := wAt_in (q := (0, 155)) (by decide +kernel)
section SIM3
variable {p : Program} {l : Launch} {e : Env} {R : Room} {s : State} {m : MethodId} {args : Array Value} {below : List Frame} {meth : Method} {c : Code} {Q : State → Prop} {D : va_G} {base : Nat} {adK adV : Nat → Nat} {nL z0 s0 zE sE : Nat} {H0 : Heap} {own : Nat} {y : MethodName} {ret : Option FieldType} {cc : ByteArray} {d : Nat} {K : Nat → aLs → List aV → aH → Prop} {pc nx a k q : Nat} {z : Int} {ls : aLs} {st : List aV} {h : aH}
theorem sim_ldc2_w (C : Ctx p R s m args meth c base nL z0 s0 zE sE H0 own y ret cc d) (hK : ∀ pc ls st h, K pc ls st h → hz h ≤ zE ∧ hs h ≤ sE ∧ Sim p l e R s m args below meth c Q D base adK adV nL z0 s0 zE sE H0 pc ls st h) {idx : Nat} (hc : echk own y ret nL cc (pc, .ldc2_w idx, nx, a, k, q, z) = true) (hst : K nx ls (aJ z :: st) h) : Sim p l e R s m args below meth c Q D base adK adV nL z0 s0 zE sE H0 pc ls st h := by
  simp only [echk, Bool.and_eq_true, Bool.or_eq_true, decide_eq_true_eq, and_true, Bool.not_eq_true'] at hc
  try simp only [ilen] at hc
  obtain ⟨⟨hd, hlt⟩, rfl, ⟨hj, hz1⟩, hz2⟩ := hc
  rw [Nat.add_sub_cancel_left] at hd
  have hk := hst
  obtain ⟨g1, g2, g3⟩ := hK _ _ _ _ hk
  intro hb4 lsC H locs hl hlo hso hRp hS
  refine lv_ldc2 C.1 C.2.1 C.2.2.2.1 (C.2.2.2.2.1 _ (jlook_in hj)) hd ?_
  exact g3 hb4 lsC H locs hl hlo (fun v hv => by
    rcases List.mem_cons.mp hv with rfl | hv
    · exact (⟨hz1, hz2⟩ : r64 z)
    · exact hso v hv) hRp hS
theorem sim_ldc (C : Ctx p R s m args meth c base nL z0 s0 zE sE H0 own y ret cc d) (hK : ∀ pc ls st h, K pc ls st h → hz h ≤ zE ∧ hs h ≤ sE ∧ Sim p l e R s m args below meth c Q D base adK adV nL z0 s0 zE sE H0 pc ls st h) {idx : Nat} (hKS : KS adK s) (hc : echk own y ret nL cc (pc, .ldc idx, nx, a, k, q, z) = true) (hst : (a = 0 ∧ K nx ls (aI z :: st) h) ∨ (a ≠ 0 ∧ K nx ls (aO (some (adK (a - 1))) :: st) h)) : Sim p l e R s m args below meth c Q D base adK adV nL z0 s0 zE sE H0 pc ls st h := by
  simp only [echk, Bool.and_eq_true, Bool.or_eq_true, decide_eq_true_eq, and_true, Bool.not_eq_true'] at hc
  try simp only [ilen] at hc
  obtain ⟨⟨hd, hlt⟩, rfl, hcc⟩ := hc
  rw [Nat.add_sub_cancel_left] at hd
  rcases hst with ⟨ha, hk⟩ | ⟨ha, hk⟩
  · obtain ⟨g1, g2, g3⟩ := hK _ _ _ _ hk
    intro hb4 lsC H locs hl hlo hso hRp hS
    obtain ⟨hj, hz1, hz2⟩ : klook own idx = some z ∧ -2147483648 ≤ z ∧ z < 2147483648 := by
      rcases hcc with u | u
      · exact ⟨u.1.1.2, u.1.2, u.2⟩
      · exact absurd ha u.1
    refine lv_ldc C.1 C.2.1 C.2.2.2.1 (C.2.2.2.2.1 _ (klook_in hj)) hd ?_
    exact g3 hb4 lsC H locs hl hlo (fun v hv => by
      rcases List.mem_cons.mp hv with rfl | hv
      · exact (⟨hz1, hz2⟩ : r32 z)
      · exact hso v hv) hRp hS
  · obtain ⟨g1, g2, g3⟩ := hK _ _ _ _ hk
    intro hb4 lsC H locs hl hlo hso hRp hS
    have hj : slook own idx = some (a - 1) := by
      rcases hcc with u | u
      · exact absurd u.1.1.1 ha
      · exact u.2
    refine va_ldcS C.1 C.2.1 C.2.2.2.1 (hKS.1 own idx _ hj) hd ?_
    exact g3 hb4 lsC H locs hl hlo (fun v hv => by
      rcases List.mem_cons.mp hv with rfl | hv
      · exact trivial
      · exact hso v hv) hRp hS
theorem sim_tableswitch (C : Ctx p R s m args meth c base nL z0 s0 zE sE H0 own y ret cc d) (hK : ∀ pc ls st h, K pc ls st h → hz h ≤ zE ∧ hs h ≤ sE ∧ Sim p l e R s m args below meth c Q D base adK adV nL z0 s0 zE sE H0 pc ls st h) {df lo hi : Int} {offs : Array Int} (hc : echk own y ret nL cc (pc, .tableswitch df lo hi offs, nx, a, k, q, z) = true) (hst : ∃ x s, st = aI x :: s ∧ K (tswt pc df lo hi offs x) ls s h) : Sim p l e R s m args below meth c Q D base adK adV nL z0 s0 zE sE H0 pc ls st h := by
  simp only [echk, Bool.and_eq_true, Bool.or_eq_true, decide_eq_true_eq, and_true, Bool.not_eq_true'] at hc
  try simp only [ilen] at hc
  obtain ⟨⟨hd, hlt⟩, ⟨⟨⟨hdf, hsz⟩, hall⟩, hlo1⟩, hhi1⟩ := hc
  obtain ⟨x, s1, rfl, hk⟩ := hst
  obtain ⟨g1, g2, g3⟩ := hK _ _ _ _ hk
  intro hb4 lsC H locs hl hlo hso hRp hS
  have hX : r32 x := hso (aI x) List.mem_cons_self
  have e1 : (Int32.ofInt x).toInt = x := i32_to hX
  unfold tswt at g3
  by_cases hx : x < lo ∨ hi < x
  · rw [if_pos hx] at g3
    refine lv_tableOut (tgt := (pc + df).toNat) C.1 C.2.1 hd (by rw [e1]; exact hx) (by omega) ?_
    exact g3 hb4 lsC H locs hl hlo (fun v hv => hso v (List.mem_cons_of_mem _ hv)) hRp hS
  · rw [if_neg hx] at g3
    have hlt2 : (x - lo).toNat < offs.size := by omega
    have h0 : 0 ≤ (pc : Int) + offs[(x - lo).toNat] := by
      have := List.all_eq_true.mp hall offs[(x - lo).toNat] (by simp)
      exact of_decide_eq_true this
    have e2 : offs.getD (x - lo).toNat 0 = offs[(x - lo).toNat] := by simp [hlt2]
    rw [e2] at g3
    refine lv_tableIn (tgt := ((pc : Int) + offs[(x - lo).toNat]).toNat) (off := offs[(x - lo).toNat]) C.1 C.2.1 hd (by rw [e1]; omega) (by rw [e1]; omega) (by rw [e1]; exact Array.getElem?_eq_getElem hlt2) (by omega) ?_
    exact g3 hb4 lsC H locs hl hlo (fun v hv => hso v (List.mem_cons_of_mem _ hv)) hRp hS
theorem sim_new (C : Ctx p R s m args meth c base nL z0 s0 zE sE H0 own y ret cc d) (hK : ∀ pc ls st h, K pc ls st h → hz h ≤ zE ∧ hs h ≤ sE ∧ Sim p l e R s m args below meth c Q D base adK adV nL z0 s0 zE sE H0 pc ls st h) {idx : Nat} (hc : echk own y ret nL cc (pc, .new idx, nx, a, k, q, z) = true) (hst : K nx ls (aO (some (hz h)) :: st) (hnew h (10 + a) k)) : Sim p l e R s m args below meth c Q D base adK adV nL z0 s0 zE sE H0 pc ls st h := by
  simp only [echk, Bool.and_eq_true, Bool.or_eq_true, decide_eq_true_eq, and_true, Bool.not_eq_true'] at hc
  try simp only [ilen] at hc
  obtain ⟨⟨hd, hlt⟩, rfl, ⟨hcl, ha⟩, rfl⟩ := hc
  rw [Nat.add_sub_cancel_left] at hd
  have hk := hst
  obtain ⟨g1, g2, g3⟩ := hK _ _ _ _ hk
  intro hb4 lsC H locs hl hlo hso hRp hS
  rw [hz_new] at g1
  rw [hs_new] at g2
  have hKn := hRp.2.2.2.2.1.1 a _ (vwcl_at ha)
  have hin := ins_of ha
  have hrm := C.2.2.2.2.2.2.2.2.1
  refine W.newcK C.1 C.2.1 C.2.2.2.1 (C.2.2.2.2.1 _ (clok_in hcl)) (C.2.2.2.2.1 _ hin.1) (C.2.2.2.2.1 _ hin.2) rfl hd (by omega) (by omega) hKn.2.1 (h := hz h) hRp.2.1 (fun H1 kC hkC w1 w2 w3 => ?_)
  have hob := u_born (tyG a) C.2.2.2.2.1 (uws_of ha) hKn hkC w1 (fun j hj => (tyG_of ha hj).1)
  have e1 : hT (hnew h (10 + a) (clN a)) (hz h) = (10 + a, clN a) := by rw [hT_new, if_pos rfl]
  have e2 : ∀ j, hV (hnew h (10 + a) (clN a)) (hz h) j = 0 := fun j => by rw [hV_new, if_pos rfl]
  have e3 : ∀ j, hR (hnew h (10 + a) (clN a)) (hz h) j = none := fun j => by rw [hR_new, if_pos rfl]
  have hrep : Rep D base adK adV s (hnew h (10 + a) (clN a)) H1 := by
    refine rep_new hRp (by rw [w2, hRp.2.1]) (fun b hb => w3 b (by rw [← hRp.2.1]; exact hb)) ?_
    unfold cellOk
    rw [e1]
    refine ⟨fun u1 u2 => absurd u2 (by simp only; omega), fun u1 => absurd u1 (by simp only; omega), fun u1 => absurd u1 (by simp only; omega), fun _ => ⟨by simp only; omega, hRp.2.2.2.2.2, ?_, ?_⟩⟩
    · simp only [Nat.add_sub_cancel_left]
      refine hob.to (fun j hj => ?_)
      rcases (tyG_of ha hj).2 with ⟨t1, t2⟩ | ⟨t1, t2⟩ | ⟨t1, t2⟩
      · rw [t1, t2]; show _ = cval (aI _); rw [e2]; rfl
      · rw [t1, t2]; show _ = cval (aJ _); rw [e2]; rfl
      · rw [t1]; show _ = cval (aO _); rw [e3]; rcases t2 with ⟨n, t2⟩ | ⟨n, t2⟩ <;> rw [t2] <;> rfl
    · simp only [Nat.add_sub_cancel_left]
      intro j hj
      rcases (tyG_of ha hj).2 with ⟨t1, t2⟩ | ⟨t1, t2⟩ | ⟨t1, t2⟩
      · rw [t1]; show r32 _; rw [e2]; exact r32_0
      · rw [t1]; show r64 _; rw [e2]; exact r64_0
      · rw [t1]; trivial
  have g := g3 ⟨by rw [hz_new]; omega, by rw [hs_new]; omega⟩ lsC H1 locs hl hlo (fun v hv => by
    rcases List.mem_cons.mp hv with rfl | hv
    · exact trivial
    · exact hso v hv) hrep (vs_grow hS (by rw [w2, hRp.2.1]; omega) (fun b hb => w3 b (by rw [← hRp.2.1]; exact hb)))
  rw [hz_new, hs_new, show hz h + 1 - z0 = hz h - z0 + 1 by omega, show hs h + clN a - s0 = hs h - s0 + clN a by omega] at g
  exact g
theorem sim_newarray (C : Ctx p R s m args meth c base nL z0 s0 zE sE H0 own y ret cc d) (hK : ∀ pc ls st h, K pc ls st h → hz h ≤ zE ∧ hs h ≤ sE ∧ Sim p l e R s m args below meth c Q D base adK adV nL z0 s0 zE sE H0 pc ls st h) {t : ArrayType} (hc : echk own y ret nL cc (pc, .newarray t, nx, a, k, q, z) = true) (hst : ∃ n s, st = aI n :: s ∧ 0 ≤ n ∧ n ≤ 1000000 ∧ K nx ls (aO (some (hz h)) :: s) (hnew h a n.toNat)) : Sim p l e R s m args below meth c Q D base adK adV nL z0 s0 zE sE H0 pc ls st h := by
  simp only [echk, Bool.and_eq_true, Bool.or_eq_true, decide_eq_true_eq, and_true, Bool.not_eq_true'] at hc
  try simp only [ilen] at hc
  obtain ⟨⟨hd, hlt⟩, rfl, hta⟩ := hc
  rw [Nat.add_sub_cancel_left] at hd
  obtain ⟨n, s1, rfl, hn0, hn1, hk⟩ := hst
  obtain ⟨g1, g2, g3⟩ := hK _ _ _ _ hk
  intro hb4 lsC H locs hl hlo hso hRp hS
  rw [hz_new] at g1
  rw [hs_new] at g2
  have hrm := C.2.2.2.2.2.2.2.2.1
  have hN : r32 n := by unfold r32; omega
  obtain ⟨ha1, harr, hty, hby⟩ : (1 ≤ a ∧ a ≤ 3) ∧ Cond.arrayClass (newarray.typeOf t) ∈ WALL ∧ newarray.typeOf t = arrTy a ∧ componentBytes (newarray.typeOf t) ≤ 8 := by
    rcases hta with (⟨rfl, rfl⟩ | ⟨rfl, rfl⟩) | ⟨rfl, rfl⟩
    · exact ⟨by omega, wall_in aw_1 rfl, rfl, by decide⟩
    · exact ⟨by omega, wall_in aw_2 rfl, rfl, by decide⟩
    · exact ⟨by omega, wall_in aw_3 rfl, rfl, by decide⟩
  refine va_newaK C.1 C.2.1 (atype := t) (C.2.2.2.2.1 _ harr) rfl hd rfl (i32_nonneg hn0 hN) (i32_clamp hn0 hN) (by have : n.toNat * componentBytes (newarray.typeOf t) ≤ n.toNat * 8 := Nat.mul_le_mul_left _ hby; omega) (by omega) (by omega) hRp.2.1 (fun H1 cA w1 w2 w3 w4 w5 => ?_)
  have e1 : hT (hnew h a n.toNat) (hz h) = (a, n.toNat) := by rw [hT_new, if_pos rfl]
  have e2 : ∀ j, hV (hnew h a n.toNat) (hz h) j = 0 := fun j => by rw [hV_new, if_pos rfl]
  have hf : (fun _ : Nat => defaultValue (newarray.typeOf t)) = arrF a (hnew h a n.toNat) (hz h) := by
    funext j
    unfold arrF
    rw [e2, hty]
    rcases (show a = 1 ∨ a = 2 ∨ a = 3 by omega) with rfl | rfl | rfl <;> rfl
  rw [hf] at w1
  rw [hty] at w4 w5
  have hrep : Rep D base adK adV s (hnew h a n.toNat) H1 := by
    refine rep_new hRp (by rw [w2, hRp.2.1]) (fun b hb => w3 b (by rw [← hRp.2.1]; exact hb)) ?_
    unfold cellOk
    rw [e1]
    refine ⟨fun _ _ => ⟨hRp.2.2.2.2.2, by simp only; omega, ⟨cA, w1, w4, ?_⟩, fun j hj => ?_⟩, fun u1 => absurd u1 (by simp only; omega), fun u1 => absurd u1 (by simp only; omega), fun u1 => absurd u1 (by simp only; omega)⟩
    · refine ⟨fun u => ?_, fun u => absurd u (by simp only; omega), fun u => absurd u (by simp only; omega)⟩
      simp only at u
      subst u
      exact w5
    · rw [e2]
      rcases (show a = 1 ∨ a = 2 ∨ a = 3 by omega) with rfl | rfl | rfl
      · exact r32_0
      · exact r64_0
      · exact Or.inl rfl
  have g := g3 ⟨by rw [hz_new]; omega, by rw [hs_new]; omega⟩ lsC H1 locs hl hlo (fun v hv => by
    rcases List.mem_cons.mp hv with rfl | hv
    · exact trivial
    · exact hso v (List.mem_cons_of_mem _ hv)) hrep (vs_grow hS (by rw [w2, hRp.2.1]; omega) (fun b hb => w3 b (by rw [← hRp.2.1]; exact hb)))
  rw [hz_new, hs_new, show hz h + 1 - z0 = hz h - z0 + 1 by omega, show hs h + n.toNat - s0 = hs h - s0 + n.toNat by omega] at g
  exact g
theorem sim_anewarray (C : Ctx p R s m args meth c base nL z0 s0 zE sE H0 own y ret cc d) (hK : ∀ pc ls st h, K pc ls st h → hz h ≤ zE ∧ hs h ≤ sE ∧ Sim p l e R s m args below meth c Q D base adK adV nL z0 s0 zE sE H0 pc ls st h) {idx : Nat} (hKS : KS adK s) (hc : echk own y ret nL cc (pc, .anewarray idx, nx, a, k, q, z) = true) (hst : ∃ n s, st = aI n :: s ∧ 0 ≤ n ∧ n ≤ 1000000 ∧ K nx ls (aO (some (hz h)) :: s) (hnew h a n.toNat)) : Sim p l e R s m args below meth c Q D base adK adV nL z0 s0 zE sE H0 pc ls st h := by
  simp only [echk, Bool.and_eq_true, Bool.or_eq_true, decide_eq_true_eq, and_true, Bool.not_eq_true'] at hc
  try simp only [ilen] at hc
  obtain ⟨⟨hd, hlt⟩, rfl, hta⟩ := hc
  rw [Nat.add_sub_cancel_left] at hd
  obtain ⟨n, s1, rfl, hn0, hn1, hk⟩ := hst
  obtain ⟨g1, g2, g3⟩ := hK _ _ _ _ hk
  intro hb4 lsC H locs hl hlo hso hRp hS
  rw [hz_new] at g1
  rw [hs_new] at g2
  have hrm := C.2.2.2.2.2.2.2.2.1
  have hN : r32 n := by unfold r32; omega
  have hcl := i32_clamp hn0 hN
  have key : ∀ (cA : ClassId) (kA : Class) (comp : ClassId), (a = 4 ∨ a = 5) → s.vm.classes[cA]? = some kA → kA.kind = .array comp (arrTy a) → s.vm.findClass ("[" ++ (arrTy a).toString) = some cA → (a = 4 → s.vm.findClass "PlainGeometry$Whole" = some comp) → (a = 5 → s.vm.findClass "[J" = some comp) →
      W p l e R s m args below meth c (H.push { cls := cA, slots := Array.replicate (Int32.ofInt n).toNatClampNeg .null, vm := .none }) locs (hz h - z0 + 1) (hs h - s0 + (Int32.ofInt n).toNatClampNeg) Q (F0 m (pc + 3) lsC (.ref H.size :: s1.map cval)) := by
    intro cA kA comp ha45 hk1 hk2 hk3 hk4 hk5
    rw [hcl, arrV_new]
    have e1 : hT (hnew h a n.toNat) (hz h) = (a, n.toNat) := by rw [hT_new, if_pos rfl]
    have e2 : ∀ j, hV (hnew h a n.toNat) (hz h) j = 0 := fun j => by rw [hV_new, if_pos rfl]
    have e3 : ∀ j, hR (hnew h a n.toNat) (hz h) j = none := fun j => by rw [hR_new, if_pos rfl]
    have hf : (fun _ : Nat => Value.null) = arrF a (hnew h a n.toNat) (hz h) := by
      funext j
      unfold arrF
      rw [e3]
      rcases ha45 with rfl | rfl <;> rfl
    rw [hf]
    have hnw : (H.push (arrV cA n.toNat (arrF a (hnew h a n.toNat) (hz h))))[hz h]? = some (arrV cA n.toNat (arrF a (hnew h a n.toNat) (hz h))) := by rw [← hRp.2.1]; simp
    have hrep : Rep D base adK adV s (hnew h a n.toNat) (H.push (arrV cA n.toNat (arrF a (hnew h a n.toNat) (hz h)))) := by
      refine rep_new hRp (by simp) (fun b hb => by rw [Array.getElem?_push]; exact if_neg (by omega)) ?_
      unfold cellOk
      rw [e1]
      refine ⟨fun _ _ => ⟨hRp.2.2.2.2.2, by simp only; omega, ⟨cA, hnw, fun n0 z9 => ⟨fun u => (by intro w; cases w), kA, hk1, comp, hk2⟩, ?_⟩, fun j hj => ?_⟩, fun u1 => absurd u1 (by simp only; omega), fun u1 => absurd u1 (by simp only; omega), fun u1 => absurd u1 (by simp only; omega)⟩
      · refine ⟨fun u => absurd u (by simp only; omega), fun u => ?_, fun u => ?_⟩
        · simp only at u
          subst u
          exact ⟨kA, comp, hk1, hk2, hk4 rfl⟩
        · simp only at u
          subst u
          exact ⟨kA, comp, hk1, hk2, hk5 rfl⟩
      · rw [e2]
        rcases ha45 with rfl | rfl <;> exact r32_0
    have g := g3 ⟨by rw [hz_new]; omega, by rw [hs_new]; omega⟩ lsC _ locs hl hlo (fun v hv => by
      rcases List.mem_cons.mp hv with rfl | hv
      · exact trivial
      · exact hso v (List.mem_cons_of_mem _ hv)) hrep (vs_grow hS (by simp) (fun b hb => by rw [Array.getElem?_push]; exact if_neg (by omega)))
    rw [hz_new, hs_new, show hz h + 1 - z0 = hz h - z0 + 1 by omega, show hs h + n.toNat - s0 = hs h - s0 + n.toNat by omega] at g
    rw [hRp.2.1]
    exact g
  rcases hta with ⟨⟨rfl, rfl⟩, rfl⟩ | ⟨⟨rfl, rfl⟩, rfl⟩
  · refine W.anew C.1 C.2.1 (C := "PlainGeometry$Whole") C.2.2.2.1 (C.2.2.2.2.1 _ (clok_in (own := 7) (idx := 9) (a := 10) (by decide +kernel))) (va_AO.use hKS.2.1) rfl hd rfl (i32_nonneg hn0 hN) (by rw [hcl]; omega) (by omega) (by rw [hcl]; omega) (fun cA kA comp u1 u2 u3 u4 => ?_)
    exact key cA kA comp (Or.inl rfl) u2 u3 u1 (fun _ => u4) (fun u => absurd u (by decide))
  · refine W.anewA C.1 C.2.1 (t := .long) C.2.2.2.1 (C.2.2.2.2.1 _ (wall_in ac_5 rfl)) (over_moved (Vm.Alike.refl _) hKS.2.2.1) rfl hd rfl (i32_nonneg hn0 hN) (by rw [hcl]; omega) (by omega) (by rw [hcl]; omega) (fun cA kA comp u1 u2 u3 u4 => ?_)
    exact key cA kA comp (Or.inr rfl) u2 u3 u1 (fun u => absurd u (by decide)) (fun _ => u4)
end SIM3
