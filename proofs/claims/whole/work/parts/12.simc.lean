/-! heap rows of the small machine, followed by the machine's own: printed by wip/whole/gensimc.py -/
section SIM2
variable {p : Program} {l : Launch} {e : Env} {R : Room} {s : State} {m : MethodId} {args : Array Value} {below : List Frame} {meth : Method} {c : Code} {Q : State → Prop} {D : va_G} {base : Nat} {adK adV : Nat → Nat} {nL z0 s0 zE sE : Nat} {H0 : Heap} {own : Nat} {y : MethodName} {ret : Option FieldType} {cc : ByteArray} {d : Nat} {K : Nat → aLs → List aV → aH → Prop} {pc nx a k q : Nat} {z : Int} {ls : aLs} {st : List aV} {h : aH}
theorem sim_getfield (C : Ctx p R s m args meth c base nL z0 s0 zE sE H0 own y ret cc d) (hK : ∀ pc ls st h, K pc ls st h → hz h ≤ zE ∧ hs h ≤ sE ∧ Sim p l e R s m args below meth c Q D base adK adV nL z0 s0 zE sE H0 pc ls st h) {idx : Nat} (hc : echk own y ret nL cc (pc, .getfield idx, nx, a, k, q, z) = true) (hst : ∃ o s, st = aO (some o) :: s ∧ (hT h o).1 = 10 + a ∧ K nx ls (fget h q k o :: s) h) : Sim p l e R s m args below meth c Q D base adK adV nL z0 s0 zE sE H0 pc ls st h := by
  simp only [echk, Bool.and_eq_true, Bool.or_eq_true, decide_eq_true_eq, and_true, Bool.not_eq_true'] at hc
  try simp only [ilen] at hc
  obtain ⟨⟨hd, hlt⟩, rfl, ⟨⟨hf, hk1⟩, ha⟩, hq⟩ := hc
  rw [Nat.add_sub_cancel_left] at hd
  obtain ⟨o, s1, rfl, hto, hk⟩ := hst
  obtain ⟨g1, g2, g3⟩ := hK _ _ _ _ hk
  intro hb4 lsC H locs hl hlo hso hRp hS
  obtain ⟨hlink, -⟩ := flook_in hf
  obtain ⟨cf, kf, fi, f, kC, f1, f2, f3, f4, f5, f6⟩ := fld_of C.2.2.2.2.1 hRp.2.2.2.2.1 ha hk1
  have hcell := (hRp.1 o).2.2.2 (by omega)
  have e0 : (hT h o).1 - 10 = a := by omega
  rw [e0] at hcell
  obtain ⟨-, -, ⟨cell, q1, q2, q3, q4⟩, q5⟩ := hcell
  refine W.getf C.1 C.2.1 C.2.2.2.1 (C.2.2.2.2.1 _ hlink) f1 f3 q1 (by rw [q3]; exact fun e => by cases e) (v := cval (fget h q k o)) (by rw [f2, q4 k hk1, hq]; rfl) rfl rfl hd ?_
  exact g3 hb4 lsC H locs hl hlo (fun v hv => by
    rcases List.mem_cons.mp hv with rfl | hv
    · rw [hq]; exact q5 k hk1
    · exact hso v (List.mem_cons_of_mem _ hv)) hRp hS
theorem sim_putfield (C : Ctx p R s m args meth c base nL z0 s0 zE sE H0 own y ret cc d) (hK : ∀ pc ls st h, K pc ls st h → hz h ≤ zE ∧ hs h ≤ sE ∧ Sim p l e R s m args below meth c Q D base adK adV nL z0 s0 zE sE H0 pc ls st h) {idx : Nat} (hc : echk own y ret nL cc (pc, .putfield idx, nx, a, k, q, z) = true) (hst : ∃ v o s, st = v :: aO (some o) :: s ∧ (hT h o).1 = 10 + a ∧ ((q = 0 ∧ ∃ x, v = aI x ∧ K nx ls s (hset h o k x)) ∨ (q = 1 ∧ ∃ x, v = aJ x ∧ K nx ls s (hset h o k x)) ∨ (q = 2 ∧ ∃ x, v = aO x ∧ K nx ls s (hput h o k x)))) : Sim p l e R s m args below meth c Q D base adK adV nL z0 s0 zE sE H0 pc ls st h := by
  simp only [echk, Bool.and_eq_true, Bool.or_eq_true, decide_eq_true_eq, and_true, Bool.not_eq_true'] at hc
  try simp only [ilen] at hc
  obtain ⟨⟨hd, hlt⟩, rfl, ⟨⟨⟨hf, hk1⟩, ha⟩, hq⟩, hfin⟩ := hc
  rw [Nat.add_sub_cancel_left] at hd
  obtain ⟨v, o, s1, rfl, hto, hk⟩ := hst
  obtain ⟨h1, hk2, e1, e2, e3, e4, e5⟩ : ∃ h1 : aH, K (pc + 3) ls s1 h1 ∧ (∀ b, hT h1 b = hT h b) ∧ (∀ b j, ¬ (b = o ∧ j = k) → hV h1 b j = hV h b j ∧ hR h1 b j = hR h b j) ∧ hz h1 = hz h ∧ hs h1 = hs h ∧ fget h1 q k o = v := by
    rcases hk with ⟨rfl, x, rfl, hk⟩ | ⟨rfl, x, rfl, hk⟩ | ⟨rfl, x, rfl, hk⟩
    · exact ⟨_, hk, fun _ => rfl, fun b j hb => ⟨by rw [hV_set, if_neg hb], rfl⟩, rfl, rfl, by show aI _ = _; rw [hV_set, if_pos ⟨rfl, rfl⟩]⟩
    · exact ⟨_, hk, fun _ => rfl, fun b j hb => ⟨by rw [hV_set, if_neg hb], rfl⟩, rfl, rfl, by show aJ _ = _; rw [hV_set, if_pos ⟨rfl, rfl⟩]⟩
    · exact ⟨_, hk, fun _ => rfl, fun b j hb => ⟨rfl, by rw [hR_put, if_neg hb]⟩, rfl, rfl, by show aO _ = _; rw [hR_put, if_pos ⟨rfl, rfl⟩]⟩
  have hvt : (∃ x, v = aI x ∧ q = 0) ∨ (∃ x, v = aJ x ∧ q = 1) ∨ (∃ x, v = aO x ∧ q = 2) := by
    rcases hk with ⟨rfl, x, rfl, hk⟩ | ⟨rfl, x, rfl, hk⟩ | ⟨rfl, x, rfl, hk⟩
    · exact Or.inl ⟨x, rfl, rfl⟩
    · exact Or.inr (Or.inl ⟨x, rfl, rfl⟩)
    · exact Or.inr (Or.inr ⟨x, rfl, rfl⟩)
  obtain ⟨g1, g2, g3⟩ := hK _ _ _ _ hk2
  intro hb4 lsC H locs hl hlo hso hRp hS
  obtain ⟨hlink, hcn⟩ := flook_in hf
  obtain ⟨cf, kf, fi, f, kC, f1, f2, f3, f4, f5, f6⟩ := fld_of C.2.2.2.2.1 hRp.2.2.2.2.1 ha hk1
  have hcell := (hRp.1 o).2.2.2 (by omega)
  have e0 : (hT h o).1 - 10 = a := by omega
  rw [e0] at hcell
  obtain ⟨q0, hbo, ⟨cell, q1, q2, q3, q4⟩, q5⟩ := hcell
  obtain ⟨ht1, ht2⟩ := tyG_of ha hk1
  have hvok : vok v := hso v List.mem_cons_self
  have hnf : narrow (tyG a k) (cval v) = cval v ∧ fits (tyG a k) (cval v) = true := by
    rcases hvt with ⟨x, rfl, hx⟩ | ⟨x, rfl, hx⟩ | ⟨x, rfl, hx⟩
    · rcases ht2 with ⟨t1, t2⟩ | ⟨t1, t2⟩ | ⟨t1, t2⟩
      · rw [t2]; exact ⟨rfl, rfl⟩
      · rw [show fsG a k = q from hq.symm] at t1; omega
      · rw [show fsG a k = q from hq.symm] at t1; omega
    · rcases ht2 with ⟨t1, t2⟩ | ⟨t1, t2⟩ | ⟨t1, t2⟩
      · rw [show fsG a k = q from hq.symm] at t1; omega
      · rw [t2]; exact ⟨rfl, rfl⟩
      · rw [show fsG a k = q from hq.symm] at t1; omega
    · rcases ht2 with ⟨t1, t2⟩ | ⟨t1, t2⟩ | ⟨t1, t2⟩
      · rw [show fsG a k = q from hq.symm] at t1; omega
      · rw [show fsG a k = q from hq.symm] at t1; omega
      · rcases t2 with ⟨n, t2⟩ | ⟨n, t2⟩ <;> rw [t2] <;> cases x <;> exact ⟨rfl, rfl⟩
  have hap := apart_of C.2.2.2.2.1 hRp.2.2.2.2.1 ha
  have fin : ∀ H' : Heap, H'[o]? = some (cell.setSlot f.slot (cval v)) → H'.size = H.size → (∀ b : Nat, b ≠ o → H'[b]? = H[b]?) → W p l e R s m args below meth c H' (locs ++ [⟨o, f.slot⟩]) (hz h - z0) (hs h - s0) Q (F0 m (pc + 3) lsC (s1.map cval)) := by
    intro H' w1 w2 w3
    have hrep : Rep D base adK adV s h1 H' := by
      refine rep_upd hRp hbo e1 (fun b hb j => (e2 b j (fun u => hb u.1)).1) (fun b hb j => (e2 b j (fun u => hb u.1)).2) e3 w2 w3 ?_
      unfold cellOk
      rw [e1, hto]
      refine ⟨fun u1 u2 => absurd u2 (by omega), fun u1 => absurd u1 (by omega), fun u1 => absurd u1 (by omega), fun _ => ⟨by omega, hbo, ?_, ?_⟩⟩
      · rw [Nat.add_sub_cancel_left]
        refine t_OB.to (V := updV (fun j => cval (fget h (fsG a j) j o)) k (cval v)) ⟨_, w1, q2, q3, by rw [f2]; exact t_set q4 hap hk1 (cval v)⟩ (fun j hj => ?_)
        unfold updV
        by_cases hjk : j = k
        · subst hjk
          rw [if_pos rfl, show fsG a j = q from hq.symm, e5]
        · rw [if_neg hjk]
          unfold fget
          rw [(e2 o j (fun u => hjk u.2)).1, (e2 o j (fun u => hjk u.2)).2]
      · rw [Nat.add_sub_cancel_left]
        intro j hj
        by_cases hjk : j = k
        · subst hjk
          rw [show fsG a j = q from hq.symm, e5]; exact hvok
        · have := q5 j hj
          unfold fget at this ⊢
          rw [(e2 o j (fun u => hjk u.2)).1, (e2 o j (fun u => hjk u.2)).2]; exact this
    have g := g3 ⟨by rw [e3]; exact hb4.1, by rw [e4]; exact hb4.2⟩ lsC H' (locs ++ [⟨o, f.slot⟩]) hl hlo (fun v hv => hso v (List.mem_cons_of_mem _ (List.mem_cons_of_mem _ hv))) hrep (hS.put w2 w3 hbo)
    rw [e3, e4] at g
    exact g
  have hlay := C.2.2.2.2.1 _ (lay_of ha hk1)
  unfold u_lay at hlay
  cases hfb : (clT a k).2.2.2 with
  | false =>
    rw [if_neg (by rw [hfb]; decide)] at hlay
    exact W.putK C.1 C.2.1 (f := f) ⟨C.2.2.2.1, C.2.2.2.2.1 _ hlink, ⟨_, _, _, f1⟩, f3⟩ (by rw [q2]; exact u_store f4 f5 f6 hlay f1 ht1 hnf.1 hnf.2) q1 q3 (by rw [f2]; exact k2_hasslot (q4 k hk1)) rfl rfl hd fin
  | true =>
    rw [if_pos hfb] at hlay
    obtain ⟨hy1, hoa⟩ : y.name = "<init>" ∧ own = a := by
      rcases hfin with u | u
      · rw [hfb] at u; cases u
      · exact u
    have hcf : m.cls = cf := by
      obtain ⟨_, _, c', _, _, _, -, -, hf', -, -, -, hown2, -⟩ := Cond.laysFinal_spec hlay
      have e9 : c' = cf := by have := f1.symm.trans hf'; simp at this; exact this.1.symm
      rw [hcn] at hown2
      rw [← e9]
      have h8 := C.2.2.2.1
      rw [hoa] at h8
      exact Option.some.inj (h8.symm.trans hown2)
    exact W.putFinK C.1 C.2.1 C.2.2.2.1 (C.2.2.2.2.1 _ hlink) f1 f3 hcf ((C.2.2.2.2.2.2.2.1 hy1).trans hy1) (by rw [q2]; exact u_fits f4 f5 f6 (Or.inr hlay) f1 ht1 hnf.1 hnf.2) q1 q3 (by rw [f2]; exact k2_hasslot (q4 k hk1)) rfl rfl hd fin
theorem sim_laload (C : Ctx p R s m args meth c base nL z0 s0 zE sE H0 own y ret cc d) (hK : ∀ pc ls st h, K pc ls st h → hz h ≤ zE ∧ hs h ≤ sE ∧ Sim p l e R s m args below meth c Q D base adK adV nL z0 s0 zE sE H0 pc ls st h) (hc : echk own y ret nL cc (pc, .laload, nx, a, k, q, z) = true) (hst : ∃ i o s, st = aI i :: aO (some o) :: s ∧ (hT h o).1 = 2 ∧ 0 ≤ i ∧ i < (hT h o).2 ∧ K nx ls (aJ (hV h o i.toNat) :: s) h) : Sim p l e R s m args below meth c Q D base adK adV nL z0 s0 zE sE H0 pc ls st h := by
  simp only [echk, Bool.and_eq_true, Bool.or_eq_true, decide_eq_true_eq, and_true, Bool.not_eq_true'] at hc
  try simp only [ilen] at hc
  obtain ⟨⟨hd, hlt⟩, rfl⟩ := hc
  rw [Nat.add_sub_cancel_left] at hd
  obtain ⟨i, o, s1, rfl, hto, hi0, hi1, hk⟩ := hst
  obtain ⟨g1, g2, g3⟩ := hK _ _ _ _ hk
  intro hb4 lsC H locs hl hlo hso hRp hS
  have hI : r32 i := hso (aI i) List.mem_cons_self
  have hin : i.toNat < (hT h o).2 := by omega
  obtain ⟨b1, b2, ⟨cA, b3, b4, b5⟩, b6⟩ := (hRp.1 o).1 (by omega) (by omega)
  rw [hto] at b3 b4 b6
  refine W.lald (v := .long (Int64.ofInt (hV h o i.toNat))) C.1 C.2.1 b3 (b4 _ _) (fun u => by cases u) (by rw [arrV_size, i32_clamp hi0 hI]; exact fun u => u.elim (i32_nonneg hi0 hI) (by omega)) (by rw [i32_clamp hi0 hI, arrV_read _ _ hin]; rfl) rfl rfl hd ?_
  exact g3 hb4 lsC H locs hl hlo (fun v hv => by
    rcases List.mem_cons.mp hv with rfl | hv
    · exact (b6 _ hin : arrVok 2 _)
    · exact hso v (List.mem_cons_of_mem _ (List.mem_cons_of_mem _ hv))) hRp hS
theorem sim_baload (C : Ctx p R s m args meth c base nL z0 s0 zE sE H0 own y ret cc d) (hK : ∀ pc ls st h, K pc ls st h → hz h ≤ zE ∧ hs h ≤ sE ∧ Sim p l e R s m args below meth c Q D base adK adV nL z0 s0 zE sE H0 pc ls st h) (hc : echk own y ret nL cc (pc, .baload, nx, a, k, q, z) = true) (hst : ∃ i o s, st = aI i :: aO (some o) :: s ∧ (hT h o).1 = 3 ∧ 0 ≤ i ∧ i < (hT h o).2 ∧ K nx ls (aI (hV h o i.toNat) :: s) h) : Sim p l e R s m args below meth c Q D base adK adV nL z0 s0 zE sE H0 pc ls st h := by
  simp only [echk, Bool.and_eq_true, Bool.or_eq_true, decide_eq_true_eq, and_true, Bool.not_eq_true'] at hc
  try simp only [ilen] at hc
  obtain ⟨⟨hd, hlt⟩, rfl⟩ := hc
  rw [Nat.add_sub_cancel_left] at hd
  obtain ⟨i, o, s1, rfl, hto, hi0, hi1, hk⟩ := hst
  obtain ⟨g1, g2, g3⟩ := hK _ _ _ _ hk
  intro hb4 lsC H locs hl hlo hso hRp hS
  have hI : r32 i := hso (aI i) List.mem_cons_self
  have hin : i.toNat < (hT h o).2 := by omega
  obtain ⟨b1, b2, ⟨cA, b3, b4, b5⟩, b6⟩ := (hRp.1 o).1 (by omega) (by omega)
  rw [hto] at b3 b4 b6
  refine W.zald (v := .int (Int32.ofInt (hV h o i.toNat))) C.1 C.2.1 b3 (b4 _ _) (fun u => by cases u) (by rw [arrV_size, i32_clamp hi0 hI]; exact fun u => u.elim (i32_nonneg hi0 hI) (by omega)) (by rw [i32_clamp hi0 hI, arrV_read _ _ hin]; rfl) rfl rfl hd ?_
  have b7 : hV h o i.toNat = 0 ∨ hV h o i.toNat = 1 := b6 _ hin
  exact g3 hb4 lsC H locs hl hlo (fun v hv => by
    rcases List.mem_cons.mp hv with rfl | hv
    · exact (show r32 _ by rcases b7 with u | u <;> rw [u] <;> (unfold r32; decide))
    · exact hso v (List.mem_cons_of_mem _ (List.mem_cons_of_mem _ hv))) hRp hS
theorem sim_iaload (C : Ctx p R s m args meth c base nL z0 s0 zE sE H0 own y ret cc d) (hK : ∀ pc ls st h, K pc ls st h → hz h ≤ zE ∧ hs h ≤ sE ∧ Sim p l e R s m args below meth c Q D base adK adV nL z0 s0 zE sE H0 pc ls st h) (hc : echk own y ret nL cc (pc, .iaload, nx, a, k, q, z) = true) (hst : ∃ i o s, st = aI i :: aO (some o) :: s ∧ ((hT h o).1 = 1 ∨ (hT h o).1 = 6) ∧ 0 ≤ i ∧ i < (hT h o).2 ∧ K nx ls (aI (hV h o i.toNat) :: s) h) : Sim p l e R s m args below meth c Q D base adK adV nL z0 s0 zE sE H0 pc ls st h := by
  simp only [echk, Bool.and_eq_true, Bool.or_eq_true, decide_eq_true_eq, and_true, Bool.not_eq_true'] at hc
  try simp only [ilen] at hc
  obtain ⟨⟨hd, hlt⟩, rfl⟩ := hc
  rw [Nat.add_sub_cancel_left] at hd
  obtain ⟨i, o, s1, rfl, hto, hi0, hi1, hk⟩ := hst
  obtain ⟨g1, g2, g3⟩ := hK _ _ _ _ hk
  intro hb4 lsC H locs hl hlo hso hRp hS
  have hI : r32 i := hso (aI i) List.mem_cons_self
  have hin : i.toNat < (hT h o).2 := by omega
  rcases hto with hto | hto
  · obtain ⟨b1, b2, ⟨cA, b3, b4, b5⟩, b6⟩ := (hRp.1 o).1 (by omega) (by omega)
    rw [hto] at b3 b4 b6
    refine W.iald (v := .int (Int32.ofInt (hV h o i.toNat))) C.1 C.2.1 b3 (b4 _ _) (fun u => by cases u) (by rw [arrV_size, i32_clamp hi0 hI]; exact fun u => u.elim (i32_nonneg hi0 hI) (by omega)) (by rw [i32_clamp hi0 hI, arrV_read _ _ hin]; rfl) rfl rfl hd ?_
    exact g3 hb4 lsC H locs hl hlo (fun v hv => by
      rcases List.mem_cons.mp hv with rfl | hv
      · exact (b6 _ hin : arrVok 1 _)
      · exact hso v (List.mem_cons_of_mem _ (List.mem_cons_of_mem _ hv))) hRp hS
  · obtain ⟨b1, b2, ⟨scr, b3, b4, b5, b6, b7⟩, b8⟩ := (hRp.1 o).2.1 hto
    refine W.iald (v := .int (Int32.ofInt (hV h o i.toNat))) C.1 C.2.1 b3 b4 b5 (by rw [b6, i32_clamp hi0 hI]; exact fun u => u.elim (i32_nonneg hi0 hI) (by omega)) (by rw [i32_clamp hi0 hI]; exact b7 _ hin) rfl rfl hd ?_
    exact g3 hb4 lsC H locs hl hlo (fun v hv => by
      rcases List.mem_cons.mp hv with rfl | hv
      · exact b8 _ hin
      · exact hso v (List.mem_cons_of_mem _ (List.mem_cons_of_mem _ hv))) hRp hS
theorem sim_aaload (C : Ctx p R s m args meth c base nL z0 s0 zE sE H0 own y ret cc d) (hK : ∀ pc ls st h, K pc ls st h → hz h ≤ zE ∧ hs h ≤ sE ∧ Sim p l e R s m args below meth c Q D base adK adV nL z0 s0 zE sE H0 pc ls st h) (hc : echk own y ret nL cc (pc, .aaload, nx, a, k, q, z) = true) (hst : ∃ i o s, st = aI i :: aO (some o) :: s ∧ ((hT h o).1 = 4 ∨ (hT h o).1 = 5) ∧ 0 ≤ i ∧ i < (hT h o).2 ∧ K nx ls (aO (hR h o i.toNat) :: s) h) : Sim p l e R s m args below meth c Q D base adK adV nL z0 s0 zE sE H0 pc ls st h := by
  simp only [echk, Bool.and_eq_true, Bool.or_eq_true, decide_eq_true_eq, and_true, Bool.not_eq_true'] at hc
  try simp only [ilen] at hc
  obtain ⟨⟨hd, hlt⟩, rfl⟩ := hc
  rw [Nat.add_sub_cancel_left] at hd
  obtain ⟨i, o, s1, rfl, hto, hi0, hi1, hk⟩ := hst
  obtain ⟨g1, g2, g3⟩ := hK _ _ _ _ hk
  intro hb4 lsC H locs hl hlo hso hRp hS
  have hI : r32 i := hso (aI i) List.mem_cons_self
  have hin : i.toNat < (hT h o).2 := by omega
  obtain ⟨b1, b2, ⟨cA, b3, b4, b5⟩, b6⟩ := (hRp.1 o).1 (by omega) (by omega)
  have hf : arrF (hT h o).1 h o i.toNat = cval (aO (hR h o i.toNat)) := by
    rcases hto with u | u <;> rw [u] <;> (unfold arrF; rw [if_neg (by decide), if_pos (by decide)]; cases hR h o i.toNat <;> rfl)
  have ht : (arrTy (hT h o).1).isReference = true := by rcases hto with u | u <;> rw [u] <;> rfl
  refine W.aald (v := cval (aO (hR h o i.toNat))) C.1 C.2.1 b3 (b4 _ _) ht (fun u => by cases u) (by rw [arrV_size, i32_clamp hi0 hI]; exact fun u => u.elim (i32_nonneg hi0 hI) (by omega)) (by rw [i32_clamp hi0 hI, arrV_read _ _ hin, hf]) rfl rfl hd ?_
  exact g3 hb4 lsC H locs hl hlo (fun v hv => by
    rcases List.mem_cons.mp hv with rfl | hv
    · exact trivial
    · exact hso v (List.mem_cons_of_mem _ (List.mem_cons_of_mem _ hv))) hRp hS
theorem sim_arraylength (C : Ctx p R s m args meth c base nL z0 s0 zE sE H0 own y ret cc d) (hK : ∀ pc ls st h, K pc ls st h → hz h ≤ zE ∧ hs h ≤ sE ∧ Sim p l e R s m args below meth c Q D base adK adV nL z0 s0 zE sE H0 pc ls st h) (hc : echk own y ret nL cc (pc, .arraylength, nx, a, k, q, z) = true) (hst : ∃ o s, st = aO (some o) :: s ∧ 1 ≤ (hT h o).1 ∧ (hT h o).1 ≤ 6 ∧ K nx ls (aI (hT h o).2 :: s) h) : Sim p l e R s m args below meth c Q D base adK adV nL z0 s0 zE sE H0 pc ls st h := by
  simp only [echk, Bool.and_eq_true, Bool.or_eq_true, decide_eq_true_eq, and_true, Bool.not_eq_true'] at hc
  try simp only [ilen] at hc
  obtain ⟨⟨hd, hlt⟩, rfl⟩ := hc
  rw [Nat.add_sub_cancel_left] at hd
  obtain ⟨o, s1, rfl, ht1, ht2, hk⟩ := hst
  obtain ⟨g1, g2, g3⟩ := hK _ _ _ _ hk
  intro hb4 lsC H locs hl hlo hso hRp hS
  have key : ∃ (cell : Cell) (ty : FieldType), H[o]? = some cell ∧ s.isArrayOf cell ty ∧ cell.slots.size = (hT h o).2 ∧ (hT h o).2 ≤ 1000000 := by
    by_cases h6 : (hT h o).1 = 6
    · obtain ⟨b1, b2, ⟨scr, b3, b4, b5, b6, b7⟩, b8⟩ := (hRp.1 o).2.1 h6
      exact ⟨scr, _, b3, b4, b6, b2⟩
    · obtain ⟨b1, b2, ⟨cA, b3, b4, b5⟩, b6⟩ := (hRp.1 o).1 ht1 (by omega)
      exact ⟨_, _, b3, b4 _ _, arrV_size _ _ _, b2⟩
  obtain ⟨cell, ty, k1, k2, k3, k4⟩ := key
  refine W.alen (n := Int32.ofInt ((hT h o).2 : Int)) C.1 C.2.1 k1 k2 (by rw [k3]; exact (Int32.ofInt_eq_ofNat).symm) rfl rfl hd ?_
  exact g3 hb4 lsC H locs hl hlo (fun v hv => by
    rcases List.mem_cons.mp hv with rfl | hv
    · exact (show r32 ((hT h o).2 : Int) by unfold r32; omega)
    · exact hso v (List.mem_cons_of_mem _ hv)) hRp hS
theorem sim_iastore (C : Ctx p R s m args meth c base nL z0 s0 zE sE H0 own y ret cc d) (hK : ∀ pc ls st h, K pc ls st h → hz h ≤ zE ∧ hs h ≤ sE ∧ Sim p l e R s m args below meth c Q D base adK adV nL z0 s0 zE sE H0 pc ls st h) (hc : echk own y ret nL cc (pc, .iastore, nx, a, k, q, z) = true) (hst : ∃ x i o s, st = aI x :: aI i :: aO (some o) :: s ∧ (hT h o).1 = 1 ∧ 0 ≤ i ∧ i < (hT h o).2 ∧ K nx ls s (hset h o i.toNat x)) : Sim p l e R s m args below meth c Q D base adK adV nL z0 s0 zE sE H0 pc ls st h := by
  simp only [echk, Bool.and_eq_true, Bool.or_eq_true, decide_eq_true_eq, and_true, Bool.not_eq_true'] at hc
  try simp only [ilen] at hc
  obtain ⟨⟨hd, hlt⟩, rfl⟩ := hc
  rw [Nat.add_sub_cancel_left] at hd
  obtain ⟨x, i, o, s1, rfl, hto, hi0, hi1, hk⟩ := hst
  obtain ⟨g1, g2, g3⟩ := hK _ _ _ _ hk
  intro hb4 lsC H locs hl hlo hso hRp hS
  have hI : r32 i := hso (aI i) (List.mem_cons_of_mem _ List.mem_cons_self)
  have hX : vok (aI x) := hso (aI x) List.mem_cons_self
  have hin : i.toNat < (hT h o).2 := by omega
  obtain ⟨b1, b2, ⟨cA, b3, b4, b5⟩, b6⟩ := (hRp.1 o).1 (by omega) (by omega)
  rw [hto] at b3 b4 b5 b6
  refine W.iast C.1 C.2.1 b3 (b4 _ _) (fun u => by cases u) (by rw [arrV_size, i32_clamp hi0 hI]; exact fun u => u.elim (i32_nonneg hi0 hI) (by omega)) rfl rfl hd (fun H' w1 w2 w3 => ?_)
  rw [i32_clamp hi0 hI, arrV_store] at w1
  have hf : updV (arrF 1 h o) i.toNat (.int (Int32.ofInt x)) = arrF 1 (hset h o i.toNat x) o := by
    funext j
    unfold updV arrF
    rw [hV_set, hR_set]
    by_cases hj : j = i.toNat
    · subst hj; simp
    · simp [hj]
  rw [hf] at w1
  have hrep : Rep D base adK adV s (hset h o i.toNat x) H' := by
    refine rep_upd hRp b1 (fun _ => rfl) (fun b hb j => by rw [hV_set, if_neg (fun u => hb u.1)]) (fun b hb j => rfl) rfl w2 w3 ?_
    unfold cellOk
    rw [hT_set, hto]
    refine ⟨fun _ _ => ⟨b1, b2, ⟨cA, w1, b4, b5⟩, fun j hj => ?_⟩, fun u1 => absurd u1 (by omega), fun u1 => absurd u1 (by omega), fun u1 => absurd u1 (by omega)⟩
    rw [hV_set]
    by_cases hj2 : j = i.toNat
    · rw [if_pos ⟨rfl, hj2⟩]; exact hX
    · rw [if_neg (fun u => hj2 u.2)]; exact b6 j hj
  exact g3 hb4 lsC H' _ hl hlo (fun v hv => hso v (List.mem_cons_of_mem _ (List.mem_cons_of_mem _ (List.mem_cons_of_mem _ hv)))) hrep (hS.put w2 w3 b1)
theorem sim_lastore (C : Ctx p R s m args meth c base nL z0 s0 zE sE H0 own y ret cc d) (hK : ∀ pc ls st h, K pc ls st h → hz h ≤ zE ∧ hs h ≤ sE ∧ Sim p l e R s m args below meth c Q D base adK adV nL z0 s0 zE sE H0 pc ls st h) (hc : echk own y ret nL cc (pc, .lastore, nx, a, k, q, z) = true) (hst : ∃ x i o s, st = aJ x :: aI i :: aO (some o) :: s ∧ (hT h o).1 = 2 ∧ 0 ≤ i ∧ i < (hT h o).2 ∧ K nx ls s (hset h o i.toNat x)) : Sim p l e R s m args below meth c Q D base adK adV nL z0 s0 zE sE H0 pc ls st h := by
  simp only [echk, Bool.and_eq_true, Bool.or_eq_true, decide_eq_true_eq, and_true, Bool.not_eq_true'] at hc
  try simp only [ilen] at hc
  obtain ⟨⟨hd, hlt⟩, rfl⟩ := hc
  rw [Nat.add_sub_cancel_left] at hd
  obtain ⟨x, i, o, s1, rfl, hto, hi0, hi1, hk⟩ := hst
  obtain ⟨g1, g2, g3⟩ := hK _ _ _ _ hk
  intro hb4 lsC H locs hl hlo hso hRp hS
  have hI : r32 i := hso (aI i) (List.mem_cons_of_mem _ List.mem_cons_self)
  have hX : vok (aJ x) := hso (aJ x) List.mem_cons_self
  have hin : i.toNat < (hT h o).2 := by omega
  obtain ⟨b1, b2, ⟨cA, b3, b4, b5⟩, b6⟩ := (hRp.1 o).1 (by omega) (by omega)
  rw [hto] at b3 b4 b5 b6
  refine W.last C.1 C.2.1 b3 (b4 _ _) (fun u => by cases u) (by rw [arrV_size, i32_clamp hi0 hI]; exact fun u => u.elim (i32_nonneg hi0 hI) (by omega)) rfl rfl hd (fun H' w1 w2 w3 => ?_)
  rw [i32_clamp hi0 hI, arrV_store] at w1
  have hf : updV (arrF 2 h o) i.toNat (.long (Int64.ofInt x)) = arrF 2 (hset h o i.toNat x) o := by
    funext j
    unfold updV arrF
    rw [hV_set, hR_set]
    by_cases hj : j = i.toNat
    · subst hj; simp
    · simp [hj]
  rw [hf] at w1
  have hrep : Rep D base adK adV s (hset h o i.toNat x) H' := by
    refine rep_upd hRp b1 (fun _ => rfl) (fun b hb j => by rw [hV_set, if_neg (fun u => hb u.1)]) (fun b hb j => rfl) rfl w2 w3 ?_
    unfold cellOk
    rw [hT_set, hto]
    refine ⟨fun _ _ => ⟨b1, b2, ⟨cA, w1, b4, b5⟩, fun j hj => ?_⟩, fun u1 => absurd u1 (by omega), fun u1 => absurd u1 (by omega), fun u1 => absurd u1 (by omega)⟩
    rw [hV_set]
    by_cases hj2 : j = i.toNat
    · rw [if_pos ⟨rfl, hj2⟩]; exact hX
    · rw [if_neg (fun u => hj2 u.2)]; exact b6 j hj
  exact g3 hb4 lsC H' _ hl hlo (fun v hv => hso v (List.mem_cons_of_mem _ (List.mem_cons_of_mem _ (List.mem_cons_of_mem _ hv)))) hrep (hS.put w2 w3 b1)
theorem sim_bastore (C : Ctx p R s m args meth c base nL z0 s0 zE sE H0 own y ret cc d) (hK : ∀ pc ls st h, K pc ls st h → hz h ≤ zE ∧ hs h ≤ sE ∧ Sim p l e R s m args below meth c Q D base adK adV nL z0 s0 zE sE H0 pc ls st h) (hc : echk own y ret nL cc (pc, .bastore, nx, a, k, q, z) = true) (hst : ∃ x i o s, st = aI x :: aI i :: aO (some o) :: s ∧ (hT h o).1 = 3 ∧ 0 ≤ i ∧ i < (hT h o).2 ∧ (x = 0 ∨ x = 1) ∧ K nx ls s (hset h o i.toNat x)) : Sim p l e R s m args below meth c Q D base adK adV nL z0 s0 zE sE H0 pc ls st h := by
  simp only [echk, Bool.and_eq_true, Bool.or_eq_true, decide_eq_true_eq, and_true, Bool.not_eq_true'] at hc
  try simp only [ilen] at hc
  obtain ⟨⟨hd, hlt⟩, rfl⟩ := hc
  rw [Nat.add_sub_cancel_left] at hd
  obtain ⟨x, i, o, s1, rfl, hto, hi0, hi1, hx01, hk⟩ := hst
  obtain ⟨g1, g2, g3⟩ := hK _ _ _ _ hk
  intro hb4 lsC H locs hl hlo hso hRp hS
  have hI : r32 i := hso (aI i) (List.mem_cons_of_mem _ List.mem_cons_self)
  have hX : vok (aI x) := hso (aI x) List.mem_cons_self
  have hin : i.toNat < (hT h o).2 := by omega
  obtain ⟨b1, b2, ⟨cA, b3, b4, b5⟩, b6⟩ := (hRp.1 o).1 (by omega) (by omega)
  rw [hto] at b3 b4 b5 b6
  refine W.zast C.1 C.2.1 b3 (b4 _ _) (fun u => by cases u) (by rw [arrV_size, i32_clamp hi0 hI]; exact fun u => u.elim (i32_nonneg hi0 hI) (by omega)) rfl rfl hd (fun H' w1 w2 w3 => ?_)
  rw [i32_clamp hi0 hI, narrow_b hx01, arrV_store] at w1
  have hf : updV (arrF 3 h o) i.toNat (.int (Int32.ofInt x)) = arrF 3 (hset h o i.toNat x) o := by
    funext j
    unfold updV arrF
    rw [hV_set, hR_set]
    by_cases hj : j = i.toNat
    · subst hj; simp
    · simp [hj]
  rw [hf] at w1
  have hrep : Rep D base adK adV s (hset h o i.toNat x) H' := by
    refine rep_upd hRp b1 (fun _ => rfl) (fun b hb j => by rw [hV_set, if_neg (fun u => hb u.1)]) (fun b hb j => rfl) rfl w2 w3 ?_
    unfold cellOk
    rw [hT_set, hto]
    refine ⟨fun _ _ => ⟨b1, b2, ⟨cA, w1, b4, b5⟩, fun j hj => ?_⟩, fun u1 => absurd u1 (by omega), fun u1 => absurd u1 (by omega), fun u1 => absurd u1 (by omega)⟩
    rw [hV_set]
    by_cases hj2 : j = i.toNat
    · rw [if_pos ⟨rfl, hj2⟩]; exact hx01
    · rw [if_neg (fun u => hj2 u.2)]; exact b6 j hj
  exact g3 hb4 lsC H' _ hl hlo (fun v hv => hso v (List.mem_cons_of_mem _ (List.mem_cons_of_mem _ (List.mem_cons_of_mem _ hv)))) hrep (hS.put w2 w3 b1)
theorem sim_aastore (C : Ctx p R s m args meth c base nL z0 s0 zE sE H0 own y ret cc d) (hK : ∀ pc ls st h, K pc ls st h → hz h ≤ zE ∧ hs h ≤ sE ∧ Sim p l e R s m args below meth c Q D base adK adV nL z0 s0 zE sE H0 pc ls st h) (hc : echk own y ret nL cc (pc, .aastore, nx, a, k, q, z) = true) (hst : ∃ v i o s, st = aO (some v) :: aI i :: aO (some o) :: s ∧ (((hT h o).1 = 4 ∧ (hT h v).1 = 20) ∨ ((hT h o).1 = 5 ∧ (hT h v).1 = 2)) ∧ 0 ≤ i ∧ i < (hT h o).2 ∧ K nx ls s (hput h o i.toNat (some v))) : Sim p l e R s m args below meth c Q D base adK adV nL z0 s0 zE sE H0 pc ls st h := by
  simp only [echk, Bool.and_eq_true, Bool.or_eq_true, decide_eq_true_eq, and_true, Bool.not_eq_true'] at hc
  try simp only [ilen] at hc
  obtain ⟨⟨hd, hlt⟩, rfl⟩ := hc
  rw [Nat.add_sub_cancel_left] at hd
  obtain ⟨v, i, o, s1, rfl, htv, hi0, hi1, hk⟩ := hst
  obtain ⟨g1, g2, g3⟩ := hK _ _ _ _ hk
  intro hb4 lsC H locs hl hlo hso hRp hS
  have hI : r32 i := hso (aI i) (List.mem_cons_of_mem _ List.mem_cons_self)
  have hin : i.toNat < (hT h o).2 := by omega
  have h45 : (hT h o).1 = 4 ∨ (hT h o).1 = 5 := htv.elim (fun u => Or.inl u.1) (fun u => Or.inr u.1)
  obtain ⟨b1, b2, ⟨cA, b3, b4, b5⟩, b6⟩ := (hRp.1 o).1 (by omega) (by omega)
  obtain ⟨kA, comp, t, kcomp, cv, kv, k1, k2, k3, k4, k5, k6, k7, k8⟩ : ∃ (kA : Class) (comp : ClassId) (t : FieldType) (kcomp : Class) (cv : Cell) (kv : Class), s.vm.classes[cA]? = some kA ∧ kA.kind = .array comp t ∧ t.isReference = true ∧ s.vm.classes[comp]? = some kcomp ∧ H[v]? = some cv ∧ (∀ u, cv.vm ≠ .statics u) ∧ s.vm.classes[cv.cls]? = some kv ∧ s.vm.assignable cv.cls comp = true := by
    rcases htv with ⟨u1, u2⟩ | ⟨u1, u2⟩
    · obtain ⟨kA, comp, x1, x2, x3⟩ := b5.2.1 u1
      obtain ⟨-, -, ⟨cell, q1, q2, q3, q4⟩, -⟩ := (hRp.1 v).2.2.2 (by omega)
      rw [u2] at q2
      obtain ⟨hfc, kC, hkC, hkind⟩ := (hRp.2.2.2.2.1.1 10 _ (vwcl_at (by decide))).2
      have e9 : comp = D.1 10 := Option.some.inj (x3.symm.trans hfc)
      subst e9
      exact ⟨kA, _, _, kC, cell, kC, x1, x2, rfl, hkC, q1, (fun u => by rw [q3]; exact fun w => by cases w), by rw [q2]; exact hkC, by rw [q2]; exact va_asg _ _⟩
    · obtain ⟨kA, comp, x1, x2, x3⟩ := b5.2.2 u1
      obtain ⟨-, -, ⟨cB, y1, y2, y3⟩, -⟩ := (hRp.1 v).1 (by omega) (by omega)
      have e9 : comp = cB := Option.some.inj (x3.symm.trans (y3.1 u2))
      subst e9
      obtain ⟨-, kB, hkB, -⟩ := y2 0 (fun _ => .null)
      exact ⟨kA, _, _, kB, _, kB, x1, x2, rfl, hkB, y1, (fun u w => by cases w), hkB, va_asg _ _⟩
  refine W.aast C.1 C.2.1 b3 (fun u w => by cases w) (fun u => by cases u) k1 k2 k3 k4 ⟨i32_nonneg hi0 hI, by rw [arrV_size, i32_clamp hi0 hI]; exact hin⟩ k5 k6 k7 k8 rfl rfl hd (fun H' w1 w2 w3 => ?_)
  rw [i32_clamp hi0 hI, arrV_store] at w1
  have hf : updV (arrF (hT h o).1 h o) i.toNat (.ref v) = arrF (hT h o).1 (hput h o i.toNat (some v)) o := by
    funext j
    unfold updV arrF
    rw [hV_put, hR_put]
    have h2 : ¬ (hT h o).1 = 2 := by omega
    by_cases hj : j = i.toNat
    · subst hj; simp [h45, h2, va_rf]
    · simp [hj]
  rw [hf] at w1
  have hrep : Rep D base adK adV s (hput h o i.toNat (some v)) H' := by
    refine rep_upd hRp b1 (fun _ => rfl) (fun b hb j => rfl) (fun b hb j => by rw [hR_put, if_neg (fun u => hb u.1)]) rfl w2 w3 ?_
    unfold cellOk
    rw [hT_put]
    exact ⟨fun _ _ => ⟨b1, b2, ⟨cA, w1, b4, b5⟩, b6⟩, fun u1 => absurd u1 (by omega), fun u1 => absurd u1 (by omega), fun u1 => absurd u1 (by omega)⟩
  exact g3 hb4 lsC H' _ hl hlo (fun v hv => hso v (List.mem_cons_of_mem _ (List.mem_cons_of_mem _ (List.mem_cons_of_mem _ hv)))) hrep (hS.put w2 w3 b1)
end SIM2
