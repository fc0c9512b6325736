/-! each instruction of the small machine, followed by the machine's own: printed by wip/whole/gensim.py -/
def Ctx (p : Program) (R : Room) (s : State) (m : MethodId) (args : Array Value) (meth : Method) (c : Code) (base nL z0 s0 zE sE : Nat) (H0 : Heap) (own : Nat) (y : MethodName) (ret : Option FieldType) (cc : ByteArray) (d : Nat) : Prop :=
  p.tables.exec = Jvm.exec ∧ c.code = cc ∧ c.maxLocals = nL ∧ s.vm.findClass (cn own) = some m.cls ∧ (∀ w ∈ WALL, w.before args s = true) ∧ meth.sig.returnType = ret ∧ meth.locks = false ∧ (y.name = "<init>" → meth.name = y.name) ∧ (zE - z0 ≤ R.cells ∧ sE - s0 ≤ R.slots) ∧ (d + 5 ≤ R.frames ∧ 80 * (d + 5) ≤ R.locals) ∧ base ≤ H0.size ∧ nL ≤ 60
def Sim (p : Program) (l : Launch) (e : Env) (R : Room) (s : State) (m : MethodId) (args : Array Value) (below : List Frame) (meth : Method) (c : Code) (Q : State → Prop) (D : va_G) (base : Nat) (adK adV : Nat → Nat) (nL z0 s0 zE sE : Nat) (H0 : Heap) (pc : Nat) (ls : aLs) (st : List aV) (h : aH) : Prop :=
  (z0 ≤ hz h ∧ s0 ≤ hs h) → ∀ (lsC : Array Slot) (H : Heap) (locs : List Loc), lv_has lsC nL (ls.map fun q => (q.1, cval q.2)) → (∀ q ∈ ls, vok q.2) → (∀ v ∈ st, vok v) → Rep D base adK adV s h H → va_S (aA base) H0 H locs →
    W p l e R s m args below meth c H locs (hz h - z0) (hs h - s0) Q (F0 m pc lsC (st.map cval))
theorem lget_at {ls : aLs} {i : Nat} {v : aV} (h : lget ls i = some v) : ∃ k : Nat, ls[k]? = some (i, v) := by
  induction ls with
  | nil => cases h
  | cons q t ih =>
    unfold lget at h
    cases e : (q.1 == i) with
    | true =>
      rw [e] at h
      refine ⟨0, ?_⟩
      have e1 : q.1 = i := by simpa using e
      have e2 : q.2 = v := Option.some.inj h
      simp [← e1, ← e2]
    | false =>
      rw [e] at h
      obtain ⟨k, hk⟩ := ih h
      exact ⟨k + 1, by simpa using hk⟩
theorem lget_has {lsC : Array Slot} {nL : Nat} {ls : aLs} {i : Nat} {v : aV} (hl : lv_has lsC nL (ls.map fun q => (q.1, cval q.2))) (h : lget ls i = some v) : lsC[i]? = some (.val (cval v)) := by
  obtain ⟨k, hk⟩ := lget_at h
  exact hl.2.2 (i, cval v) (List.mem_of_getElem? (i := k) (by rw [List.getElem?_map, hk]; rfl))
theorem lget_ok {ls : aLs} {i : Nat} {v : aV} (hlo : ∀ q ∈ ls, vok q.2) (h : lget ls i = some v) : vok v := by
  obtain ⟨k, hk⟩ := lget_at h
  exact hlo (i, v) (List.mem_of_getElem? hk)
theorem lput1_map (ls : aLs) (i : Nat) (v : aV) : (i, cval v) :: (ls.map fun q => (q.1, cval q.2)).filter (fun q => !(q.1 == i) && !(q.1 + 1 == i && q.2.category == 2)) = (lput1 ls i v).map fun q => (q.1, cval q.2) := by
  unfold lput1
  rw [List.map_cons, List.filter_map]
  congr 2
  apply List.filter_congr
  intro q _
  simp only [Function.comp, cat_c]
theorem lput2_map (ls : aLs) (i : Nat) (v : aV) : (i, cval v) :: (ls.map fun q => (q.1, cval q.2)).filter (fun q => !(q.1 == i) && (!(q.1 == i + 1) && !(q.1 + 1 == i && q.2.category == 2))) = (lput2 ls i v).map fun q => (q.1, cval q.2) := by
  unfold lput2
  rw [List.map_cons, List.filter_map]
  congr 2
  apply List.filter_congr
  intro q _
  simp only [Function.comp, cat_c]
theorem lput1_ok {ls : aLs} {i : Nat} {v : aV} (hlo : ∀ q ∈ ls, vok q.2) (hv : vok v) : ∀ q ∈ lput1 ls i v, vok q.2 := by
  intro q hq
  rcases List.mem_cons.mp hq with rfl | hq
  · exact hv
  · exact hlo q (List.mem_filter.mp hq).1
theorem lput2_ok {ls : aLs} {i : Nat} {v : aV} (hlo : ∀ q ∈ ls, vok q.2) (hv : vok v) : ∀ q ∈ lput2 ls i v, vok q.2 := by
  intro q hq
  rcases List.mem_cons.mp hq with rfl | hq
  · exact hv
  · exact hlo q (List.mem_filter.mp hq).1
theorem i8_of {n : Int} (h1 : -128 ≤ n) (h2 : n < 128) : (Int8.ofInt n).toInt32 = Int32.ofInt n := by
  rw [← Int32.toInt_inj, Int8.toInt_toInt32, Int8.toInt_ofInt_of_le (by omega) (by omega), i32_to ⟨by omega, by omega⟩]
theorem i16_of {n : Int} (h1 : -32768 ≤ n) (h2 : n < 32768) : (Int16.ofInt n).toInt32 = Int32.ofInt n := by
  rw [← Int32.toInt_inj, Int16.toInt_toInt32, Int16.toInt_ofInt_of_le (by omega) (by omega), i32_to ⟨by omega, by omega⟩]
theorem i32_le {x y : Int} (hx : r32 x) (hy : r32 y) : Int32.ofInt y ≤ Int32.ofInt x ↔ ¬ x < y := by
  rw [Int32.le_iff_toInt_le, i32_to hx, i32_to hy]; omega
theorem i32_lt0 {x : Int} (hx : r32 x) : Int32.ofInt x < 0 ↔ x < 0 := by rw [← i32_0, i32_lt hx r32_0]
theorem i32_gt0 {x : Int} (hx : r32 x) : 0 < Int32.ofInt x ↔ 0 < x := by rw [← i32_0, i32_lt r32_0 hx]
theorem i32_eq0 {x : Int} (hx : r32 x) : Int32.ofInt x = 0 ↔ x = 0 := by rw [← i32_0, i32_inj hx r32_0]
theorem i32_le0 {x : Int} (hx : r32 x) : Int32.ofInt x ≤ 0 ↔ ¬ 0 < x := by rw [← i32_0, i32_le r32_0 hx]
theorem i32_ge0 {x : Int} (hx : r32 x) : 0 ≤ Int32.ofInt x ↔ ¬ x < 0 := by rw [← i32_0, i32_le hx r32_0]
section SIM
variable {p : Program} {l : Launch} {e : Env} {R : Room} {s : State} {m : MethodId} {args : Array Value} {below : List Frame} {meth : Method} {c : Code} {Q : State → Prop} {D : va_G} {base : Nat} {adK adV : Nat → Nat} {nL z0 s0 zE sE : Nat} {H0 : Heap} {own : Nat} {y : MethodName} {ret : Option FieldType} {cc : ByteArray} {d : Nat} {K : Nat → aLs → List aV → aH → Prop} {pc nx a k q : Nat} {z : Int} {ls : aLs} {st : List aV} {h : aH}
theorem sim_iadd (C : Ctx p R s m args meth c base nL z0 s0 zE sE H0 own y ret cc d) (hK : ∀ pc ls st h, K pc ls st h → hz h ≤ zE ∧ hs h ≤ sE ∧ Sim p l e R s m args below meth c Q D base adK adV nL z0 s0 zE sE H0 pc ls st h) (hc : echk own y ret nL cc (pc, .iadd, nx, a, k, q, z) = true) (hst : ∃ Y X s, st = aI Y :: aI X :: s ∧ K nx ls (aI (w32 (X + Y)) :: s) h) : Sim p l e R s m args below meth c Q D base adK adV nL z0 s0 zE sE H0 pc ls st h := by
  simp only [echk, Bool.and_eq_true, Bool.or_eq_true, decide_eq_true_eq, and_true, Bool.not_eq_true'] at hc
  try simp only [ilen] at hc
  obtain ⟨⟨hd, hlt⟩, rfl⟩ := hc
  rw [Nat.add_sub_cancel_left] at hd
  obtain ⟨Y, X, s1, rfl, hk⟩ := hst
  obtain ⟨g1, g2, g3⟩ := hK _ _ _ _ hk
  intro hb4 lsC H locs hl hlo hso hRp hS
  have hY : r32 Y := hso (aI Y) List.mem_cons_self
  have hX : r32 X := hso (aI X) (List.mem_cons_of_mem _ List.mem_cons_self)
  refine lv_iadd C.1 C.2.1 hd ?_
  rw [i32_add]
  exact g3 hb4 lsC H locs hl hlo (fun v hv => by
    rcases List.mem_cons.mp hv with rfl | hv
    · exact r32_w _
    · exact hso v (List.mem_cons_of_mem _ (List.mem_cons_of_mem _ hv))) hRp hS
theorem sim_isub (C : Ctx p R s m args meth c base nL z0 s0 zE sE H0 own y ret cc d) (hK : ∀ pc ls st h, K pc ls st h → hz h ≤ zE ∧ hs h ≤ sE ∧ Sim p l e R s m args below meth c Q D base adK adV nL z0 s0 zE sE H0 pc ls st h) (hc : echk own y ret nL cc (pc, .isub, nx, a, k, q, z) = true) (hst : ∃ Y X s, st = aI Y :: aI X :: s ∧ K nx ls (aI (w32 (X - Y)) :: s) h) : Sim p l e R s m args below meth c Q D base adK adV nL z0 s0 zE sE H0 pc ls st h := by
  simp only [echk, Bool.and_eq_true, Bool.or_eq_true, decide_eq_true_eq, and_true, Bool.not_eq_true'] at hc
  try simp only [ilen] at hc
  obtain ⟨⟨hd, hlt⟩, rfl⟩ := hc
  rw [Nat.add_sub_cancel_left] at hd
  obtain ⟨Y, X, s1, rfl, hk⟩ := hst
  obtain ⟨g1, g2, g3⟩ := hK _ _ _ _ hk
  intro hb4 lsC H locs hl hlo hso hRp hS
  have hY : r32 Y := hso (aI Y) List.mem_cons_self
  have hX : r32 X := hso (aI X) (List.mem_cons_of_mem _ List.mem_cons_self)
  refine lv_isub C.1 C.2.1 hd ?_
  rw [i32_sub]
  exact g3 hb4 lsC H locs hl hlo (fun v hv => by
    rcases List.mem_cons.mp hv with rfl | hv
    · exact r32_w _
    · exact hso v (List.mem_cons_of_mem _ (List.mem_cons_of_mem _ hv))) hRp hS
theorem sim_imul (C : Ctx p R s m args meth c base nL z0 s0 zE sE H0 own y ret cc d) (hK : ∀ pc ls st h, K pc ls st h → hz h ≤ zE ∧ hs h ≤ sE ∧ Sim p l e R s m args below meth c Q D base adK adV nL z0 s0 zE sE H0 pc ls st h) (hc : echk own y ret nL cc (pc, .imul, nx, a, k, q, z) = true) (hst : ∃ Y X s, st = aI Y :: aI X :: s ∧ K nx ls (aI (w32 (X * Y)) :: s) h) : Sim p l e R s m args below meth c Q D base adK adV nL z0 s0 zE sE H0 pc ls st h := by
  simp only [echk, Bool.and_eq_true, Bool.or_eq_true, decide_eq_true_eq, and_true, Bool.not_eq_true'] at hc
  try simp only [ilen] at hc
  obtain ⟨⟨hd, hlt⟩, rfl⟩ := hc
  rw [Nat.add_sub_cancel_left] at hd
  obtain ⟨Y, X, s1, rfl, hk⟩ := hst
  obtain ⟨g1, g2, g3⟩ := hK _ _ _ _ hk
  intro hb4 lsC H locs hl hlo hso hRp hS
  have hY : r32 Y := hso (aI Y) List.mem_cons_self
  have hX : r32 X := hso (aI X) (List.mem_cons_of_mem _ List.mem_cons_self)
  refine lv_imul C.1 C.2.1 hd ?_
  rw [i32_mul]
  exact g3 hb4 lsC H locs hl hlo (fun v hv => by
    rcases List.mem_cons.mp hv with rfl | hv
    · exact r32_w _
    · exact hso v (List.mem_cons_of_mem _ (List.mem_cons_of_mem _ hv))) hRp hS
theorem sim_iand (C : Ctx p R s m args meth c base nL z0 s0 zE sE H0 own y ret cc d) (hK : ∀ pc ls st h, K pc ls st h → hz h ≤ zE ∧ hs h ≤ sE ∧ Sim p l e R s m args below meth c Q D base adK adV nL z0 s0 zE sE H0 pc ls st h) (hc : echk own y ret nL cc (pc, .iand, nx, a, k, q, z) = true) (hst : ∃ Y X s, st = aI Y :: aI X :: s ∧ K nx ls (aI (iand X Y) :: s) h) : Sim p l e R s m args below meth c Q D base adK adV nL z0 s0 zE sE H0 pc ls st h := by
  simp only [echk, Bool.and_eq_true, Bool.or_eq_true, decide_eq_true_eq, and_true, Bool.not_eq_true'] at hc
  try simp only [ilen] at hc
  obtain ⟨⟨hd, hlt⟩, rfl⟩ := hc
  rw [Nat.add_sub_cancel_left] at hd
  obtain ⟨Y, X, s1, rfl, hk⟩ := hst
  obtain ⟨g1, g2, g3⟩ := hK _ _ _ _ hk
  intro hb4 lsC H locs hl hlo hso hRp hS
  have hY : r32 Y := hso (aI Y) List.mem_cons_self
  have hX : r32 X := hso (aI X) (List.mem_cons_of_mem _ List.mem_cons_self)
  refine lv_iand C.1 C.2.1 hd ?_
  rw [i32_and]
  exact g3 hb4 lsC H locs hl hlo (fun v hv => by
    rcases List.mem_cons.mp hv with rfl | hv
    · exact r32_to _
    · exact hso v (List.mem_cons_of_mem _ (List.mem_cons_of_mem _ hv))) hRp hS
theorem sim_ior (C : Ctx p R s m args meth c base nL z0 s0 zE sE H0 own y ret cc d) (hK : ∀ pc ls st h, K pc ls st h → hz h ≤ zE ∧ hs h ≤ sE ∧ Sim p l e R s m args below meth c Q D base adK adV nL z0 s0 zE sE H0 pc ls st h) (hc : echk own y ret nL cc (pc, .ior, nx, a, k, q, z) = true) (hst : ∃ Y X s, st = aI Y :: aI X :: s ∧ K nx ls (aI (ior X Y) :: s) h) : Sim p l e R s m args below meth c Q D base adK adV nL z0 s0 zE sE H0 pc ls st h := by
  simp only [echk, Bool.and_eq_true, Bool.or_eq_true, decide_eq_true_eq, and_true, Bool.not_eq_true'] at hc
  try simp only [ilen] at hc
  obtain ⟨⟨hd, hlt⟩, rfl⟩ := hc
  rw [Nat.add_sub_cancel_left] at hd
  obtain ⟨Y, X, s1, rfl, hk⟩ := hst
  obtain ⟨g1, g2, g3⟩ := hK _ _ _ _ hk
  intro hb4 lsC H locs hl hlo hso hRp hS
  have hY : r32 Y := hso (aI Y) List.mem_cons_self
  have hX : r32 X := hso (aI X) (List.mem_cons_of_mem _ List.mem_cons_self)
  refine lv_ior C.1 C.2.1 hd ?_
  rw [i32_or]
  exact g3 hb4 lsC H locs hl hlo (fun v hv => by
    rcases List.mem_cons.mp hv with rfl | hv
    · exact r32_to _
    · exact hso v (List.mem_cons_of_mem _ (List.mem_cons_of_mem _ hv))) hRp hS
theorem sim_ixor (C : Ctx p R s m args meth c base nL z0 s0 zE sE H0 own y ret cc d) (hK : ∀ pc ls st h, K pc ls st h → hz h ≤ zE ∧ hs h ≤ sE ∧ Sim p l e R s m args below meth c Q D base adK adV nL z0 s0 zE sE H0 pc ls st h) (hc : echk own y ret nL cc (pc, .ixor, nx, a, k, q, z) = true) (hst : ∃ Y X s, st = aI Y :: aI X :: s ∧ K nx ls (aI (ixor X Y) :: s) h) : Sim p l e R s m args below meth c Q D base adK adV nL z0 s0 zE sE H0 pc ls st h := by
  simp only [echk, Bool.and_eq_true, Bool.or_eq_true, decide_eq_true_eq, and_true, Bool.not_eq_true'] at hc
  try simp only [ilen] at hc
  obtain ⟨⟨hd, hlt⟩, rfl⟩ := hc
  rw [Nat.add_sub_cancel_left] at hd
  obtain ⟨Y, X, s1, rfl, hk⟩ := hst
  obtain ⟨g1, g2, g3⟩ := hK _ _ _ _ hk
  intro hb4 lsC H locs hl hlo hso hRp hS
  have hY : r32 Y := hso (aI Y) List.mem_cons_self
  have hX : r32 X := hso (aI X) (List.mem_cons_of_mem _ List.mem_cons_self)
  refine lv_ixor C.1 C.2.1 hd ?_
  rw [i32_xor]
  exact g3 hb4 lsC H locs hl hlo (fun v hv => by
    rcases List.mem_cons.mp hv with rfl | hv
    · exact r32_to _
    · exact hso v (List.mem_cons_of_mem _ (List.mem_cons_of_mem _ hv))) hRp hS
theorem sim_ishl (C : Ctx p R s m args meth c base nL z0 s0 zE sE H0 own y ret cc d) (hK : ∀ pc ls st h, K pc ls st h → hz h ≤ zE ∧ hs h ≤ sE ∧ Sim p l e R s m args below meth c Q D base adK adV nL z0 s0 zE sE H0 pc ls st h) (hc : echk own y ret nL cc (pc, .ishl, nx, a, k, q, z) = true) (hst : ∃ Y X s, st = aI Y :: aI X :: s ∧ K nx ls (aI (ishl X Y) :: s) h) : Sim p l e R s m args below meth c Q D base adK adV nL z0 s0 zE sE H0 pc ls st h := by
  simp only [echk, Bool.and_eq_true, Bool.or_eq_true, decide_eq_true_eq, and_true, Bool.not_eq_true'] at hc
  try simp only [ilen] at hc
  obtain ⟨⟨hd, hlt⟩, rfl⟩ := hc
  rw [Nat.add_sub_cancel_left] at hd
  obtain ⟨Y, X, s1, rfl, hk⟩ := hst
  obtain ⟨g1, g2, g3⟩ := hK _ _ _ _ hk
  intro hb4 lsC H locs hl hlo hso hRp hS
  have hY : r32 Y := hso (aI Y) List.mem_cons_self
  have hX : r32 X := hso (aI X) (List.mem_cons_of_mem _ List.mem_cons_self)
  refine lv_ishl C.1 C.2.1 hd ?_
  rw [i32_shl]
  exact g3 hb4 lsC H locs hl hlo (fun v hv => by
    rcases List.mem_cons.mp hv with rfl | hv
    · exact r32_w _
    · exact hso v (List.mem_cons_of_mem _ (List.mem_cons_of_mem _ hv))) hRp hS
theorem sim_ishr (C : Ctx p R s m args meth c base nL z0 s0 zE sE H0 own y ret cc d) (hK : ∀ pc ls st h, K pc ls st h → hz h ≤ zE ∧ hs h ≤ sE ∧ Sim p l e R s m args below meth c Q D base adK adV nL z0 s0 zE sE H0 pc ls st h) (hc : echk own y ret nL cc (pc, .ishr, nx, a, k, q, z) = true) (hst : ∃ Y X s, st = aI Y :: aI X :: s ∧ K nx ls (aI (ishr X Y) :: s) h) : Sim p l e R s m args below meth c Q D base adK adV nL z0 s0 zE sE H0 pc ls st h := by
  simp only [echk, Bool.and_eq_true, Bool.or_eq_true, decide_eq_true_eq, and_true, Bool.not_eq_true'] at hc
  try simp only [ilen] at hc
  obtain ⟨⟨hd, hlt⟩, rfl⟩ := hc
  rw [Nat.add_sub_cancel_left] at hd
  obtain ⟨Y, X, s1, rfl, hk⟩ := hst
  obtain ⟨g1, g2, g3⟩ := hK _ _ _ _ hk
  intro hb4 lsC H locs hl hlo hso hRp hS
  have hY : r32 Y := hso (aI Y) List.mem_cons_self
  have hX : r32 X := hso (aI X) (List.mem_cons_of_mem _ List.mem_cons_self)
  refine lv_ishr C.1 C.2.1 hd ?_
  rw [i32_shr hX]
  exact g3 hb4 lsC H locs hl hlo (fun v hv => by
    rcases List.mem_cons.mp hv with rfl | hv
    · exact r32_shr hX _
    · exact hso v (List.mem_cons_of_mem _ (List.mem_cons_of_mem _ hv))) hRp hS
theorem sim_iushr (C : Ctx p R s m args meth c base nL z0 s0 zE sE H0 own y ret cc d) (hK : ∀ pc ls st h, K pc ls st h → hz h ≤ zE ∧ hs h ≤ sE ∧ Sim p l e R s m args below meth c Q D base adK adV nL z0 s0 zE sE H0 pc ls st h) (hc : echk own y ret nL cc (pc, .iushr, nx, a, k, q, z) = true) (hst : ∃ Y X s, st = aI Y :: aI X :: s ∧ K nx ls (aI (iushr X Y) :: s) h) : Sim p l e R s m args below meth c Q D base adK adV nL z0 s0 zE sE H0 pc ls st h := by
  simp only [echk, Bool.and_eq_true, Bool.or_eq_true, decide_eq_true_eq, and_true, Bool.not_eq_true'] at hc
  try simp only [ilen] at hc
  obtain ⟨⟨hd, hlt⟩, rfl⟩ := hc
  rw [Nat.add_sub_cancel_left] at hd
  obtain ⟨Y, X, s1, rfl, hk⟩ := hst
  obtain ⟨g1, g2, g3⟩ := hK _ _ _ _ hk
  intro hb4 lsC H locs hl hlo hso hRp hS
  refine lv_iushr C.1 C.2.1 hd (v := Int32.ofInt (iushr X Y)) (i32_ushr X Y) ?_
  exact g3 hb4 lsC H locs hl hlo (fun v hv => by
    rcases List.mem_cons.mp hv with rfl | hv
    · exact r32_w _
    · exact hso v (List.mem_cons_of_mem _ (List.mem_cons_of_mem _ hv))) hRp hS
theorem sim_idiv (C : Ctx p R s m args meth c base nL z0 s0 zE sE H0 own y ret cc d) (hK : ∀ pc ls st h, K pc ls st h → hz h ≤ zE ∧ hs h ≤ sE ∧ Sim p l e R s m args below meth c Q D base adK adV nL z0 s0 zE sE H0 pc ls st h) (hc : echk own y ret nL cc (pc, .idiv, nx, a, k, q, z) = true) (hst : ∃ Y X s, st = aI Y :: aI X :: s ∧ Y ≠ 0 ∧ K nx ls (aI (w32 (X.tdiv Y)) :: s) h) : Sim p l e R s m args below meth c Q D base adK adV nL z0 s0 zE sE H0 pc ls st h := by
  simp only [echk, Bool.and_eq_true, Bool.or_eq_true, decide_eq_true_eq, and_true, Bool.not_eq_true'] at hc
  try simp only [ilen] at hc
  obtain ⟨⟨hd, hlt⟩, rfl⟩ := hc
  rw [Nat.add_sub_cancel_left] at hd
  obtain ⟨Y, X, s1, rfl, hy0, hk⟩ := hst
  obtain ⟨g1, g2, g3⟩ := hK _ _ _ _ hk
  intro hb4 lsC H locs hl hlo hso hRp hS
  have hY : r32 Y := hso (aI Y) List.mem_cons_self
  have hX : r32 X := hso (aI X) (List.mem_cons_of_mem _ List.mem_cons_self)
  refine lv_idiv C.1 C.2.1 hd (fun q0 => hy0 ((i32_inj hY r32_0).mp (q0.trans i32_0.symm))) ?_
  rw [i32_div hX hY]
  exact g3 hb4 lsC H locs hl hlo (fun v hv => by
    rcases List.mem_cons.mp hv with rfl | hv
    · exact r32_w _
    · exact hso v (List.mem_cons_of_mem _ (List.mem_cons_of_mem _ hv))) hRp hS
theorem sim_irem (C : Ctx p R s m args meth c base nL z0 s0 zE sE H0 own y ret cc d) (hK : ∀ pc ls st h, K pc ls st h → hz h ≤ zE ∧ hs h ≤ sE ∧ Sim p l e R s m args below meth c Q D base adK adV nL z0 s0 zE sE H0 pc ls st h) (hc : echk own y ret nL cc (pc, .irem, nx, a, k, q, z) = true) (hst : ∃ Y X s, st = aI Y :: aI X :: s ∧ Y ≠ 0 ∧ K nx ls (aI (X.tmod Y) :: s) h) : Sim p l e R s m args below meth c Q D base adK adV nL z0 s0 zE sE H0 pc ls st h := by
  simp only [echk, Bool.and_eq_true, Bool.or_eq_true, decide_eq_true_eq, and_true, Bool.not_eq_true'] at hc
  try simp only [ilen] at hc
  obtain ⟨⟨hd, hlt⟩, rfl⟩ := hc
  rw [Nat.add_sub_cancel_left] at hd
  obtain ⟨Y, X, s1, rfl, hy0, hk⟩ := hst
  obtain ⟨g1, g2, g3⟩ := hK _ _ _ _ hk
  intro hb4 lsC H locs hl hlo hso hRp hS
  have hY : r32 Y := hso (aI Y) List.mem_cons_self
  have hX : r32 X := hso (aI X) (List.mem_cons_of_mem _ List.mem_cons_self)
  refine lv_irem C.1 C.2.1 hd (fun q0 => hy0 ((i32_inj hY r32_0).mp (q0.trans i32_0.symm))) ?_
  rw [i32_rem hX hY]
  exact g3 hb4 lsC H locs hl hlo (fun v hv => by
    rcases List.mem_cons.mp hv with rfl | hv
    · exact r32_tmod hX hy0
    · exact hso v (List.mem_cons_of_mem _ (List.mem_cons_of_mem _ hv))) hRp hS
theorem sim_ladd (C : Ctx p R s m args meth c base nL z0 s0 zE sE H0 own y ret cc d) (hK : ∀ pc ls st h, K pc ls st h → hz h ≤ zE ∧ hs h ≤ sE ∧ Sim p l e R s m args below meth c Q D base adK adV nL z0 s0 zE sE H0 pc ls st h) (hc : echk own y ret nL cc (pc, .ladd, nx, a, k, q, z) = true) (hst : ∃ Y X s, st = aJ Y :: aJ X :: s ∧ K nx ls (aJ (w64 (X + Y)) :: s) h) : Sim p l e R s m args below meth c Q D base adK adV nL z0 s0 zE sE H0 pc ls st h := by
  simp only [echk, Bool.and_eq_true, Bool.or_eq_true, decide_eq_true_eq, and_true, Bool.not_eq_true'] at hc
  try simp only [ilen] at hc
  obtain ⟨⟨hd, hlt⟩, rfl⟩ := hc
  rw [Nat.add_sub_cancel_left] at hd
  obtain ⟨Y, X, s1, rfl, hk⟩ := hst
  obtain ⟨g1, g2, g3⟩ := hK _ _ _ _ hk
  intro hb4 lsC H locs hl hlo hso hRp hS
  refine lv_ladd C.1 C.2.1 hd ?_
  rw [i64_add]
  exact g3 hb4 lsC H locs hl hlo (fun v hv => by
    rcases List.mem_cons.mp hv with rfl | hv
    · exact r64_w _
    · exact hso v (List.mem_cons_of_mem _ (List.mem_cons_of_mem _ hv))) hRp hS
theorem sim_lsub (C : Ctx p R s m args meth c base nL z0 s0 zE sE H0 own y ret cc d) (hK : ∀ pc ls st h, K pc ls st h → hz h ≤ zE ∧ hs h ≤ sE ∧ Sim p l e R s m args below meth c Q D base adK adV nL z0 s0 zE sE H0 pc ls st h) (hc : echk own y ret nL cc (pc, .lsub, nx, a, k, q, z) = true) (hst : ∃ Y X s, st = aJ Y :: aJ X :: s ∧ K nx ls (aJ (w64 (X - Y)) :: s) h) : Sim p l e R s m args below meth c Q D base adK adV nL z0 s0 zE sE H0 pc ls st h := by
  simp only [echk, Bool.and_eq_true, Bool.or_eq_true, decide_eq_true_eq, and_true, Bool.not_eq_true'] at hc
  try simp only [ilen] at hc
  obtain ⟨⟨hd, hlt⟩, rfl⟩ := hc
  rw [Nat.add_sub_cancel_left] at hd
  obtain ⟨Y, X, s1, rfl, hk⟩ := hst
  obtain ⟨g1, g2, g3⟩ := hK _ _ _ _ hk
  intro hb4 lsC H locs hl hlo hso hRp hS
  refine lv_lsub C.1 C.2.1 hd ?_
  rw [i64_sub]
  exact g3 hb4 lsC H locs hl hlo (fun v hv => by
    rcases List.mem_cons.mp hv with rfl | hv
    · exact r64_w _
    · exact hso v (List.mem_cons_of_mem _ (List.mem_cons_of_mem _ hv))) hRp hS
theorem sim_lmul (C : Ctx p R s m args meth c base nL z0 s0 zE sE H0 own y ret cc d) (hK : ∀ pc ls st h, K pc ls st h → hz h ≤ zE ∧ hs h ≤ sE ∧ Sim p l e R s m args below meth c Q D base adK adV nL z0 s0 zE sE H0 pc ls st h) (hc : echk own y ret nL cc (pc, .lmul, nx, a, k, q, z) = true) (hst : ∃ Y X s, st = aJ Y :: aJ X :: s ∧ K nx ls (aJ (w64 (X * Y)) :: s) h) : Sim p l e R s m args below meth c Q D base adK adV nL z0 s0 zE sE H0 pc ls st h := by
  simp only [echk, Bool.and_eq_true, Bool.or_eq_true, decide_eq_true_eq, and_true, Bool.not_eq_true'] at hc
  try simp only [ilen] at hc
  obtain ⟨⟨hd, hlt⟩, rfl⟩ := hc
  rw [Nat.add_sub_cancel_left] at hd
  obtain ⟨Y, X, s1, rfl, hk⟩ := hst
  obtain ⟨g1, g2, g3⟩ := hK _ _ _ _ hk
  intro hb4 lsC H locs hl hlo hso hRp hS
  refine lv_lmul C.1 C.2.1 hd ?_
  rw [i64_mul]
  exact g3 hb4 lsC H locs hl hlo (fun v hv => by
    rcases List.mem_cons.mp hv with rfl | hv
    · exact r64_w _
    · exact hso v (List.mem_cons_of_mem _ (List.mem_cons_of_mem _ hv))) hRp hS
theorem sim_land (C : Ctx p R s m args meth c base nL z0 s0 zE sE H0 own y ret cc d) (hK : ∀ pc ls st h, K pc ls st h → hz h ≤ zE ∧ hs h ≤ sE ∧ Sim p l e R s m args below meth c Q D base adK adV nL z0 s0 zE sE H0 pc ls st h) (hc : echk own y ret nL cc (pc, .land, nx, a, k, q, z) = true) (hst : ∃ Y X s, st = aJ Y :: aJ X :: s ∧ K nx ls (aJ (land X Y) :: s) h) : Sim p l e R s m args below meth c Q D base adK adV nL z0 s0 zE sE H0 pc ls st h := by
  simp only [echk, Bool.and_eq_true, Bool.or_eq_true, decide_eq_true_eq, and_true, Bool.not_eq_true'] at hc
  try simp only [ilen] at hc
  obtain ⟨⟨hd, hlt⟩, rfl⟩ := hc
  rw [Nat.add_sub_cancel_left] at hd
  obtain ⟨Y, X, s1, rfl, hk⟩ := hst
  obtain ⟨g1, g2, g3⟩ := hK _ _ _ _ hk
  intro hb4 lsC H locs hl hlo hso hRp hS
  refine lv_land C.1 C.2.1 hd ?_
  rw [i64_and]
  exact g3 hb4 lsC H locs hl hlo (fun v hv => by
    rcases List.mem_cons.mp hv with rfl | hv
    · exact r64_to _
    · exact hso v (List.mem_cons_of_mem _ (List.mem_cons_of_mem _ hv))) hRp hS
theorem sim_lor (C : Ctx p R s m args meth c base nL z0 s0 zE sE H0 own y ret cc d) (hK : ∀ pc ls st h, K pc ls st h → hz h ≤ zE ∧ hs h ≤ sE ∧ Sim p l e R s m args below meth c Q D base adK adV nL z0 s0 zE sE H0 pc ls st h) (hc : echk own y ret nL cc (pc, .lor, nx, a, k, q, z) = true) (hst : ∃ Y X s, st = aJ Y :: aJ X :: s ∧ K nx ls (aJ (lor X Y) :: s) h) : Sim p l e R s m args below meth c Q D base adK adV nL z0 s0 zE sE H0 pc ls st h := by
  simp only [echk, Bool.and_eq_true, Bool.or_eq_true, decide_eq_true_eq, and_true, Bool.not_eq_true'] at hc
  try simp only [ilen] at hc
  obtain ⟨⟨hd, hlt⟩, rfl⟩ := hc
  rw [Nat.add_sub_cancel_left] at hd
  obtain ⟨Y, X, s1, rfl, hk⟩ := hst
  obtain ⟨g1, g2, g3⟩ := hK _ _ _ _ hk
  intro hb4 lsC H locs hl hlo hso hRp hS
  refine lv_lor C.1 C.2.1 hd ?_
  rw [i64_or]
  exact g3 hb4 lsC H locs hl hlo (fun v hv => by
    rcases List.mem_cons.mp hv with rfl | hv
    · exact r64_to _
    · exact hso v (List.mem_cons_of_mem _ (List.mem_cons_of_mem _ hv))) hRp hS
theorem sim_lxor (C : Ctx p R s m args meth c base nL z0 s0 zE sE H0 own y ret cc d) (hK : ∀ pc ls st h, K pc ls st h → hz h ≤ zE ∧ hs h ≤ sE ∧ Sim p l e R s m args below meth c Q D base adK adV nL z0 s0 zE sE H0 pc ls st h) (hc : echk own y ret nL cc (pc, .lxor, nx, a, k, q, z) = true) (hst : ∃ Y X s, st = aJ Y :: aJ X :: s ∧ K nx ls (aJ (lxor X Y) :: s) h) : Sim p l e R s m args below meth c Q D base adK adV nL z0 s0 zE sE H0 pc ls st h := by
  simp only [echk, Bool.and_eq_true, Bool.or_eq_true, decide_eq_true_eq, and_true, Bool.not_eq_true'] at hc
  try simp only [ilen] at hc
  obtain ⟨⟨hd, hlt⟩, rfl⟩ := hc
  rw [Nat.add_sub_cancel_left] at hd
  obtain ⟨Y, X, s1, rfl, hk⟩ := hst
  obtain ⟨g1, g2, g3⟩ := hK _ _ _ _ hk
  intro hb4 lsC H locs hl hlo hso hRp hS
  refine lv_lxor C.1 C.2.1 hd ?_
  rw [i64_xor]
  exact g3 hb4 lsC H locs hl hlo (fun v hv => by
    rcases List.mem_cons.mp hv with rfl | hv
    · exact r64_to _
    · exact hso v (List.mem_cons_of_mem _ (List.mem_cons_of_mem _ hv))) hRp hS
theorem sim_ldiv (C : Ctx p R s m args meth c base nL z0 s0 zE sE H0 own y ret cc d) (hK : ∀ pc ls st h, K pc ls st h → hz h ≤ zE ∧ hs h ≤ sE ∧ Sim p l e R s m args below meth c Q D base adK adV nL z0 s0 zE sE H0 pc ls st h) (hc : echk own y ret nL cc (pc, .ldiv, nx, a, k, q, z) = true) (hst : ∃ Y X s, st = aJ Y :: aJ X :: s ∧ Y ≠ 0 ∧ K nx ls (aJ (w64 (X.tdiv Y)) :: s) h) : Sim p l e R s m args below meth c Q D base adK adV nL z0 s0 zE sE H0 pc ls st h := by
  simp only [echk, Bool.and_eq_true, Bool.or_eq_true, decide_eq_true_eq, and_true, Bool.not_eq_true'] at hc
  try simp only [ilen] at hc
  obtain ⟨⟨hd, hlt⟩, rfl⟩ := hc
  rw [Nat.add_sub_cancel_left] at hd
  obtain ⟨Y, X, s1, rfl, hy0, hk⟩ := hst
  obtain ⟨g1, g2, g3⟩ := hK _ _ _ _ hk
  intro hb4 lsC H locs hl hlo hso hRp hS
  have hY : r64 Y := hso (aJ Y) List.mem_cons_self
  have hX : r64 X := hso (aJ X) (List.mem_cons_of_mem _ List.mem_cons_self)
  refine lv_ldiv C.1 C.2.1 hd (fun q0 => hy0 ((i64_inj hY r64_0).mp (q0.trans i64_0.symm))) ?_
  rw [i64_div hX hY]
  exact g3 hb4 lsC H locs hl hlo (fun v hv => by
    rcases List.mem_cons.mp hv with rfl | hv
    · exact r64_w _
    · exact hso v (List.mem_cons_of_mem _ (List.mem_cons_of_mem _ hv))) hRp hS
theorem sim_lrem (C : Ctx p R s m args meth c base nL z0 s0 zE sE H0 own y ret cc d) (hK : ∀ pc ls st h, K pc ls st h → hz h ≤ zE ∧ hs h ≤ sE ∧ Sim p l e R s m args below meth c Q D base adK adV nL z0 s0 zE sE H0 pc ls st h) (hc : echk own y ret nL cc (pc, .lrem, nx, a, k, q, z) = true) (hst : ∃ Y X s, st = aJ Y :: aJ X :: s ∧ Y ≠ 0 ∧ K nx ls (aJ (X.tmod Y) :: s) h) : Sim p l e R s m args below meth c Q D base adK adV nL z0 s0 zE sE H0 pc ls st h := by
  simp only [echk, Bool.and_eq_true, Bool.or_eq_true, decide_eq_true_eq, and_true, Bool.not_eq_true'] at hc
  try simp only [ilen] at hc
  obtain ⟨⟨hd, hlt⟩, rfl⟩ := hc
  rw [Nat.add_sub_cancel_left] at hd
  obtain ⟨Y, X, s1, rfl, hy0, hk⟩ := hst
  obtain ⟨g1, g2, g3⟩ := hK _ _ _ _ hk
  intro hb4 lsC H locs hl hlo hso hRp hS
  have hY : r64 Y := hso (aJ Y) List.mem_cons_self
  have hX : r64 X := hso (aJ X) (List.mem_cons_of_mem _ List.mem_cons_self)
  refine lv_lrem C.1 C.2.1 hd (fun q0 => hy0 ((i64_inj hY r64_0).mp (q0.trans i64_0.symm))) ?_
  rw [i64_rem hX hY]
  exact g3 hb4 lsC H locs hl hlo (fun v hv => by
    rcases List.mem_cons.mp hv with rfl | hv
    · exact r64_tmod hX hy0
    · exact hso v (List.mem_cons_of_mem _ (List.mem_cons_of_mem _ hv))) hRp hS
theorem sim_lshl (C : Ctx p R s m args meth c base nL z0 s0 zE sE H0 own y ret cc d) (hK : ∀ pc ls st h, K pc ls st h → hz h ≤ zE ∧ hs h ≤ sE ∧ Sim p l e R s m args below meth c Q D base adK adV nL z0 s0 zE sE H0 pc ls st h) (hc : echk own y ret nL cc (pc, .lshl, nx, a, k, q, z) = true) (hst : ∃ Y X s, st = aI Y :: aJ X :: s ∧ K nx ls (aJ (lshl X Y) :: s) h) : Sim p l e R s m args below meth c Q D base adK adV nL z0 s0 zE sE H0 pc ls st h := by
  simp only [echk, Bool.and_eq_true, Bool.or_eq_true, decide_eq_true_eq, and_true, Bool.not_eq_true'] at hc
  try simp only [ilen] at hc
  obtain ⟨⟨hd, hlt⟩, rfl⟩ := hc
  rw [Nat.add_sub_cancel_left] at hd
  obtain ⟨Y, X, s1, rfl, hk⟩ := hst
  obtain ⟨g1, g2, g3⟩ := hK _ _ _ _ hk
  intro hb4 lsC H locs hl hlo hso hRp hS
  have hX : r64 X := hso (aJ X) (List.mem_cons_of_mem _ List.mem_cons_self)
  refine lv_lshl C.1 C.2.1 hd (v := Int64.ofInt (lshl X Y)) (i64_shl X Y) ?_
  exact g3 hb4 lsC H locs hl hlo (fun v hv => by
    rcases List.mem_cons.mp hv with rfl | hv
    · exact r64_w _
    · exact hso v (List.mem_cons_of_mem _ (List.mem_cons_of_mem _ hv))) hRp hS
theorem sim_lshr (C : Ctx p R s m args meth c base nL z0 s0 zE sE H0 own y ret cc d) (hK : ∀ pc ls st h, K pc ls st h → hz h ≤ zE ∧ hs h ≤ sE ∧ Sim p l e R s m args below meth c Q D base adK adV nL z0 s0 zE sE H0 pc ls st h) (hc : echk own y ret nL cc (pc, .lshr, nx, a, k, q, z) = true) (hst : ∃ Y X s, st = aI Y :: aJ X :: s ∧ K nx ls (aJ (lshr X Y) :: s) h) : Sim p l e R s m args below meth c Q D base adK adV nL z0 s0 zE sE H0 pc ls st h := by
  simp only [echk, Bool.and_eq_true, Bool.or_eq_true, decide_eq_true_eq, and_true, Bool.not_eq_true'] at hc
  try simp only [ilen] at hc
  obtain ⟨⟨hd, hlt⟩, rfl⟩ := hc
  rw [Nat.add_sub_cancel_left] at hd
  obtain ⟨Y, X, s1, rfl, hk⟩ := hst
  obtain ⟨g1, g2, g3⟩ := hK _ _ _ _ hk
  intro hb4 lsC H locs hl hlo hso hRp hS
  have hX : r64 X := hso (aJ X) (List.mem_cons_of_mem _ List.mem_cons_self)
  refine lv_lshr C.1 C.2.1 hd (v := Int64.ofInt (lshr X Y)) (i64_shr hX Y) ?_
  exact g3 hb4 lsC H locs hl hlo (fun v hv => by
    rcases List.mem_cons.mp hv with rfl | hv
    · exact r64_shr hX _
    · exact hso v (List.mem_cons_of_mem _ (List.mem_cons_of_mem _ hv))) hRp hS
theorem sim_lushr (C : Ctx p R s m args meth c base nL z0 s0 zE sE H0 own y ret cc d) (hK : ∀ pc ls st h, K pc ls st h → hz h ≤ zE ∧ hs h ≤ sE ∧ Sim p l e R s m args below meth c Q D base adK adV nL z0 s0 zE sE H0 pc ls st h) (hc : echk own y ret nL cc (pc, .lushr, nx, a, k, q, z) = true) (hst : ∃ Y X s, st = aI Y :: aJ X :: s ∧ K nx ls (aJ (lushr X Y) :: s) h) : Sim p l e R s m args below meth c Q D base adK adV nL z0 s0 zE sE H0 pc ls st h := by
  simp only [echk, Bool.and_eq_true, Bool.or_eq_true, decide_eq_true_eq, and_true, Bool.not_eq_true'] at hc
  try simp only [ilen] at hc
  obtain ⟨⟨hd, hlt⟩, rfl⟩ := hc
  rw [Nat.add_sub_cancel_left] at hd
  obtain ⟨Y, X, s1, rfl, hk⟩ := hst
  obtain ⟨g1, g2, g3⟩ := hK _ _ _ _ hk
  intro hb4 lsC H locs hl hlo hso hRp hS
  have hX : r64 X := hso (aJ X) (List.mem_cons_of_mem _ List.mem_cons_self)
  refine lv_lushr C.1 C.2.1 hd (v := Int64.ofInt (lushr X Y)) (i64_ushr X Y) ?_
  exact g3 hb4 lsC H locs hl hlo (fun v hv => by
    rcases List.mem_cons.mp hv with rfl | hv
    · exact r64_w _
    · exact hso v (List.mem_cons_of_mem _ (List.mem_cons_of_mem _ hv))) hRp hS
theorem sim_lcmp (C : Ctx p R s m args meth c base nL z0 s0 zE sE H0 own y ret cc d) (hK : ∀ pc ls st h, K pc ls st h → hz h ≤ zE ∧ hs h ≤ sE ∧ Sim p l e R s m args below meth c Q D base adK adV nL z0 s0 zE sE H0 pc ls st h) (hc : echk own y ret nL cc (pc, .lcmp, nx, a, k, q, z) = true) (hst : ∃ Y X s, st = aJ Y :: aJ X :: s ∧ K nx ls (aI (lcmp X Y) :: s) h) : Sim p l e R s m args below meth c Q D base adK adV nL z0 s0 zE sE H0 pc ls st h := by
  simp only [echk, Bool.and_eq_true, Bool.or_eq_true, decide_eq_true_eq, and_true, Bool.not_eq_true'] at hc
  try simp only [ilen] at hc
  obtain ⟨⟨hd, hlt⟩, rfl⟩ := hc
  rw [Nat.add_sub_cancel_left] at hd
  obtain ⟨Y, X, s1, rfl, hk⟩ := hst
  obtain ⟨g1, g2, g3⟩ := hK _ _ _ _ hk
  intro hb4 lsC H locs hl hlo hso hRp hS
  have hY : r64 Y := hso (aJ Y) List.mem_cons_self
  have hX : r64 X := hso (aJ X) (List.mem_cons_of_mem _ List.mem_cons_self)
  refine W.lcmp C.1 C.2.1 hd ?_
  rw [i64_cmp hX hY]
  exact g3 hb4 lsC H locs hl hlo (fun v hv => by
    rcases List.mem_cons.mp hv with rfl | hv
    · exact r32_lcmp _ _
    · exact hso v (List.mem_cons_of_mem _ (List.mem_cons_of_mem _ hv))) hRp hS
theorem sim_ineg (C : Ctx p R s m args meth c base nL z0 s0 zE sE H0 own y ret cc d) (hK : ∀ pc ls st h, K pc ls st h → hz h ≤ zE ∧ hs h ≤ sE ∧ Sim p l e R s m args below meth c Q D base adK adV nL z0 s0 zE sE H0 pc ls st h) (hc : echk own y ret nL cc (pc, .ineg, nx, a, k, q, z) = true) (hst : ∃ X s, st = aI X :: s ∧ K nx ls (aI (w32 (-X)) :: s) h) : Sim p l e R s m args below meth c Q D base adK adV nL z0 s0 zE sE H0 pc ls st h := by
  simp only [echk, Bool.and_eq_true, Bool.or_eq_true, decide_eq_true_eq, and_true, Bool.not_eq_true'] at hc
  try simp only [ilen] at hc
  obtain ⟨⟨hd, hlt⟩, rfl⟩ := hc
  rw [Nat.add_sub_cancel_left] at hd
  obtain ⟨X, s1, rfl, hk⟩ := hst
  obtain ⟨g1, g2, g3⟩ := hK _ _ _ _ hk
  intro hb4 lsC H locs hl hlo hso hRp hS
  refine lv_ineg C.1 C.2.1 hd ?_
  rw [i32_neg]
  exact g3 hb4 lsC H locs hl hlo (fun v hv => by
    rcases List.mem_cons.mp hv with rfl | hv
    · exact r32_w _
    · exact hso v (List.mem_cons_of_mem _ hv)) hRp hS
theorem sim_lneg (C : Ctx p R s m args meth c base nL z0 s0 zE sE H0 own y ret cc d) (hK : ∀ pc ls st h, K pc ls st h → hz h ≤ zE ∧ hs h ≤ sE ∧ Sim p l e R s m args below meth c Q D base adK adV nL z0 s0 zE sE H0 pc ls st h) (hc : echk own y ret nL cc (pc, .lneg, nx, a, k, q, z) = true) (hst : ∃ X s, st = aJ X :: s ∧ K nx ls (aJ (w64 (-X)) :: s) h) : Sim p l e R s m args below meth c Q D base adK adV nL z0 s0 zE sE H0 pc ls st h := by
  simp only [echk, Bool.and_eq_true, Bool.or_eq_true, decide_eq_true_eq, and_true, Bool.not_eq_true'] at hc
  try simp only [ilen] at hc
  obtain ⟨⟨hd, hlt⟩, rfl⟩ := hc
  rw [Nat.add_sub_cancel_left] at hd
  obtain ⟨X, s1, rfl, hk⟩ := hst
  obtain ⟨g1, g2, g3⟩ := hK _ _ _ _ hk
  intro hb4 lsC H locs hl hlo hso hRp hS
  refine lv_lneg C.1 C.2.1 hd ?_
  rw [i64_neg]
  exact g3 hb4 lsC H locs hl hlo (fun v hv => by
    rcases List.mem_cons.mp hv with rfl | hv
    · exact r64_w _
    · exact hso v (List.mem_cons_of_mem _ hv)) hRp hS
theorem sim_i2l (C : Ctx p R s m args meth c base nL z0 s0 zE sE H0 own y ret cc d) (hK : ∀ pc ls st h, K pc ls st h → hz h ≤ zE ∧ hs h ≤ sE ∧ Sim p l e R s m args below meth c Q D base adK adV nL z0 s0 zE sE H0 pc ls st h) (hc : echk own y ret nL cc (pc, .i2l, nx, a, k, q, z) = true) (hst : ∃ X s, st = aI X :: s ∧ K nx ls (aJ X :: s) h) : Sim p l e R s m args below meth c Q D base adK adV nL z0 s0 zE sE H0 pc ls st h := by
  simp only [echk, Bool.and_eq_true, Bool.or_eq_true, decide_eq_true_eq, and_true, Bool.not_eq_true'] at hc
  try simp only [ilen] at hc
  obtain ⟨⟨hd, hlt⟩, rfl⟩ := hc
  rw [Nat.add_sub_cancel_left] at hd
  obtain ⟨X, s1, rfl, hk⟩ := hst
  obtain ⟨g1, g2, g3⟩ := hK _ _ _ _ hk
  intro hb4 lsC H locs hl hlo hso hRp hS
  have hX : r32 X := hso (aI X) List.mem_cons_self
  refine lv_i2l C.1 C.2.1 hd (v := Int64.ofInt X) (i32_i2l hX) ?_
  exact g3 hb4 lsC H locs hl hlo (fun v hv => by
    rcases List.mem_cons.mp hv with rfl | hv
    · exact (show r64 X by unfold r32 at hX; unfold r64; omega)
    · exact hso v (List.mem_cons_of_mem _ hv)) hRp hS
theorem sim_l2i (C : Ctx p R s m args meth c base nL z0 s0 zE sE H0 own y ret cc d) (hK : ∀ pc ls st h, K pc ls st h → hz h ≤ zE ∧ hs h ≤ sE ∧ Sim p l e R s m args below meth c Q D base adK adV nL z0 s0 zE sE H0 pc ls st h) (hc : echk own y ret nL cc (pc, .l2i, nx, a, k, q, z) = true) (hst : ∃ X s, st = aJ X :: s ∧ K nx ls (aI (w32 X) :: s) h) : Sim p l e R s m args below meth c Q D base adK adV nL z0 s0 zE sE H0 pc ls st h := by
  simp only [echk, Bool.and_eq_true, Bool.or_eq_true, decide_eq_true_eq, and_true, Bool.not_eq_true'] at hc
  try simp only [ilen] at hc
  obtain ⟨⟨hd, hlt⟩, rfl⟩ := hc
  rw [Nat.add_sub_cancel_left] at hd
  obtain ⟨X, s1, rfl, hk⟩ := hst
  obtain ⟨g1, g2, g3⟩ := hK _ _ _ _ hk
  intro hb4 lsC H locs hl hlo hso hRp hS
  have hX : r64 X := hso (aJ X) List.mem_cons_self
  refine lv_l2i C.1 C.2.1 hd (v := Int32.ofInt (w32 X)) (i64_l2i hX) ?_
  exact g3 hb4 lsC H locs hl hlo (fun v hv => by
    rcases List.mem_cons.mp hv with rfl | hv
    · exact r32_w _
    · exact hso v (List.mem_cons_of_mem _ hv)) hRp hS
theorem sim_l2d (C : Ctx p R s m args meth c base nL z0 s0 zE sE H0 own y ret cc d) (hK : ∀ pc ls st h, K pc ls st h → hz h ≤ zE ∧ hs h ≤ sE ∧ Sim p l e R s m args below meth c Q D base adK adV nL z0 s0 zE sE H0 pc ls st h) (hc : echk own y ret nL cc (pc, .l2d, nx, a, k, q, z) = true) (hst : ∃ X s, st = aJ X :: s ∧ K nx ls (aD (FP.l2d (Int64.ofInt X)) :: s) h) : Sim p l e R s m args below meth c Q D base adK adV nL z0 s0 zE sE H0 pc ls st h := by
  simp only [echk, Bool.and_eq_true, Bool.or_eq_true, decide_eq_true_eq, and_true, Bool.not_eq_true'] at hc
  try simp only [ilen] at hc
  obtain ⟨⟨hd, hlt⟩, rfl⟩ := hc
  rw [Nat.add_sub_cancel_left] at hd
  obtain ⟨X, s1, rfl, hk⟩ := hst
  obtain ⟨g1, g2, g3⟩ := hK _ _ _ _ hk
  intro hb4 lsC H locs hl hlo hso hRp hS
  refine lv_l2d C.1 C.2.1 hd ?_
  exact g3 hb4 lsC H locs hl hlo (fun v hv => by
    rcases List.mem_cons.mp hv with rfl | hv
    · exact trivial
    · exact hso v (List.mem_cons_of_mem _ hv)) hRp hS
theorem sim_ddiv (C : Ctx p R s m args meth c base nL z0 s0 zE sE H0 own y ret cc d) (hK : ∀ pc ls st h, K pc ls st h → hz h ≤ zE ∧ hs h ≤ sE ∧ Sim p l e R s m args below meth c Q D base adK adV nL z0 s0 zE sE H0 pc ls st h) (hc : echk own y ret nL cc (pc, .ddiv, nx, a, k, q, z) = true) (hst : ∃ Y X s, st = aD Y :: aD X :: s ∧ vf_n64 (FP.ddiv X Y) ∧ K nx ls (aD (FP.ddiv X Y) :: s) h) : Sim p l e R s m args below meth c Q D base adK adV nL z0 s0 zE sE H0 pc ls st h := by
  simp only [echk, Bool.and_eq_true, Bool.or_eq_true, decide_eq_true_eq, and_true, Bool.not_eq_true'] at hc
  try simp only [ilen] at hc
  obtain ⟨⟨hd, hlt⟩, rfl⟩ := hc
  rw [Nat.add_sub_cancel_left] at hd
  obtain ⟨Y, X, s1, rfl, hn, hk⟩ := hst
  obtain ⟨g1, g2, g3⟩ := hK _ _ _ _ hk
  intro hb4 lsC H locs hl hlo hso hRp hS
  refine lv_ddiv C.1 C.2.1 hd hn ?_
  exact g3 hb4 lsC H locs hl hlo (fun v hv => by
    rcases List.mem_cons.mp hv with rfl | hv
    · exact trivial
    · exact hso v (List.mem_cons_of_mem _ (List.mem_cons_of_mem _ hv))) hRp hS
theorem sim_dcmp (C : Ctx p R s m args meth c base nL z0 s0 zE sE H0 own y ret cc d) (hK : ∀ pc ls st h, K pc ls st h → hz h ≤ zE ∧ hs h ≤ sE ∧ Sim p l e R s m args below meth c Q D base adK adV nL z0 s0 zE sE H0 pc ls st h) {op : CmpOp} (hc : echk own y ret nL cc (pc, .dcmp op, nx, a, k, q, z) = true) (hst : ∃ Y X s, st = aD Y :: aD X :: s ∧ K nx ls (aI (Op.cmpValue (FP.dcmp X Y) op).toInt :: s) h) : Sim p l e R s m args below meth c Q D base adK adV nL z0 s0 zE sE H0 pc ls st h := by
  simp only [echk, Bool.and_eq_true, Bool.or_eq_true, decide_eq_true_eq, and_true, Bool.not_eq_true'] at hc
  try simp only [ilen] at hc
  obtain ⟨⟨hd, hlt⟩, rfl⟩ := hc
  rw [Nat.add_sub_cancel_left] at hd
  obtain ⟨Y, X, s1, rfl, hk⟩ := hst
  obtain ⟨g1, g2, g3⟩ := hK _ _ _ _ hk
  intro hb4 lsC H locs hl hlo hso hRp hS
  refine lv_dcmp C.1 C.2.1 hd ?_
  have g := g3 hb4 lsC H locs hl hlo (fun v hv => by
    rcases List.mem_cons.mp hv with rfl | hv
    · exact r32_to _
    · exact hso v (List.mem_cons_of_mem _ (List.mem_cons_of_mem _ hv))) hRp hS
  rw [List.map_cons, show cval (aI (Op.cmpValue (FP.dcmp X Y) op).toInt) = .int (Op.cmpValue (FP.dcmp X Y) op) by show Value.int (Int32.ofInt _) = _; rw [Int32.ofInt_toInt]] at g
  exact g
theorem sim_aconst_null (C : Ctx p R s m args meth c base nL z0 s0 zE sE H0 own y ret cc d) (hK : ∀ pc ls st h, K pc ls st h → hz h ≤ zE ∧ hs h ≤ sE ∧ Sim p l e R s m args below meth c Q D base adK adV nL z0 s0 zE sE H0 pc ls st h) (hc : echk own y ret nL cc (pc, .aconst_null, nx, a, k, q, z) = true) (hst : K nx ls (aO none :: st) h) : Sim p l e R s m args below meth c Q D base adK adV nL z0 s0 zE sE H0 pc ls st h := by
  simp only [echk, Bool.and_eq_true, Bool.or_eq_true, decide_eq_true_eq, and_true, Bool.not_eq_true'] at hc
  try simp only [ilen] at hc
  obtain ⟨⟨hd, hlt⟩, rfl⟩ := hc
  rw [Nat.add_sub_cancel_left] at hd
  have hk := hst
  obtain ⟨g1, g2, g3⟩ := hK _ _ _ _ hk
  intro hb4 lsC H locs hl hlo hso hRp hS
  refine lv_null C.1 C.2.1 hd ?_
  exact g3 hb4 lsC H locs hl hlo (fun v hv => by
    rcases List.mem_cons.mp hv with rfl | hv
    · exact trivial
    · exact hso v hv) hRp hS
theorem sim_iconst (C : Ctx p R s m args meth c base nL z0 s0 zE sE H0 own y ret cc d) (hK : ∀ pc ls st h, K pc ls st h → hz h ≤ zE ∧ hs h ≤ sE ∧ Sim p l e R s m args below meth c Q D base adK adV nL z0 s0 zE sE H0 pc ls st h) {n : Int} (hc : echk own y ret nL cc (pc, .iconst n, nx, a, k, q, z) = true) (hst : K nx ls (aI n :: st) h) : Sim p l e R s m args below meth c Q D base adK adV nL z0 s0 zE sE H0 pc ls st h := by
  simp only [echk, Bool.and_eq_true, Bool.or_eq_true, decide_eq_true_eq, and_true, Bool.not_eq_true'] at hc
  try simp only [ilen] at hc
  obtain ⟨⟨hd, hlt⟩, rfl, h1, h2⟩ := hc
  rw [Nat.add_sub_cancel_left] at hd
  have hk := hst
  obtain ⟨g1, g2, g3⟩ := hK _ _ _ _ hk
  intro hb4 lsC H locs hl hlo hso hRp hS
  refine lv_iconst C.1 C.2.1 hd rfl ?_
  exact g3 hb4 lsC H locs hl hlo (fun v hv => by
    rcases List.mem_cons.mp hv with rfl | hv
    · exact (show r32 n by unfold r32; omega)
    · exact hso v hv) hRp hS
theorem sim_bipush (C : Ctx p R s m args meth c base nL z0 s0 zE sE H0 own y ret cc d) (hK : ∀ pc ls st h, K pc ls st h → hz h ≤ zE ∧ hs h ≤ sE ∧ Sim p l e R s m args below meth c Q D base adK adV nL z0 s0 zE sE H0 pc ls st h) {n : Int} (hc : echk own y ret nL cc (pc, .bipush n, nx, a, k, q, z) = true) (hst : K nx ls (aI n :: st) h) : Sim p l e R s m args below meth c Q D base adK adV nL z0 s0 zE sE H0 pc ls st h := by
  simp only [echk, Bool.and_eq_true, Bool.or_eq_true, decide_eq_true_eq, and_true, Bool.not_eq_true'] at hc
  try simp only [ilen] at hc
  obtain ⟨⟨hd, hlt⟩, rfl, h1, h2⟩ := hc
  rw [Nat.add_sub_cancel_left] at hd
  have hk := hst
  obtain ⟨g1, g2, g3⟩ := hK _ _ _ _ hk
  intro hb4 lsC H locs hl hlo hso hRp hS
  refine lv_bipush C.1 C.2.1 hd (v := Int32.ofInt n) (i8_of h1 h2) ?_
  exact g3 hb4 lsC H locs hl hlo (fun v hv => by
    rcases List.mem_cons.mp hv with rfl | hv
    · exact (show r32 n by unfold r32; omega)
    · exact hso v hv) hRp hS
theorem sim_sipush (C : Ctx p R s m args meth c base nL z0 s0 zE sE H0 own y ret cc d) (hK : ∀ pc ls st h, K pc ls st h → hz h ≤ zE ∧ hs h ≤ sE ∧ Sim p l e R s m args below meth c Q D base adK adV nL z0 s0 zE sE H0 pc ls st h) {n : Int} (hc : echk own y ret nL cc (pc, .sipush n, nx, a, k, q, z) = true) (hst : K nx ls (aI n :: st) h) : Sim p l e R s m args below meth c Q D base adK adV nL z0 s0 zE sE H0 pc ls st h := by
  simp only [echk, Bool.and_eq_true, Bool.or_eq_true, decide_eq_true_eq, and_true, Bool.not_eq_true'] at hc
  try simp only [ilen] at hc
  obtain ⟨⟨hd, hlt⟩, rfl, h1, h2⟩ := hc
  rw [Nat.add_sub_cancel_left] at hd
  have hk := hst
  obtain ⟨g1, g2, g3⟩ := hK _ _ _ _ hk
  intro hb4 lsC H locs hl hlo hso hRp hS
  refine lv_sipush C.1 C.2.1 hd (v := Int32.ofInt n) (i16_of h1 h2) ?_
  exact g3 hb4 lsC H locs hl hlo (fun v hv => by
    rcases List.mem_cons.mp hv with rfl | hv
    · exact (show r32 n by unfold r32; omega)
    · exact hso v hv) hRp hS
theorem sim_lconst (C : Ctx p R s m args meth c base nL z0 s0 zE sE H0 own y ret cc d) (hK : ∀ pc ls st h, K pc ls st h → hz h ≤ zE ∧ hs h ≤ sE ∧ Sim p l e R s m args below meth c Q D base adK adV nL z0 s0 zE sE H0 pc ls st h) {n : Fin 2} (hc : echk own y ret nL cc (pc, .lconst n, nx, a, k, q, z) = true) (hst : K nx ls (aJ (n.val : Int) :: st) h) : Sim p l e R s m args below meth c Q D base adK adV nL z0 s0 zE sE H0 pc ls st h := by
  simp only [echk, Bool.and_eq_true, Bool.or_eq_true, decide_eq_true_eq, and_true, Bool.not_eq_true'] at hc
  try simp only [ilen] at hc
  obtain ⟨⟨hd, hlt⟩, rfl⟩ := hc
  rw [Nat.add_sub_cancel_left] at hd
  have hk := hst
  obtain ⟨g1, g2, g3⟩ := hK _ _ _ _ hk
  intro hb4 lsC H locs hl hlo hso hRp hS
  refine lv_lconst C.1 C.2.1 hd (v := Int64.ofInt (n.val : Int)) (Int64.ofInt_eq_ofNat).symm ?_
  exact g3 hb4 lsC H locs hl hlo (fun v hv => by
    rcases List.mem_cons.mp hv with rfl | hv
    · exact (show r64 (n.val : Int) by have := n.isLt; unfold r64; omega)
    · exact hso v hv) hRp hS
theorem sim_dconst (C : Ctx p R s m args meth c base nL z0 s0 zE sE H0 own y ret cc d) (hK : ∀ pc ls st h, K pc ls st h → hz h ≤ zE ∧ hs h ≤ sE ∧ Sim p l e R s m args below meth c Q D base adK adV nL z0 s0 zE sE H0 pc ls st h) {n : Fin 2} (hc : echk own y ret nL cc (pc, .dconst n, nx, a, k, q, z) = true) (hst : n = 0 ∧ K nx ls (aD FP.dconst0 :: st) h) : Sim p l e R s m args below meth c Q D base adK adV nL z0 s0 zE sE H0 pc ls st h := by
  simp only [echk, Bool.and_eq_true, Bool.or_eq_true, decide_eq_true_eq, and_true, Bool.not_eq_true'] at hc
  try simp only [ilen] at hc
  obtain ⟨⟨hd, hlt⟩, rfl⟩ := hc
  rw [Nat.add_sub_cancel_left] at hd
  obtain ⟨rfl, hk⟩ := hst
  obtain ⟨g1, g2, g3⟩ := hK _ _ _ _ hk
  intro hb4 lsC H locs hl hlo hso hRp hS
  refine lv_dconst0 C.1 C.2.1 hd ?_
  exact g3 hb4 lsC H locs hl hlo (fun v hv => by
    rcases List.mem_cons.mp hv with rfl | hv
    · exact trivial
    · exact hso v hv) hRp hS
theorem sim_iload (C : Ctx p R s m args meth c base nL z0 s0 zE sE H0 own y ret cc d) (hK : ∀ pc ls st h, K pc ls st h → hz h ≤ zE ∧ hs h ≤ sE ∧ Sim p l e R s m args below meth c Q D base adK adV nL z0 s0 zE sE H0 pc ls st h) {i : Nat} (hc : echk own y ret nL cc (pc, .iload i, nx, a, k, q, z) = true) (hst : ∃ x, lget ls i = some (aI x) ∧ K nx ls (aI x :: st) h) : Sim p l e R s m args below meth c Q D base adK adV nL z0 s0 zE sE H0 pc ls st h := by
  simp only [echk, Bool.and_eq_true, Bool.or_eq_true, decide_eq_true_eq, and_true, Bool.not_eq_true'] at hc
  try simp only [ilen] at hc
  obtain ⟨⟨hd, hlt⟩, rfl⟩ := hc
  rw [Nat.add_sub_cancel_left] at hd
  obtain ⟨x, hx, hk⟩ := hst
  obtain ⟨g1, g2, g3⟩ := hK _ _ _ _ hk
  intro hb4 lsC H locs hl hlo hso hRp hS
  refine lv_iload C.1 C.2.1 hd (lget_has hl hx) ?_
  exact g3 hb4 lsC H locs hl hlo (fun v hv => by
    rcases List.mem_cons.mp hv with rfl | hv
    · exact lget_ok hlo hx
    · exact hso v hv) hRp hS
theorem sim_iload_n (C : Ctx p R s m args meth c base nL z0 s0 zE sE H0 own y ret cc d) (hK : ∀ pc ls st h, K pc ls st h → hz h ≤ zE ∧ hs h ≤ sE ∧ Sim p l e R s m args below meth c Q D base adK adV nL z0 s0 zE sE H0 pc ls st h) {i : Fin 4} (hc : echk own y ret nL cc (pc, .iload_n i, nx, a, k, q, z) = true) (hst : ∃ x, lget ls i.val = some (aI x) ∧ K nx ls (aI x :: st) h) : Sim p l e R s m args below meth c Q D base adK adV nL z0 s0 zE sE H0 pc ls st h := by
  simp only [echk, Bool.and_eq_true, Bool.or_eq_true, decide_eq_true_eq, and_true, Bool.not_eq_true'] at hc
  try simp only [ilen] at hc
  obtain ⟨⟨hd, hlt⟩, rfl⟩ := hc
  rw [Nat.add_sub_cancel_left] at hd
  obtain ⟨x, hx, hk⟩ := hst
  obtain ⟨g1, g2, g3⟩ := hK _ _ _ _ hk
  intro hb4 lsC H locs hl hlo hso hRp hS
  refine lv_iload_n C.1 C.2.1 hd rfl (lget_has hl hx) ?_
  exact g3 hb4 lsC H locs hl hlo (fun v hv => by
    rcases List.mem_cons.mp hv with rfl | hv
    · exact lget_ok hlo hx
    · exact hso v hv) hRp hS
theorem sim_lload (C : Ctx p R s m args meth c base nL z0 s0 zE sE H0 own y ret cc d) (hK : ∀ pc ls st h, K pc ls st h → hz h ≤ zE ∧ hs h ≤ sE ∧ Sim p l e R s m args below meth c Q D base adK adV nL z0 s0 zE sE H0 pc ls st h) {i : Nat} (hc : echk own y ret nL cc (pc, .lload i, nx, a, k, q, z) = true) (hst : ∃ x, lget ls i = some (aJ x) ∧ K nx ls (aJ x :: st) h) : Sim p l e R s m args below meth c Q D base adK adV nL z0 s0 zE sE H0 pc ls st h := by
  simp only [echk, Bool.and_eq_true, Bool.or_eq_true, decide_eq_true_eq, and_true, Bool.not_eq_true'] at hc
  try simp only [ilen] at hc
  obtain ⟨⟨hd, hlt⟩, rfl⟩ := hc
  rw [Nat.add_sub_cancel_left] at hd
  obtain ⟨x, hx, hk⟩ := hst
  obtain ⟨g1, g2, g3⟩ := hK _ _ _ _ hk
  intro hb4 lsC H locs hl hlo hso hRp hS
  refine lv_lload C.1 C.2.1 hd (lget_has hl hx) ?_
  exact g3 hb4 lsC H locs hl hlo (fun v hv => by
    rcases List.mem_cons.mp hv with rfl | hv
    · exact lget_ok hlo hx
    · exact hso v hv) hRp hS
theorem sim_lload_n (C : Ctx p R s m args meth c base nL z0 s0 zE sE H0 own y ret cc d) (hK : ∀ pc ls st h, K pc ls st h → hz h ≤ zE ∧ hs h ≤ sE ∧ Sim p l e R s m args below meth c Q D base adK adV nL z0 s0 zE sE H0 pc ls st h) {i : Fin 4} (hc : echk own y ret nL cc (pc, .lload_n i, nx, a, k, q, z) = true) (hst : ∃ x, lget ls i.val = some (aJ x) ∧ K nx ls (aJ x :: st) h) : Sim p l e R s m args below meth c Q D base adK adV nL z0 s0 zE sE H0 pc ls st h := by
  simp only [echk, Bool.and_eq_true, Bool.or_eq_true, decide_eq_true_eq, and_true, Bool.not_eq_true'] at hc
  try simp only [ilen] at hc
  obtain ⟨⟨hd, hlt⟩, rfl⟩ := hc
  rw [Nat.add_sub_cancel_left] at hd
  obtain ⟨x, hx, hk⟩ := hst
  obtain ⟨g1, g2, g3⟩ := hK _ _ _ _ hk
  intro hb4 lsC H locs hl hlo hso hRp hS
  refine lv_lload_n C.1 C.2.1 hd rfl (lget_has hl hx) ?_
  exact g3 hb4 lsC H locs hl hlo (fun v hv => by
    rcases List.mem_cons.mp hv with rfl | hv
    · exact lget_ok hlo hx
    · exact hso v hv) hRp hS
theorem sim_dload (C : Ctx p R s m args meth c base nL z0 s0 zE sE H0 own y ret cc d) (hK : ∀ pc ls st h, K pc ls st h → hz h ≤ zE ∧ hs h ≤ sE ∧ Sim p l e R s m args below meth c Q D base adK adV nL z0 s0 zE sE H0 pc ls st h) {i : Nat} (hc : echk own y ret nL cc (pc, .dload i, nx, a, k, q, z) = true) (hst : ∃ x, lget ls i = some (aD x) ∧ K nx ls (aD x :: st) h) : Sim p l e R s m args below meth c Q D base adK adV nL z0 s0 zE sE H0 pc ls st h := by
  simp only [echk, Bool.and_eq_true, Bool.or_eq_true, decide_eq_true_eq, and_true, Bool.not_eq_true'] at hc
  try simp only [ilen] at hc
  obtain ⟨⟨hd, hlt⟩, rfl⟩ := hc
  rw [Nat.add_sub_cancel_left] at hd
  obtain ⟨x, hx, hk⟩ := hst
  obtain ⟨g1, g2, g3⟩ := hK _ _ _ _ hk
  intro hb4 lsC H locs hl hlo hso hRp hS
  refine lv_dload C.1 C.2.1 hd (lget_has hl hx) ?_
  exact g3 hb4 lsC H locs hl hlo (fun v hv => by
    rcases List.mem_cons.mp hv with rfl | hv
    · exact lget_ok hlo hx
    · exact hso v hv) hRp hS
theorem sim_dload_n (C : Ctx p R s m args meth c base nL z0 s0 zE sE H0 own y ret cc d) (hK : ∀ pc ls st h, K pc ls st h → hz h ≤ zE ∧ hs h ≤ sE ∧ Sim p l e R s m args below meth c Q D base adK adV nL z0 s0 zE sE H0 pc ls st h) {i : Fin 4} (hc : echk own y ret nL cc (pc, .dload_n i, nx, a, k, q, z) = true) (hst : ∃ x, lget ls i.val = some (aD x) ∧ K nx ls (aD x :: st) h) : Sim p l e R s m args below meth c Q D base adK adV nL z0 s0 zE sE H0 pc ls st h := by
  simp only [echk, Bool.and_eq_true, Bool.or_eq_true, decide_eq_true_eq, and_true, Bool.not_eq_true'] at hc
  try simp only [ilen] at hc
  obtain ⟨⟨hd, hlt⟩, rfl⟩ := hc
  rw [Nat.add_sub_cancel_left] at hd
  obtain ⟨x, hx, hk⟩ := hst
  obtain ⟨g1, g2, g3⟩ := hK _ _ _ _ hk
  intro hb4 lsC H locs hl hlo hso hRp hS
  refine lv_dload_n C.1 C.2.1 hd rfl (lget_has hl hx) ?_
  exact g3 hb4 lsC H locs hl hlo (fun v hv => by
    rcases List.mem_cons.mp hv with rfl | hv
    · exact lget_ok hlo hx
    · exact hso v hv) hRp hS
theorem sim_aload (C : Ctx p R s m args meth c base nL z0 s0 zE sE H0 own y ret cc d) (hK : ∀ pc ls st h, K pc ls st h → hz h ≤ zE ∧ hs h ≤ sE ∧ Sim p l e R s m args below meth c Q D base adK adV nL z0 s0 zE sE H0 pc ls st h) {i : Nat} (hc : echk own y ret nL cc (pc, .aload i, nx, a, k, q, z) = true) (hst : ∃ x, lget ls i = some (aO x) ∧ K nx ls (aO x :: st) h) : Sim p l e R s m args below meth c Q D base adK adV nL z0 s0 zE sE H0 pc ls st h := by
  simp only [echk, Bool.and_eq_true, Bool.or_eq_true, decide_eq_true_eq, and_true, Bool.not_eq_true'] at hc
  try simp only [ilen] at hc
  obtain ⟨⟨hd, hlt⟩, rfl⟩ := hc
  rw [Nat.add_sub_cancel_left] at hd
  obtain ⟨x, hx, hk⟩ := hst
  obtain ⟨g1, g2, g3⟩ := hK _ _ _ _ hk
  intro hb4 lsC H locs hl hlo hso hRp hS
  cases x with
  | none =>
    refine lv_aloadN C.1 C.2.1 hd (lget_has hl hx) ?_
    exact g3 hb4 lsC H locs hl hlo (fun v hv => by
      rcases List.mem_cons.mp hv with rfl | hv
      · exact trivial
      · exact hso v hv) hRp hS
  | some x =>
    refine lv_aload C.1 C.2.1 hd (lget_has hl hx) ?_
    exact g3 hb4 lsC H locs hl hlo (fun v hv => by
      rcases List.mem_cons.mp hv with rfl | hv
      · exact trivial
      · exact hso v hv) hRp hS
theorem sim_aload_n (C : Ctx p R s m args meth c base nL z0 s0 zE sE H0 own y ret cc d) (hK : ∀ pc ls st h, K pc ls st h → hz h ≤ zE ∧ hs h ≤ sE ∧ Sim p l e R s m args below meth c Q D base adK adV nL z0 s0 zE sE H0 pc ls st h) {i : Fin 4} (hc : echk own y ret nL cc (pc, .aload_n i, nx, a, k, q, z) = true) (hst : ∃ x, lget ls i.val = some (aO x) ∧ K nx ls (aO x :: st) h) : Sim p l e R s m args below meth c Q D base adK adV nL z0 s0 zE sE H0 pc ls st h := by
  simp only [echk, Bool.and_eq_true, Bool.or_eq_true, decide_eq_true_eq, and_true, Bool.not_eq_true'] at hc
  try simp only [ilen] at hc
  obtain ⟨⟨hd, hlt⟩, rfl⟩ := hc
  rw [Nat.add_sub_cancel_left] at hd
  obtain ⟨x, hx, hk⟩ := hst
  obtain ⟨g1, g2, g3⟩ := hK _ _ _ _ hk
  intro hb4 lsC H locs hl hlo hso hRp hS
  cases x with
  | none =>
    refine lv_aload_nN C.1 C.2.1 hd rfl (lget_has hl hx) ?_
    exact g3 hb4 lsC H locs hl hlo (fun v hv => by
      rcases List.mem_cons.mp hv with rfl | hv
      · exact trivial
      · exact hso v hv) hRp hS
  | some x =>
    refine lv_aload_n C.1 C.2.1 hd rfl (lget_has hl hx) ?_
    exact g3 hb4 lsC H locs hl hlo (fun v hv => by
      rcases List.mem_cons.mp hv with rfl | hv
      · exact trivial
      · exact hso v hv) hRp hS
theorem sim_istore (C : Ctx p R s m args meth c base nL z0 s0 zE sE H0 own y ret cc d) (hK : ∀ pc ls st h, K pc ls st h → hz h ≤ zE ∧ hs h ≤ sE ∧ Sim p l e R s m args below meth c Q D base adK adV nL z0 s0 zE sE H0 pc ls st h) {i : Nat} (hc : echk own y ret nL cc (pc, .istore i, nx, a, k, q, z) = true) (hst : ∃ x s, st = aI x :: s ∧ K nx (lput1 ls i (aI x)) s h) : Sim p l e R s m args below meth c Q D base adK adV nL z0 s0 zE sE H0 pc ls st h := by
  simp only [echk, Bool.and_eq_true, Bool.or_eq_true, decide_eq_true_eq, and_true, Bool.not_eq_true'] at hc
  try simp only [ilen] at hc
  obtain ⟨⟨hd, hlt⟩, rfl, hi⟩ := hc
  rw [Nat.add_sub_cancel_left] at hd
  obtain ⟨x, s1, rfl, hk⟩ := hst
  obtain ⟨g1, g2, g3⟩ := hK _ _ _ _ hk
  intro hb4 lsC H locs hl hlo hso hRp hS
  refine lv_istore C.1 C.2.1 hd hl hi (lput1_map ls i (aI x)) (fun ls1 hl1 => ?_)
  exact g3 hb4 ls1 H locs hl1 (lput1_ok hlo (hso _ List.mem_cons_self)) (fun v hv => hso v (List.mem_cons_of_mem _ hv)) hRp hS
theorem sim_istore_n (C : Ctx p R s m args meth c base nL z0 s0 zE sE H0 own y ret cc d) (hK : ∀ pc ls st h, K pc ls st h → hz h ≤ zE ∧ hs h ≤ sE ∧ Sim p l e R s m args below meth c Q D base adK adV nL z0 s0 zE sE H0 pc ls st h) {i : Fin 4} (hc : echk own y ret nL cc (pc, .istore_n i, nx, a, k, q, z) = true) (hst : ∃ x s, st = aI x :: s ∧ K nx (lput1 ls i.val (aI x)) s h) : Sim p l e R s m args below meth c Q D base adK adV nL z0 s0 zE sE H0 pc ls st h := by
  simp only [echk, Bool.and_eq_true, Bool.or_eq_true, decide_eq_true_eq, and_true, Bool.not_eq_true'] at hc
  try simp only [ilen] at hc
  obtain ⟨⟨hd, hlt⟩, rfl, hi⟩ := hc
  rw [Nat.add_sub_cancel_left] at hd
  obtain ⟨x, s1, rfl, hk⟩ := hst
  obtain ⟨g1, g2, g3⟩ := hK _ _ _ _ hk
  intro hb4 lsC H locs hl hlo hso hRp hS
  refine lv_istore_n C.1 C.2.1 hd rfl hl hi (lput1_map ls i.val (aI x)) (fun ls1 hl1 => ?_)
  exact g3 hb4 ls1 H locs hl1 (lput1_ok hlo (hso _ List.mem_cons_self)) (fun v hv => hso v (List.mem_cons_of_mem _ hv)) hRp hS
theorem sim_lstore (C : Ctx p R s m args meth c base nL z0 s0 zE sE H0 own y ret cc d) (hK : ∀ pc ls st h, K pc ls st h → hz h ≤ zE ∧ hs h ≤ sE ∧ Sim p l e R s m args below meth c Q D base adK adV nL z0 s0 zE sE H0 pc ls st h) {i : Nat} (hc : echk own y ret nL cc (pc, .lstore i, nx, a, k, q, z) = true) (hst : ∃ x s, st = aJ x :: s ∧ K nx (lput2 ls i (aJ x)) s h) : Sim p l e R s m args below meth c Q D base adK adV nL z0 s0 zE sE H0 pc ls st h := by
  simp only [echk, Bool.and_eq_true, Bool.or_eq_true, decide_eq_true_eq, and_true, Bool.not_eq_true'] at hc
  try simp only [ilen] at hc
  obtain ⟨⟨hd, hlt⟩, rfl, hi⟩ := hc
  rw [Nat.add_sub_cancel_left] at hd
  obtain ⟨x, s1, rfl, hk⟩ := hst
  obtain ⟨g1, g2, g3⟩ := hK _ _ _ _ hk
  intro hb4 lsC H locs hl hlo hso hRp hS
  refine lv_lstore C.1 C.2.1 hd hl hi (lput2_map ls i (aJ x)) (fun ls1 hl1 => ?_)
  exact g3 hb4 ls1 H locs hl1 (lput2_ok hlo (hso _ List.mem_cons_self)) (fun v hv => hso v (List.mem_cons_of_mem _ hv)) hRp hS
theorem sim_lstore_n (C : Ctx p R s m args meth c base nL z0 s0 zE sE H0 own y ret cc d) (hK : ∀ pc ls st h, K pc ls st h → hz h ≤ zE ∧ hs h ≤ sE ∧ Sim p l e R s m args below meth c Q D base adK adV nL z0 s0 zE sE H0 pc ls st h) {i : Fin 4} (hc : echk own y ret nL cc (pc, .lstore_n i, nx, a, k, q, z) = true) (hst : ∃ x s, st = aJ x :: s ∧ K nx (lput2 ls i.val (aJ x)) s h) : Sim p l e R s m args below meth c Q D base adK adV nL z0 s0 zE sE H0 pc ls st h := by
  simp only [echk, Bool.and_eq_true, Bool.or_eq_true, decide_eq_true_eq, and_true, Bool.not_eq_true'] at hc
  try simp only [ilen] at hc
  obtain ⟨⟨hd, hlt⟩, rfl, hi⟩ := hc
  rw [Nat.add_sub_cancel_left] at hd
  obtain ⟨x, s1, rfl, hk⟩ := hst
  obtain ⟨g1, g2, g3⟩ := hK _ _ _ _ hk
  intro hb4 lsC H locs hl hlo hso hRp hS
  refine lv_lstore_n C.1 C.2.1 hd rfl hl hi (lput2_map ls i.val (aJ x)) (fun ls1 hl1 => ?_)
  exact g3 hb4 ls1 H locs hl1 (lput2_ok hlo (hso _ List.mem_cons_self)) (fun v hv => hso v (List.mem_cons_of_mem _ hv)) hRp hS
theorem sim_dstore (C : Ctx p R s m args meth c base nL z0 s0 zE sE H0 own y ret cc d) (hK : ∀ pc ls st h, K pc ls st h → hz h ≤ zE ∧ hs h ≤ sE ∧ Sim p l e R s m args below meth c Q D base adK adV nL z0 s0 zE sE H0 pc ls st h) {i : Nat} (hc : echk own y ret nL cc (pc, .dstore i, nx, a, k, q, z) = true) (hst : ∃ x s, st = aD x :: s ∧ K nx (lput2 ls i (aD x)) s h) : Sim p l e R s m args below meth c Q D base adK adV nL z0 s0 zE sE H0 pc ls st h := by
  simp only [echk, Bool.and_eq_true, Bool.or_eq_true, decide_eq_true_eq, and_true, Bool.not_eq_true'] at hc
  try simp only [ilen] at hc
  obtain ⟨⟨hd, hlt⟩, rfl, hi⟩ := hc
  rw [Nat.add_sub_cancel_left] at hd
  obtain ⟨x, s1, rfl, hk⟩ := hst
  obtain ⟨g1, g2, g3⟩ := hK _ _ _ _ hk
  intro hb4 lsC H locs hl hlo hso hRp hS
  refine lv_dstore C.1 C.2.1 hd hl hi (lput2_map ls i (aD x)) (fun ls1 hl1 => ?_)
  exact g3 hb4 ls1 H locs hl1 (lput2_ok hlo (hso _ List.mem_cons_self)) (fun v hv => hso v (List.mem_cons_of_mem _ hv)) hRp hS
theorem sim_dstore_n (C : Ctx p R s m args meth c base nL z0 s0 zE sE H0 own y ret cc d) (hK : ∀ pc ls st h, K pc ls st h → hz h ≤ zE ∧ hs h ≤ sE ∧ Sim p l e R s m args below meth c Q D base adK adV nL z0 s0 zE sE H0 pc ls st h) {i : Fin 4} (hc : echk own y ret nL cc (pc, .dstore_n i, nx, a, k, q, z) = true) (hst : ∃ x s, st = aD x :: s ∧ K nx (lput2 ls i.val (aD x)) s h) : Sim p l e R s m args below meth c Q D base adK adV nL z0 s0 zE sE H0 pc ls st h := by
  simp only [echk, Bool.and_eq_true, Bool.or_eq_true, decide_eq_true_eq, and_true, Bool.not_eq_true'] at hc
  try simp only [ilen] at hc
  obtain ⟨⟨hd, hlt⟩, rfl, hi⟩ := hc
  rw [Nat.add_sub_cancel_left] at hd
  obtain ⟨x, s1, rfl, hk⟩ := hst
  obtain ⟨g1, g2, g3⟩ := hK _ _ _ _ hk
  intro hb4 lsC H locs hl hlo hso hRp hS
  refine lv_dstore_n C.1 C.2.1 hd rfl hl hi (lput2_map ls i.val (aD x)) (fun ls1 hl1 => ?_)
  exact g3 hb4 ls1 H locs hl1 (lput2_ok hlo (hso _ List.mem_cons_self)) (fun v hv => hso v (List.mem_cons_of_mem _ hv)) hRp hS
theorem sim_astore (C : Ctx p R s m args meth c base nL z0 s0 zE sE H0 own y ret cc d) (hK : ∀ pc ls st h, K pc ls st h → hz h ≤ zE ∧ hs h ≤ sE ∧ Sim p l e R s m args below meth c Q D base adK adV nL z0 s0 zE sE H0 pc ls st h) {i : Nat} (hc : echk own y ret nL cc (pc, .astore i, nx, a, k, q, z) = true) (hst : ∃ x s, st = aO x :: s ∧ K nx (lput1 ls i (aO x)) s h) : Sim p l e R s m args below meth c Q D base adK adV nL z0 s0 zE sE H0 pc ls st h := by
  simp only [echk, Bool.and_eq_true, Bool.or_eq_true, decide_eq_true_eq, and_true, Bool.not_eq_true'] at hc
  try simp only [ilen] at hc
  obtain ⟨⟨hd, hlt⟩, rfl, hi⟩ := hc
  rw [Nat.add_sub_cancel_left] at hd
  obtain ⟨x, s1, rfl, hk⟩ := hst
  obtain ⟨g1, g2, g3⟩ := hK _ _ _ _ hk
  intro hb4 lsC H locs hl hlo hso hRp hS
  cases x with
  | none =>
    refine lv_astoreN C.1 C.2.1 hd hl hi (lput1_map ls i (aO none)) (fun ls1 hl1 => ?_)
    exact g3 hb4 ls1 H locs hl1 (lput1_ok hlo (hso _ List.mem_cons_self)) (fun v hv => hso v (List.mem_cons_of_mem _ hv)) hRp hS
  | some x =>
    refine lv_astore C.1 C.2.1 hd hl hi (lput1_map ls i (aO (some x))) (fun ls1 hl1 => ?_)
    exact g3 hb4 ls1 H locs hl1 (lput1_ok hlo (hso _ List.mem_cons_self)) (fun v hv => hso v (List.mem_cons_of_mem _ hv)) hRp hS
theorem sim_astore_n (C : Ctx p R s m args meth c base nL z0 s0 zE sE H0 own y ret cc d) (hK : ∀ pc ls st h, K pc ls st h → hz h ≤ zE ∧ hs h ≤ sE ∧ Sim p l e R s m args below meth c Q D base adK adV nL z0 s0 zE sE H0 pc ls st h) {i : Fin 4} (hc : echk own y ret nL cc (pc, .astore_n i, nx, a, k, q, z) = true) (hst : ∃ x s, st = aO x :: s ∧ K nx (lput1 ls i.val (aO x)) s h) : Sim p l e R s m args below meth c Q D base adK adV nL z0 s0 zE sE H0 pc ls st h := by
  simp only [echk, Bool.and_eq_true, Bool.or_eq_true, decide_eq_true_eq, and_true, Bool.not_eq_true'] at hc
  try simp only [ilen] at hc
  obtain ⟨⟨hd, hlt⟩, rfl, hi⟩ := hc
  rw [Nat.add_sub_cancel_left] at hd
  obtain ⟨x, s1, rfl, hk⟩ := hst
  obtain ⟨g1, g2, g3⟩ := hK _ _ _ _ hk
  intro hb4 lsC H locs hl hlo hso hRp hS
  cases x with
  | none =>
    refine lv_astore_nN C.1 C.2.1 hd rfl hl hi (lput1_map ls i.val (aO none)) (fun ls1 hl1 => ?_)
    exact g3 hb4 ls1 H locs hl1 (lput1_ok hlo (hso _ List.mem_cons_self)) (fun v hv => hso v (List.mem_cons_of_mem _ hv)) hRp hS
  | some x =>
    refine lv_astore_n C.1 C.2.1 hd rfl hl hi (lput1_map ls i.val (aO (some x))) (fun ls1 hl1 => ?_)
    exact g3 hb4 ls1 H locs hl1 (lput1_ok hlo (hso _ List.mem_cons_self)) (fun v hv => hso v (List.mem_cons_of_mem _ hv)) hRp hS
theorem sim_iinc (C : Ctx p R s m args meth c base nL z0 s0 zE sE H0 own y ret cc d) (hK : ∀ pc ls st h, K pc ls st h → hz h ≤ zE ∧ hs h ≤ sE ∧ Sim p l e R s m args below meth c Q D base adK adV nL z0 s0 zE sE H0 pc ls st h) {i : Nat} {n : Int} (hc : echk own y ret nL cc (pc, .iinc i n, nx, a, k, q, z) = true) (hst : ∃ x, lget ls i = some (aI x) ∧ K nx (lput1 ls i (aI (w32 (x + n)))) st h) : Sim p l e R s m args below meth c Q D base adK adV nL z0 s0 zE sE H0 pc ls st h := by
  simp only [echk, Bool.and_eq_true, Bool.or_eq_true, decide_eq_true_eq, and_true, Bool.not_eq_true'] at hc
  try simp only [ilen] at hc
  obtain ⟨⟨hd, hlt⟩, rfl, hi⟩ := hc
  rw [Nat.add_sub_cancel_left] at hd
  obtain ⟨x, hx, hk⟩ := hst
  obtain ⟨g1, g2, g3⟩ := hK _ _ _ _ hk
  intro hb4 lsC H locs hl hlo hso hRp hS
  obtain ⟨k0, hk0⟩ := lget_at hx
  refine lv_iinc C.1 C.2.1 hd hl (k := k0) (v := Int32.ofInt (w32 (x + n))) (by rw [List.getElem?_map, hk0]; rfl) (i32_add x n) hi (lput1_map ls i (aI (w32 (x + n)))) (fun ls1 hl1 => ?_)
  exact g3 hb4 ls1 H locs hl1 (lput1_ok hlo (r32_w _)) hso hRp hS
theorem sim_dup (C : Ctx p R s m args meth c base nL z0 s0 zE sE H0 own y ret cc d) (hK : ∀ pc ls st h, K pc ls st h → hz h ≤ zE ∧ hs h ≤ sE ∧ Sim p l e R s m args below meth c Q D base adK adV nL z0 s0 zE sE H0 pc ls st h) (hc : echk own y ret nL cc (pc, .dup, nx, a, k, q, z) = true) (hst : ∃ v s, st = v :: s ∧ acat v = 1 ∧ K nx ls (v :: v :: s) h) : Sim p l e R s m args below meth c Q D base adK adV nL z0 s0 zE sE H0 pc ls st h := by
  simp only [echk, Bool.and_eq_true, Bool.or_eq_true, decide_eq_true_eq, and_true, Bool.not_eq_true'] at hc
  try simp only [ilen] at hc
  obtain ⟨⟨hd, hlt⟩, rfl⟩ := hc
  rw [Nat.add_sub_cancel_left] at hd
  obtain ⟨v, s1, rfl, hv1, hk⟩ := hst
  obtain ⟨g1, g2, g3⟩ := hK _ _ _ _ hk
  intro hb4 lsC H locs hl hlo hso hRp hS
  refine lv_dup C.1 C.2.1 hd (by rw [cat_c]; exact hv1) ?_
  exact g3 hb4 lsC H locs hl hlo (fun v0 hv => by
    rcases List.mem_cons.mp hv with rfl | hv
    · exact hso _ List.mem_cons_self
    · exact hso _ hv) hRp hS
theorem sim_dup2 (C : Ctx p R s m args meth c base nL z0 s0 zE sE H0 own y ret cc d) (hK : ∀ pc ls st h, K pc ls st h → hz h ≤ zE ∧ hs h ≤ sE ∧ Sim p l e R s m args below meth c Q D base adK adV nL z0 s0 zE sE H0 pc ls st h) (hc : echk own y ret nL cc (pc, .dup2, nx, a, k, q, z) = true) (hst : ∃ v u s, st = v :: u :: s ∧ acat v = 1 ∧ acat u = 1 ∧ K nx ls (v :: u :: v :: u :: s) h) : Sim p l e R s m args below meth c Q D base adK adV nL z0 s0 zE sE H0 pc ls st h := by
  simp only [echk, Bool.and_eq_true, Bool.or_eq_true, decide_eq_true_eq, and_true, Bool.not_eq_true'] at hc
  try simp only [ilen] at hc
  obtain ⟨⟨hd, hlt⟩, rfl⟩ := hc
  rw [Nat.add_sub_cancel_left] at hd
  obtain ⟨v, u, s1, rfl, hv1, hu1, hk⟩ := hst
  obtain ⟨g1, g2, g3⟩ := hK _ _ _ _ hk
  intro hb4 lsC H locs hl hlo hso hRp hS
  refine lv_dup2_11 C.1 C.2.1 hd (by rw [cat_c]; exact hv1) (by rw [cat_c]; exact hu1) ?_
  exact g3 hb4 lsC H locs hl hlo (fun v0 hv => by
    rcases List.mem_cons.mp hv with rfl | hv
    · exact hso _ List.mem_cons_self
    rcases List.mem_cons.mp hv with rfl | hv
    · exact hso _ (List.mem_cons_of_mem _ List.mem_cons_self)
    · exact hso _ hv) hRp hS
theorem sim_pop (C : Ctx p R s m args meth c base nL z0 s0 zE sE H0 own y ret cc d) (hK : ∀ pc ls st h, K pc ls st h → hz h ≤ zE ∧ hs h ≤ sE ∧ Sim p l e R s m args below meth c Q D base adK adV nL z0 s0 zE sE H0 pc ls st h) (hc : echk own y ret nL cc (pc, .pop, nx, a, k, q, z) = true) (hst : ∃ v s, st = v :: s ∧ acat v = 1 ∧ K nx ls s h) : Sim p l e R s m args below meth c Q D base adK adV nL z0 s0 zE sE H0 pc ls st h := by
  simp only [echk, Bool.and_eq_true, Bool.or_eq_true, decide_eq_true_eq, and_true, Bool.not_eq_true'] at hc
  try simp only [ilen] at hc
  obtain ⟨⟨hd, hlt⟩, rfl⟩ := hc
  rw [Nat.add_sub_cancel_left] at hd
  obtain ⟨v, s1, rfl, hv1, hk⟩ := hst
  obtain ⟨g1, g2, g3⟩ := hK _ _ _ _ hk
  intro hb4 lsC H locs hl hlo hso hRp hS
  refine lv_pop C.1 C.2.1 hd (by rw [cat_c]; exact hv1) ?_
  exact g3 hb4 lsC H locs hl hlo (fun v0 hv => hso _ (List.mem_cons_of_mem _ hv)) hRp hS
theorem sim_if_icmp (C : Ctx p R s m args meth c base nL z0 s0 zE sE H0 own y ret cc d) (hK : ∀ pc ls st h, K pc ls st h → hz h ≤ zE ∧ hs h ≤ sE ∧ Sim p l e R s m args below meth c Q D base adK adV nL z0 s0 zE sE H0 pc ls st h) {cnd : ClassFile.Cond} {off : Int} (hc : echk own y ret nL cc (pc, .if_icmp cnd off, nx, a, k, q, z) = true) (hst : ∃ Y X s, st = aI Y :: aI X :: s ∧ K (bif ccmp cnd X Y then a else nx) ls s h) : Sim p l e R s m args below meth c Q D base adK adV nL z0 s0 zE sE H0 pc ls st h := by
  simp only [echk, Bool.and_eq_true, Bool.or_eq_true, decide_eq_true_eq, and_true, Bool.not_eq_true'] at hc
  try simp only [ilen] at hc
  obtain ⟨⟨hd, hlt⟩, rfl, ht⟩ := hc
  rw [Nat.add_sub_cancel_left] at hd
  obtain ⟨Y, X, s1, rfl, hk⟩ := hst
  obtain ⟨g1, g2, g3⟩ := hK _ _ _ _ hk
  intro hb4 lsC H locs hl hlo hso hRp hS
  have hY : r32 Y := hso (aI Y) List.mem_cons_self
  have hX : r32 X := hso (aI X) (List.mem_cons_of_mem _ List.mem_cons_self)
  cases cnd
  case eq =>
    refine lv_icmp_eq (tgt := a) C.1 C.2.1 hd ht (fun w => ?_) (fun w => ?_)
    · have e1 : ccmp .eq X Y = true := (by have h9 : X = Y := (i32_inj hX hY).mp w; simp only [ccmp]; simp only [h9, decide_true, decide_false, Bool.not_true, Bool.not_false, not_false_eq_true])
      rw [e1] at g3
      exact g3 hb4 lsC H locs hl hlo (fun v hv => hso v (List.mem_cons_of_mem _ (List.mem_cons_of_mem _ hv))) hRp hS
    · have e1 : ccmp .eq X Y = false := (by have h9 : ¬ X = Y := fun u => w ((i32_inj hX hY).mpr u); simp only [ccmp]; simp only [h9, decide_true, decide_false, Bool.not_true, Bool.not_false, not_false_eq_true])
      rw [e1] at g3
      exact g3 hb4 lsC H locs hl hlo (fun v hv => hso v (List.mem_cons_of_mem _ (List.mem_cons_of_mem _ hv))) hRp hS
  case ne =>
    refine lv_icmp_ne (tgt := a) C.1 C.2.1 hd ht (fun w => ?_) (fun w => ?_)
    · have e1 : ccmp .ne X Y = true := (by have h9 : ¬ X = Y := fun u => w ((i32_inj hX hY).mpr u); simp only [ccmp]; simp only [h9, decide_true, decide_false, Bool.not_true, Bool.not_false, not_false_eq_true])
      rw [e1] at g3
      exact g3 hb4 lsC H locs hl hlo (fun v hv => hso v (List.mem_cons_of_mem _ (List.mem_cons_of_mem _ hv))) hRp hS
    · have e1 : ccmp .ne X Y = false := (by have h9 : X = Y := (i32_inj hX hY).mp w; simp only [ccmp]; simp only [h9, decide_true, decide_false, Bool.not_true, Bool.not_false, not_false_eq_true])
      rw [e1] at g3
      exact g3 hb4 lsC H locs hl hlo (fun v hv => hso v (List.mem_cons_of_mem _ (List.mem_cons_of_mem _ hv))) hRp hS
  case lt =>
    refine lv_icmp_lt (tgt := a) C.1 C.2.1 hd ht (fun w => ?_) (fun w => ?_)
    · have e1 : ccmp .lt X Y = true := (by have h9 : X < Y := (i32_lt hX hY).mp w; simp only [ccmp]; simp only [h9, decide_true, decide_false, Bool.not_true, Bool.not_false, not_false_eq_true])
      rw [e1] at g3
      exact g3 hb4 lsC H locs hl hlo (fun v hv => hso v (List.mem_cons_of_mem _ (List.mem_cons_of_mem _ hv))) hRp hS
    · have e1 : ccmp .lt X Y = false := (by have h9 : ¬ X < Y := fun u => w ((i32_lt hX hY).mpr u); simp only [ccmp]; simp only [h9, decide_true, decide_false, Bool.not_true, Bool.not_false, not_false_eq_true])
      rw [e1] at g3
      exact g3 hb4 lsC H locs hl hlo (fun v hv => hso v (List.mem_cons_of_mem _ (List.mem_cons_of_mem _ hv))) hRp hS
  case ge =>
    refine lv_icmp_ge (tgt := a) C.1 C.2.1 hd ht (fun w => ?_) (fun w => ?_)
    · have e1 : ccmp .ge X Y = true := (by have h9 : ¬ X < Y := (i32_le hX hY).mp w; simp only [ccmp]; simp only [h9, decide_true, decide_false, Bool.not_true, Bool.not_false, not_false_eq_true])
      rw [e1] at g3
      exact g3 hb4 lsC H locs hl hlo (fun v hv => hso v (List.mem_cons_of_mem _ (List.mem_cons_of_mem _ hv))) hRp hS
    · have e1 : ccmp .ge X Y = false := (by have h9 : X < Y := Decidable.of_not_not (fun u => w ((i32_le hX hY).mpr u)); simp only [ccmp]; simp only [h9, decide_true, decide_false, Bool.not_true, Bool.not_false, not_false_eq_true])
      rw [e1] at g3
      exact g3 hb4 lsC H locs hl hlo (fun v hv => hso v (List.mem_cons_of_mem _ (List.mem_cons_of_mem _ hv))) hRp hS
  case gt =>
    refine lv_icmp_gt (tgt := a) C.1 C.2.1 hd ht (fun w => ?_) (fun w => ?_)
    · have e1 : ccmp .gt X Y = true := (by have h9 : Y < X := (i32_lt hY hX).mp w; simp only [ccmp]; simp only [h9, decide_true, decide_false, Bool.not_true, Bool.not_false, not_false_eq_true])
      rw [e1] at g3
      exact g3 hb4 lsC H locs hl hlo (fun v hv => hso v (List.mem_cons_of_mem _ (List.mem_cons_of_mem _ hv))) hRp hS
    · have e1 : ccmp .gt X Y = false := (by have h9 : ¬ Y < X := fun u => w ((i32_lt hY hX).mpr u); simp only [ccmp]; simp only [h9, decide_true, decide_false, Bool.not_true, Bool.not_false, not_false_eq_true])
      rw [e1] at g3
      exact g3 hb4 lsC H locs hl hlo (fun v hv => hso v (List.mem_cons_of_mem _ (List.mem_cons_of_mem _ hv))) hRp hS
  case le =>
    refine lv_icmp_le (tgt := a) C.1 C.2.1 hd ht (fun w => ?_) (fun w => ?_)
    · have e1 : ccmp .le X Y = true := (by have h9 : ¬ Y < X := (i32_le hY hX).mp w; simp only [ccmp]; simp only [h9, decide_true, decide_false, Bool.not_true, Bool.not_false, not_false_eq_true])
      rw [e1] at g3
      exact g3 hb4 lsC H locs hl hlo (fun v hv => hso v (List.mem_cons_of_mem _ (List.mem_cons_of_mem _ hv))) hRp hS
    · have e1 : ccmp .le X Y = false := (by have h9 : Y < X := Decidable.of_not_not (fun u => w ((i32_le hY hX).mpr u)); simp only [ccmp]; simp only [h9, decide_true, decide_false, Bool.not_true, Bool.not_false, not_false_eq_true])
      rw [e1] at g3
      exact g3 hb4 lsC H locs hl hlo (fun v hv => hso v (List.mem_cons_of_mem _ (List.mem_cons_of_mem _ hv))) hRp hS
theorem sim_ifCond (C : Ctx p R s m args meth c base nL z0 s0 zE sE H0 own y ret cc d) (hK : ∀ pc ls st h, K pc ls st h → hz h ≤ zE ∧ hs h ≤ sE ∧ Sim p l e R s m args below meth c Q D base adK adV nL z0 s0 zE sE H0 pc ls st h) {cnd : ClassFile.Cond} {off : Int} (hc : echk own y ret nL cc (pc, .ifCond cnd off, nx, a, k, q, z) = true) (hst : ∃ X s, st = aI X :: s ∧ K (bif ccmp cnd X 0 then a else nx) ls s h) : Sim p l e R s m args below meth c Q D base adK adV nL z0 s0 zE sE H0 pc ls st h := by
  simp only [echk, Bool.and_eq_true, Bool.or_eq_true, decide_eq_true_eq, and_true, Bool.not_eq_true'] at hc
  try simp only [ilen] at hc
  obtain ⟨⟨hd, hlt⟩, rfl, ht⟩ := hc
  rw [Nat.add_sub_cancel_left] at hd
  obtain ⟨X, s1, rfl, hk⟩ := hst
  obtain ⟨g1, g2, g3⟩ := hK _ _ _ _ hk
  intro hb4 lsC H locs hl hlo hso hRp hS
  have hX : r32 X := hso (aI X) List.mem_cons_self
  cases cnd
  case eq =>
    refine lv_if_eq (tgt := a) C.1 C.2.1 hd ht (fun w => ?_) (fun w => ?_)
    · have e1 : ccmp .eq X 0 = true := (by have h9 : X = 0 := (i32_eq0 hX).mp w; simp only [ccmp]; simp only [h9, decide_true, decide_false, Bool.not_true, Bool.not_false, not_false_eq_true])
      rw [e1] at g3
      exact g3 hb4 lsC H locs hl hlo (fun v hv => hso v (List.mem_cons_of_mem _ hv)) hRp hS
    · have e1 : ccmp .eq X 0 = false := (by have h9 : ¬ X = 0 := fun u => w ((i32_eq0 hX).mpr u); simp only [ccmp]; simp only [h9, decide_true, decide_false, Bool.not_true, Bool.not_false, not_false_eq_true])
      rw [e1] at g3
      exact g3 hb4 lsC H locs hl hlo (fun v hv => hso v (List.mem_cons_of_mem _ hv)) hRp hS
  case ne =>
    refine lv_if_ne (tgt := a) C.1 C.2.1 hd ht (fun w => ?_) (fun w => ?_)
    · have e1 : ccmp .ne X 0 = true := (by have h9 : ¬ X = 0 := fun u => w ((i32_eq0 hX).mpr u); simp only [ccmp]; simp only [h9, decide_true, decide_false, Bool.not_true, Bool.not_false, not_false_eq_true])
      rw [e1] at g3
      exact g3 hb4 lsC H locs hl hlo (fun v hv => hso v (List.mem_cons_of_mem _ hv)) hRp hS
    · have e1 : ccmp .ne X 0 = false := (by have h9 : X = 0 := (i32_eq0 hX).mp w; simp only [ccmp]; simp only [h9, decide_true, decide_false, Bool.not_true, Bool.not_false, not_false_eq_true])
      rw [e1] at g3
      exact g3 hb4 lsC H locs hl hlo (fun v hv => hso v (List.mem_cons_of_mem _ hv)) hRp hS
  case lt =>
    refine lv_if_lt (tgt := a) C.1 C.2.1 hd ht (fun w => ?_) (fun w => ?_)
    · have e1 : ccmp .lt X 0 = true := (by have h9 : X < 0 := (i32_lt0 hX).mp w; simp only [ccmp]; simp only [h9, decide_true, decide_false, Bool.not_true, Bool.not_false, not_false_eq_true])
      rw [e1] at g3
      exact g3 hb4 lsC H locs hl hlo (fun v hv => hso v (List.mem_cons_of_mem _ hv)) hRp hS
    · have e1 : ccmp .lt X 0 = false := (by have h9 : ¬ X < 0 := fun u => w ((i32_lt0 hX).mpr u); simp only [ccmp]; simp only [h9, decide_true, decide_false, Bool.not_true, Bool.not_false, not_false_eq_true])
      rw [e1] at g3
      exact g3 hb4 lsC H locs hl hlo (fun v hv => hso v (List.mem_cons_of_mem _ hv)) hRp hS
  case ge =>
    refine lv_if_ge (tgt := a) C.1 C.2.1 hd ht (fun w => ?_) (fun w => ?_)
    · have e1 : ccmp .ge X 0 = true := (by have h9 : ¬ X < 0 := (i32_ge0 hX).mp w; simp only [ccmp]; simp only [h9, decide_true, decide_false, Bool.not_true, Bool.not_false, not_false_eq_true])
      rw [e1] at g3
      exact g3 hb4 lsC H locs hl hlo (fun v hv => hso v (List.mem_cons_of_mem _ hv)) hRp hS
    · have e1 : ccmp .ge X 0 = false := (by have h9 : X < 0 := Decidable.of_not_not (fun u => w ((i32_ge0 hX).mpr u)); simp only [ccmp]; simp only [h9, decide_true, decide_false, Bool.not_true, Bool.not_false, not_false_eq_true])
      rw [e1] at g3
      exact g3 hb4 lsC H locs hl hlo (fun v hv => hso v (List.mem_cons_of_mem _ hv)) hRp hS
  case gt =>
    refine lv_if_gt (tgt := a) C.1 C.2.1 hd ht (fun w => ?_) (fun w => ?_)
    · have e1 : ccmp .gt X 0 = true := (by have h9 : 0 < X := (i32_gt0 hX).mp w; simp only [ccmp]; simp only [h9, decide_true, decide_false, Bool.not_true, Bool.not_false, not_false_eq_true])
      rw [e1] at g3
      exact g3 hb4 lsC H locs hl hlo (fun v hv => hso v (List.mem_cons_of_mem _ hv)) hRp hS
    · have e1 : ccmp .gt X 0 = false := (by have h9 : ¬ 0 < X := fun u => w ((i32_gt0 hX).mpr u); simp only [ccmp]; simp only [h9, decide_true, decide_false, Bool.not_true, Bool.not_false, not_false_eq_true])
      rw [e1] at g3
      exact g3 hb4 lsC H locs hl hlo (fun v hv => hso v (List.mem_cons_of_mem _ hv)) hRp hS
  case le =>
    refine lv_if_le (tgt := a) C.1 C.2.1 hd ht (fun w => ?_) (fun w => ?_)
    · have e1 : ccmp .le X 0 = true := (by have h9 : ¬ 0 < X := (i32_le0 hX).mp w; simp only [ccmp]; simp only [h9, decide_true, decide_false, Bool.not_true, Bool.not_false, not_false_eq_true])
      rw [e1] at g3
      exact g3 hb4 lsC H locs hl hlo (fun v hv => hso v (List.mem_cons_of_mem _ hv)) hRp hS
    · have e1 : ccmp .le X 0 = false := (by have h9 : 0 < X := Decidable.of_not_not (fun u => w ((i32_le0 hX).mpr u)); simp only [ccmp]; simp only [h9, decide_true, decide_false, Bool.not_true, Bool.not_false, not_false_eq_true])
      rw [e1] at g3
      exact g3 hb4 lsC H locs hl hlo (fun v hv => hso v (List.mem_cons_of_mem _ hv)) hRp hS
theorem sim_ifnull (C : Ctx p R s m args meth c base nL z0 s0 zE sE H0 own y ret cc d) (hK : ∀ pc ls st h, K pc ls st h → hz h ≤ zE ∧ hs h ≤ sE ∧ Sim p l e R s m args below meth c Q D base adK adV nL z0 s0 zE sE H0 pc ls st h) {off : Int} (hc : echk own y ret nL cc (pc, .ifnull off, nx, a, k, q, z) = true) (hst : ∃ r s, st = aO r :: s ∧ K (bif r.isNone then a else nx) ls s h) : Sim p l e R s m args below meth c Q D base adK adV nL z0 s0 zE sE H0 pc ls st h := by
  simp only [echk, Bool.and_eq_true, Bool.or_eq_true, decide_eq_true_eq, and_true, Bool.not_eq_true'] at hc
  try simp only [ilen] at hc
  obtain ⟨⟨hd, hlt⟩, rfl, ht⟩ := hc
  rw [Nat.add_sub_cancel_left] at hd
  obtain ⟨r, s1, rfl, hk⟩ := hst
  obtain ⟨g1, g2, g3⟩ := hK _ _ _ _ hk
  intro hb4 lsC H locs hl hlo hso hRp hS
  cases r with
  | none =>
    refine lv_ifnullN (tgt := a) C.1 C.2.1 hd ht ?_
    exact g3 hb4 lsC H locs hl hlo (fun v hv => hso v (List.mem_cons_of_mem _ hv)) hRp hS
  | some r =>
    refine lv_ifnull C.1 C.2.1 hd ?_
    exact g3 hb4 lsC H locs hl hlo (fun v hv => hso v (List.mem_cons_of_mem _ hv)) hRp hS
theorem sim_ifnonnull (C : Ctx p R s m args meth c base nL z0 s0 zE sE H0 own y ret cc d) (hK : ∀ pc ls st h, K pc ls st h → hz h ≤ zE ∧ hs h ≤ sE ∧ Sim p l e R s m args below meth c Q D base adK adV nL z0 s0 zE sE H0 pc ls st h) {off : Int} (hc : echk own y ret nL cc (pc, .ifnonnull off, nx, a, k, q, z) = true) (hst : ∃ r s, st = aO r :: s ∧ K (bif r.isSome then a else nx) ls s h) : Sim p l e R s m args below meth c Q D base adK adV nL z0 s0 zE sE H0 pc ls st h := by
  simp only [echk, Bool.and_eq_true, Bool.or_eq_true, decide_eq_true_eq, and_true, Bool.not_eq_true'] at hc
  try simp only [ilen] at hc
  obtain ⟨⟨hd, hlt⟩, rfl, ht⟩ := hc
  rw [Nat.add_sub_cancel_left] at hd
  obtain ⟨r, s1, rfl, hk⟩ := hst
  obtain ⟨g1, g2, g3⟩ := hK _ _ _ _ hk
  intro hb4 lsC H locs hl hlo hso hRp hS
  cases r with
  | none =>
    refine lv_ifnonnullN C.1 C.2.1 hd ?_
    exact g3 hb4 lsC H locs hl hlo (fun v hv => hso v (List.mem_cons_of_mem _ hv)) hRp hS
  | some r =>
    refine lv_ifnonnull (tgt := a) C.1 C.2.1 hd ht ?_
    exact g3 hb4 lsC H locs hl hlo (fun v hv => hso v (List.mem_cons_of_mem _ hv)) hRp hS
theorem sim_goto (C : Ctx p R s m args meth c base nL z0 s0 zE sE H0 own y ret cc d) (hK : ∀ pc ls st h, K pc ls st h → hz h ≤ zE ∧ hs h ≤ sE ∧ Sim p l e R s m args below meth c Q D base adK adV nL z0 s0 zE sE H0 pc ls st h) {off : Int} (hc : echk own y ret nL cc (pc, .goto off, nx, a, k, q, z) = true) (hst : K a ls st h) : Sim p l e R s m args below meth c Q D base adK adV nL z0 s0 zE sE H0 pc ls st h := by
  simp only [echk, Bool.and_eq_true, Bool.or_eq_true, decide_eq_true_eq, and_true, Bool.not_eq_true'] at hc
  try simp only [ilen] at hc
  obtain ⟨⟨hd, hlt⟩, rfl, ht⟩ := hc
  rw [Nat.add_sub_cancel_left] at hd
  have hk := hst
  obtain ⟨g1, g2, g3⟩ := hK _ _ _ _ hk
  intro hb4 lsC H locs hl hlo hso hRp hS
  refine lv_goto (tgt := a) C.1 C.2.1 hd ht ?_
  exact g3 hb4 lsC H locs hl hlo hso hRp hS
end SIM
