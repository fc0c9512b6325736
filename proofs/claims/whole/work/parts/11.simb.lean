/-! the heap, arrays, returns and calls of the small machine, followed by the machine's own -/
theorem vwcl_at {c : Nat} (h : c < 13) : vwCl[c]? = some (cn c, clT c, clN c) := by
  match c, h with
  | 0, _ => rfl
  | 1, _ => rfl
  | 2, _ => rfl
  | 3, _ => rfl
  | 4, _ => rfl
  | 5, _ => rfl
  | 6, _ => rfl
  | 7, _ => rfl
  | 8, _ => rfl
  | 9, _ => rfl
  | 10, _ => rfl
  | 11, _ => rfl
  | 12, _ => rfl
  | n + 13, h => omega
theorem cln_le {c : Nat} (h : c < 13) : clN c ≤ 40 := by
  have : ∀ c, c < 13 → clN c ≤ 40 := by decide +kernel
  exact this c h
def tyG (c k : Nat) : FieldType := match parseFieldDescriptor (clT c k).2.2.1 with
  | some t => t
  | none => .int
theorem tyG_of {c k : Nat} (hc : c < 13) (hk : k < clN c) : parseFieldDescriptor (clT c k).2.2.1 = some (tyG c k) ∧ ((fsG c k = 0 ∧ tyG c k = .int) ∨ (fsG c k = 1 ∧ tyG c k = .long) ∨ (fsG c k = 2 ∧ ((∃ n, tyG c k = .object n) ∨ ∃ t, tyG c k = .array t))) := by
  have h := ty_all c hc k (by have := cln_le hc; omega)
  rw [Bool.or_eq_true, decide_eq_true_eq] at h
  rcases h with h | h
  · omega
  unfold tyG fsG
  cases e : parseFieldDescriptor (clT c k).2.2.1 with
  | none => rw [e] at h; cases h
  | some t =>
    rw [e] at h
    refine ⟨rfl, ?_⟩
    cases t <;> simp_all
theorem lay_of {c k : Nat} (hc : c < 13) (hk : k < clN c) : u_lay (cn c) (clT c) k ∈ WALL := by
  have h := lay_all c hc k (by have := cln_le hc; omega)
  rw [Bool.or_eq_true, decide_eq_true_eq] at h
  rcases h with h | h
  · omega
  refine wall_in (wAt_in h) ?_
  unfold u_lay
  split <;> rfl
theorem uws_of {c : Nat} (hc : c < 13) : ∀ w ∈ u_ws (cn c) (clT c) (clN c), w ∈ WALL := by
  intro w hw
  obtain ⟨k, hk, rfl⟩ := List.mem_map.mp hw
  exact lay_of hc (List.mem_range.mp hk)
theorem nm_of {c : Nat} (hc : c < 13) : ∀ a, a < clN c → ∀ b, b < clN c → a ≠ b → (clT c a).2.1 ≠ (clT c b).2.1 := by
  intro a ha b hb hab
  have hn := cln_le hc
  have h := nm_all c hc a (by omega) b (by omega)
  simp only [Bool.or_eq_true, decide_eq_true_eq] at h
  rcases h with ((h | h) | h) | h
  · omega
  · omega
  · exact absurd h hab
  · exact h
theorem flook_in {own idx a k : Nat} (h : flook own idx = some (a, k)) : Cond.fieldLink (cn own) idx (clT a k).1 (clT a k).2.1 (clT a k).2.2.1 ∈ WALL ∧ (clT a k).1 = cn a := by
  unfold flook at h
  cases e : flks.find? (fun e => e.1 == own && e.2.1 == idx) with
  | none => rw [e] at h; cases h
  | some x =>
    rw [e] at h
    have h1 := List.mem_of_find?_eq_some e
    have h2 := List.find?_some e
    have h3 := List.all_eq_true.mp fl_all x h1
    obtain ⟨x1, x2, x3, x4, x5⟩ := x
    simp only [Option.map_some, Option.some.injEq, Prod.mk.injEq] at h
    simp only [Bool.and_eq_true, beq_iff_eq] at h2
    obtain ⟨rfl, rfl⟩ := h2
    obtain ⟨rfl, rfl⟩ := h
    simp only [Bool.and_eq_true, decide_eq_true_eq] at h3
    exact ⟨wall_in (wAt_in h3.1.2) rfl, h3.2⟩
theorem mlook_in {own idx a : Nat} (h : mlook own idx = some a) (h9 : a ≠ 389) : Cond.methodLink (cn own) idx (bif a == 0 then objectInit else my a) ∈ WALL := by
  unfold mlook at h
  cases e : mlks.find? (fun e => e.1 == own && e.2.1 == idx) with
  | none => rw [e] at h; cases h
  | some x =>
    rw [e] at h
    have h1 := List.mem_of_find?_eq_some e
    have h2 := List.find?_some e
    have h3 := List.all_eq_true.mp ml_all x h1
    obtain ⟨x1, x2, x3, x4⟩ := x
    simp only [Option.map_some, Option.some.injEq] at h
    simp only [Bool.and_eq_true, beq_iff_eq] at h2
    obtain ⟨rfl, rfl⟩ := h2
    subst h
    simp only [Bool.or_eq_true, beq_iff_eq, Bool.and_eq_true] at h3
    exact wall_in (wAt_in (h3.resolve_left h9).1) rfl
theorem clok_in {own idx a : Nat} (h : clok own idx = some a) : Cond.classLink (cn own) idx (cn a) ∈ WALL := by
  unfold clok at h
  cases e : clks.find? (fun e => e.1 == own && e.2.1 == idx) with
  | none => rw [e] at h; cases h
  | some x =>
    rw [e] at h
    have h1 := List.mem_of_find?_eq_some e
    have h2 := List.find?_some e
    have h3 := List.all_eq_true.mp cl_all x h1
    obtain ⟨x1, x2, x3, x4⟩ := x
    simp only [Option.map_some, Option.some.injEq] at h
    simp only [Bool.and_eq_true, beq_iff_eq] at h2
    obtain ⟨rfl, rfl⟩ := h2
    subst h
    exact wall_in (wAt_in h3) rfl
theorem klook_in {own idx : Nat} {z : Int} (h : klook own idx = some z) : Cond.constant (cn own) idx (Int32.ofInt z) ∈ WALL := by
  unfold klook at h
  cases e : klks.find? (fun e => e.1 == own && e.2.1 == idx) with
  | none => rw [e] at h; cases h
  | some x =>
    rw [e] at h
    have h1 := List.mem_of_find?_eq_some e
    have h2 := List.find?_some e
    have h3 := List.all_eq_true.mp kl_all x h1
    obtain ⟨x1, x2, x3, x4⟩ := x
    simp only [Option.map_some, Option.some.injEq] at h
    simp only [Bool.and_eq_true, beq_iff_eq] at h2
    obtain ⟨rfl, rfl⟩ := h2
    subst h
    exact wall_in (wAt_in h3) rfl
theorem jlook_in {own idx : Nat} {z : Int} (h : jlook own idx = some z) : Cond.constantLong (cn own) idx (Int64.ofInt z) ∈ WALL := by
  unfold jlook at h
  cases e : jlks.find? (fun e => e.1 == own && e.2.1 == idx) with
  | none => rw [e] at h; cases h
  | some x =>
    rw [e] at h
    have h1 := List.mem_of_find?_eq_some e
    have h2 := List.find?_some e
    have h3 := List.all_eq_true.mp jl_all x h1
    obtain ⟨x1, x2, x3, x4⟩ := x
    simp only [Option.map_some, Option.some.injEq] at h
    simp only [Bool.and_eq_true, beq_iff_eq] at h2
    obtain ⟨rfl, rfl⟩ := h2
    subst h
    exact wall_in (wAt_in h3) rfl
theorem ins_of {c : Nat} (hc : c < 13) : Cond.instantiable (cn c) (clN c) ∈ WALL ∧ Cond.initialized (cn c) ∈ WALL := by
  have h := ins_all c hc
  rw [Bool.and_eq_true] at h
  exact ⟨wall_in (wAt_in h.1) rfl, wall_in (wAt_in h.2) rfl⟩
/-- what a class's words give of a field -/
theorem fld_of {D : va_G} {s : State} {args : Array Value} {c k : Nat} (hts : ∀ w ∈ WALL, w.before args s = true) (hK : va_K D vwCl [] s) (hc : c < 13) (hk : k < clN c) :
    ∃ (cf : ClassId) (kf : Class) (fi : Nat) (f : Field) (kC : Class), s.fieldFound? (clT c k).1 (clT c k).2.1 (clT c k).2.2.1 = some (cf, kf, fi, f) ∧ f.slot = D.2 c k ∧ f.isStatic = false ∧ s.vm.findClass (cn c) = some (D.1 c) ∧ s.vm.classes[D.1 c]? = some kC ∧ kC.kind = .ordinary := by
  obtain ⟨hS, hfc, kC, hkC, hkind⟩ := hK.1 c _ (vwcl_at hc)
  obtain ⟨cf, kf, fi, f, hi, hsl⟩ := hS k hk
  exact ⟨cf, kf, fi, f, kC, hi, hsl, (u_facts hfc hkC (u_lays hts (uws_of hc) hk) hi).1, hfc, hkC, hkind⟩
theorem apart_of {D : va_G} {s : State} {args : Array Value} {c : Nat} (hts : ∀ w ∈ WALL, w.before args s = true) (hK : va_K D vwCl [] s) (hc : c < 13) : ∀ x y, x < clN c → y < clN c → x ≠ y → D.2 c x ≠ D.2 c y :=
  va_apart (own := "") hts (uws_of hc) (tyG c) (fun k hk => (tyG_of hc hk).1) (nm_of hc) hK (vwcl_at hc)
theorem hT_set (h : aH) (a i : Nat) (v : Int) (b : Nat) : hT (hset h a i v) b = hT h b := rfl
theorem hT_put (h : aH) (a i : Nat) (v : Option Nat) (b : Nat) : hT (hput h a i v) b = hT h b := rfl
theorem hV_set (h : aH) (a i : Nat) (v : Int) (b j : Nat) : hV (hset h a i v) b j = if b = a ∧ j = i then v else hV h b j := rfl
theorem hV_put (h : aH) (a i : Nat) (v : Option Nat) (b j : Nat) : hV (hput h a i v) b j = hV h b j := rfl
theorem hR_set (h : aH) (a i : Nat) (v : Int) (b j : Nat) : hR (hset h a i v) b j = hR h b j := rfl
theorem hR_put (h : aH) (a i : Nat) (v : Option Nat) (b j : Nat) : hR (hput h a i v) b j = if b = a ∧ j = i then v else hR h b j := rfl
theorem hz_set (h : aH) (a i : Nat) (v : Int) : hz (hset h a i v) = hz h := rfl
theorem hz_put (h : aH) (a i : Nat) (v : Option Nat) : hz (hput h a i v) = hz h := rfl
theorem hs_set (h : aH) (a i : Nat) (v : Int) : hs (hset h a i v) = hs h := rfl
theorem hs_put (h : aH) (a i : Nat) (v : Option Nat) : hs (hput h a i v) = hs h := rfl
theorem hz_new (h : aH) (k n : Nat) : hz (hnew h k n) = hz h + 1 := rfl
theorem hs_new (h : aH) (k n : Nat) : hs (hnew h k n) = hs h + n := rfl
theorem hT_new (h : aH) (k n b : Nat) : hT (hnew h k n) b = if b = hz h then (k, n) else hT h b := rfl
theorem hV_new (h : aH) (k n b j : Nat) : hV (hnew h k n) b j = if b = hz h then 0 else hV h b j := rfl
theorem hR_new (h : aH) (k n b j : Nat) : hR (hnew h k n) b j = if b = hz h then none else hR h b j := rfl
theorem narrow_b {x : Int} (h : x = 0 ∨ x = 1) : narrow .boolean (.int (Int32.ofInt x)) = .int (Int32.ofInt x) := by
  rcases h with rfl | rfl <;> rfl
theorem narrow_c {x : Int} (h0 : 0 ≤ x) (h1 : x < 65536) : narrow .char (.int (Int32.ofInt x)) = .int (Int32.ofInt x) := by
  show Value.int _ = Value.int _
  congr 1
  rw [← Int32.toBitVec_inj]
  show ((BitVec.ofInt 32 x).setWidth 16).setWidth 32 = BitVec.ofInt 32 x
  apply BitVec.eq_of_toNat_eq
  rw [BitVec.toNat_setWidth, BitVec.toNat_setWidth, BitVec.toNat_ofInt]
  have h2 : ((2 ^ 32 : Nat) : Int) = 4294967296 := by decide
  rw [h2]
  omega
