/-! the reference's wrap: printed by wip/whole/gm_.py -/
def MO (V : Nat → Nat → Int) (o p N : Nat) (e : Nat → Nat) : Prop := ∀ k < N, V (o + 10) k = ((12 * p + e k : Nat) : Int)
/-- the corners' places so far, each once, by x, then y -/
def OrP (S : aS) (p i N : Nat) (e : Nat → Nat) : Prop := N ≤ i ∧ (∀ k < N, e k < i) ∧ (∀ a b, a < b → b < N → lexL S p (e a) (e b)) ∧ ∀ j < i, ∃ k < N, gSame S p (e k) j
def insE (e : Nat → Nat) (k i : Nat) : Nat → Nat := fun a => if a < k then e a else if a = k then i else e (a - 1)
theorem lexL_tr {S : aS} {p a b c : Nat} (h1 : lexL S p a b) (h2 : lexL S p b c) : lexL S p a c := by
  unfold lexL at *
  omega
theorem OrP.skip {S : aS} {p i N : Nat} {e : Nat → Nat} (h : OrP S p i N e) (hx : ∃ k < N, gSame S p (e k) i) : OrP S p (i + 1) N e :=
  ⟨by have := h.1; omega, fun k hk => by have := h.2.1 k hk; omega, h.2.2.1, fun j hj => if z : j = i then z ▸ hx else h.2.2.2 j (by omega)⟩
theorem OrP.ins {S : aS} {p i N k : Nat} {e : Nat → Nat} (h : OrP S p i N e) (hk : k ≤ N) (hlo : 0 < k → lexL S p (e (k - 1)) i) (hgt : ∀ a, k ≤ a → a < N → lexL S p i (e a)) : OrP S p (i + 1) (N + 1) (insE e k i) := by
  obtain ⟨h1, h2, h3, h4⟩ := h
  have lo : ∀ a, a < k → lexL S p (e a) i := fun a ha => by
    by_cases z : a = k - 1
    · rw [z]
      exact hlo (by omega)
    · exact lexL_tr (h3 a (k - 1) (by omega) (by omega)) (hlo (by omega))
  refine ⟨by omega, fun a ha => ?_, fun a b hab hb => ?_, fun j hj => ?_⟩
  · unfold insE
    split
    · have := h2 a (by omega)
      omega
    · split
      · omega
      · have := h2 (a - 1) (by omega)
        omega
  · unfold insE
    by_cases a1 : a < k
    · rw [if_pos a1]
      by_cases b1 : b < k
      · rw [if_pos b1]
        exact h3 a b hab (by omega)
      · rw [if_neg b1]
        by_cases b2 : b = k
        · rw [if_pos b2]
          exact lo a a1
        · rw [if_neg b2]
          exact h3 a (b - 1) (by omega) (by omega)
    · rw [if_neg a1, if_neg (show ¬ b < k by omega), if_neg (show ¬ b = k by omega)]
      by_cases a2 : a = k
      · rw [if_pos a2]
        exact hgt (b - 1) (by omega) (by omega)
      · rw [if_neg a2]
        exact h3 (a - 1) (b - 1) (by omega) (by omega)
  · by_cases z : j = i
    · subst z
      refine ⟨k, by omega, ?_⟩
      unfold insE
      rw [if_neg (by omega), if_pos rfl]
      exact ⟨rfl, rfl⟩
    · obtain ⟨a, ha, hs⟩ := h4 j (by omega)
      by_cases a1 : a < k
      · refine ⟨a, by omega, ?_⟩
        unfold insE
        rw [if_pos a1]
        exact hs
      · refine ⟨a + 1, by omega, ?_⟩
        unfold insE
        rw [if_neg (by omega), if_neg (by omega), Nat.add_sub_cancel]
        exact hs
theorem MO_ins {V2 : Nat → Nat → Int} {o p N k i : Nat} {e : Nat → Nat} (hk : k ≤ N) (hs2 : ∀ a < k, V2 (o + 10) a = ((12 * p + e a : Nat) : Int)) (hs3 : ∀ a, k ≤ a → a < N → V2 (o + 10) (a + 1) = ((12 * p + e a : Nat) : Int)) : MO (vset V2 (o + 10) k ((12 * p + i : Nat) : Int)) o p (N + 1) (insE e k i) := by
  intro a ha
  unfold insE
  by_cases z : a = k
  · rw [z, vset_eq, if_neg (by omega), if_pos rfl]
  · rw [vset_ne _ _ _ _ (by omega)]
    by_cases y : a < k
    · rw [if_pos y]
      exact hs2 a y
    · rw [if_neg y, if_neg z]
      have := hs3 (a - 1) (by omega) (by omega)
      rw [show a - 1 + 1 = a by omega] at this
      exact this
/-- a stack in the hull's row -/
def MH (V : Nat → Nat → Int) (o p b : Nat) (f : Nat → Nat) (l : List Nat) : Prop := ∀ j < l.length, V (o + 9) (b + j) = ((12 * p + f (l.getD (l.length - 1 - j) 0) : Nat) : Int)
theorem MH.push {V : Nat → Nat → Int} {o p b k : Nat} {f : Nat → Nat} {l : List Nat} (h : MH V o p b f l) : MH (vset V (o + 9) (b + l.length) ((12 * p + f k : Nat) : Int)) o p b f (k :: l) := by
  intro j hj
  have hj : j < l.length + 1 := hj
  by_cases z : j = l.length
  · subst z
    rw [vset_eq]
    show _ = ((12 * p + f ((k :: l).getD (l.length + 1 - 1 - l.length) 0) : Nat) : Int)
    rw [show l.length + 1 - 1 - l.length = 0 by omega]
    rfl
  · rw [vset_ne _ _ _ _ (by omega), h j (by omega)]
    show _ = ((12 * p + f ((k :: l).getD (l.length + 1 - 1 - j) 0) : Nat) : Int)
    rw [show l.length + 1 - 1 - j = (l.length - 1 - j) + 1 by omega]
    rfl
theorem MH.tl {V : Nat → Nat → Int} {o p b k : Nat} {f : Nat → Nat} {l : List Nat} (h : MH V o p b f (k :: l)) : MH V o p b f l := by
  intro j hj
  have := h j (by show j < l.length + 1; omega)
  rw [this]
  show ((12 * p + f ((k :: l).getD (l.length + 1 - 1 - j) 0) : Nat) : Int) = _
  rw [show l.length + 1 - 1 - j = (l.length - 1 - j) + 1 by omega]
  rfl
theorem MH.fr {V V1 : Nat → Nat → Int} {o p b : Nat} {f : Nat → Nat} {l : List Nat} (h : MH V o p b f l) (e : V1 (o + 9) = V (o + 9)) : MH V1 o p b f l := fun j hj => by rw [e]; exact h j hj
theorem pop_len (P : Nat → Int × Int) (r : Nat) : ∀ l, (popX P r l).length ≤ l.length
  | [] => Nat.le_refl _
  | [a] => Nat.le_refl _
  | b :: a :: t => by
    unfold popX
    split
    · have := pop_len P r (a :: t)
      simp only [List.length_cons] at this ⊢
      omega
    · exact Nat.le_refl _
theorem ch_len (P : Nat → Int × Int) : ∀ k, (chX P k).length ≤ k ∧ (0 < k → 0 < (chX P k).length)
  | 0 => ⟨Nat.le_refl _, fun h => absurd h (by omega)⟩
  | k + 1 => by
    have h1 := ch_len P k
    have h2 := pop_len P k (chX P k)
    exact ⟨show ((k :: popX P k (chX P k))).length ≤ k + 1 by
      simp only [List.length_cons]
      omega, fun _ => Nat.succ_pos _⟩
theorem mem_pop {P : Nat → Int × Int} {r : Nat} : ∀ l, ∀ x ∈ popX P r l, x ∈ l
  | [], x, h => h
  | [a], x, h => h
  | b :: a :: t, x, h => by
    unfold popX at h
    split at h
    · exact List.mem_cons_of_mem _ (mem_pop (a :: t) x h)
    · exact h
theorem mem_ch {P : Nat → Int × Int} : ∀ k, ∀ x ∈ chX P k, x < k
  | 0, x, h => by cases h
  | k + 1, x, h => by
    rcases List.mem_cons.mp h with e | e
    · omega
    · have := mem_ch k x (mem_pop _ x e)
      omega
theorem two_of {l : List Nat} (h : 2 ≤ l.length) : ∃ b a t, l = b :: a :: t := by
  match l, h with
  | b :: a :: t, _ => exact ⟨b, a, t, rfl⟩
theorem pop_1 {P : Nat → Int × Int} {r : Nat} {l : List Nat} (h : l.length < 2) : popX P r l = l := by
  match l, h with
  | [], _ => rfl
  | [a], _ => rfl
def pl (S : aS) (p : Nat) (e : Nat → Nat) : Nat → Int × Int := fun a => (gx S p (e a), gy S p (e a))
def plU (S : aS) (p N : Nat) (e : Nat → Nat) : Nat → Int × Int := fun a => (-gx S p (e (N - 1 - a)), -gy S p (e (N - 1 - a)))
theorem OrP.lt {S : aS} {p i N : Nat} {e : Nat → Nat} (h : OrP S p i N e) {a b : Nat} (hab : a < b) (hb : b < N) : ltx (pl S p e a) (pl S p e b) := by
  have := h.2.2.1 a b hab hb
  unfold lexL at this
  unfold ltx lxp sbx pl
  dsimp only
  omega
theorem OrP.ltU {S : aS} {p i N : Nat} {e : Nat → Nat} (h : OrP S p i N e) {a b : Nat} (hab : a < b) (hb : b < N) : ltx (plU S p N e a) (plU S p N e b) := by
  have := h.2.2.1 (N - 1 - b) (N - 1 - a) (by omega) (by omega)
  unfold lexL at this
  unfold ltx lxp sbx plU
  dsimp only
  omega
theorem tn_pl (S : aS) (p : Nat) (e : Nat → Nat) (a b c : Nat) : tnx (pl S p e a) (pl S p e b) (pl S p e c) = gT S p (e a) (e b) (e c) := rfl
theorem tn_plU (S : aS) (p N : Nat) (e : Nat → Nat) (a b c : Nat) : tnx (plU S p N e a) (plU S p N e b) (plU S p N e c) = gT S p (e (N - 1 - a)) (e (N - 1 - b)) (e (N - 1 - c)) := by
  unfold tnx crx sbx plU gT
  dsimp only
  grind
theorem pop_t {P : Nat → Int × Int} {r a b : Nat} {t : List Nat} (h : tnx (P a) (P b) (P r) ≤ 0) : popX P r (b :: a :: t) = popX P r (a :: t) := by
  conv => lhs; unfold popX
  rw [if_pos h]
theorem pop_f {P : Nat → Int × Int} {r a b : Nat} {t : List Nat} (h : ¬ tnx (P a) (P b) (P r) ≤ 0) : popX P r (b :: a :: t) = b :: a :: t := by
  conv => lhs; unfold popX
  rw [if_neg h]
/-- what the wrap leaves, by how many places there are -/
def WrM (S : aS) (p : Nat) (V1 : Nat → Nat → Int) (o : Nat) (r : Int) : Prop := ∃ N e, OrP S p (sGn S p) N e ∧ ((N < 3 ∧ r = N ∧ ∀ k < N, V1 (o + 9) k = ((12 * p + e k : Nat) : Int)) ∨
  (3 ≤ N ∧ MH V1 o p 0 e (chX (pl S p e) N) ∧ MH V1 o p ((chX (pl S p e) N).length - 1) (fun a => e (N - 1 - a)) (chX (plU S p N e) N) ∧ r = (((chX (pl S p e) N).length + (chX (plU S p N e) N).length - 2 : Nat) : Int)))
set_option maxRecDepth 100000 in
set_option maxHeartbeats 4000000 in
theorem m_pgWrap {w : aW} {d : Nat} (hd : 3 ≤ d) {h : aH} {o : Nat} (ms : MS h o) (V : Nat → Nat → Int) {S : aS} (mg : MG V o S) (ok : OkG S) (p : Nat) (hp : p < sG S) : WP w d 343 [aO (some o), aI ((p : Int))] (hw h V) (RI (fun r h1 => ∃ V1, h1 = hw h V1 ∧ (∀ q, q ≠ o + 9 → q ≠ o + 10 → V1 q = V q) ∧ WrM S p V1 o r)) := by
  obtain ⟨d, rfl⟩ : ∃ d1, d = d1 + 1 := ⟨d - 1, by omega⟩
  refine WP.enter (cd := cd_X12_wrap) rfl ?_
  have hok := ok.1
  have hok2 := (ok.2 p hp).1
  have hls : largs 0 [aO (some o), aI ((p : Int))] = [(0, aO (some o)), (1, aI ((p : Int)))] := rfl
  rw [hls]
  clear hls
  have l311 : ∀ (N : Nat) (e : Nat → Nat), (OrP S p (sGn S p) N e) → (3 ≤ N) → ∀ (fuel : Nat) (r : Nat) (V3 : Nat → Nat → Int), (1 ≤ r) → (r ≤ N) → (∀ q, q ≠ o + 9 → q ≠ o + 10 → V3 q = V q) → (MO V3 o p N e) → (MH V3 o p 0 e (chX (pl S p e) N)) → (MH V3 o p ((chX (pl S p e) N).length - 1) (fun a => e (N - 1 - a)) (chX (plU S p N e) r)) → N - r < fuel → Wk w d cd_X12_wrap 311 [(5, aI ((N : Int) - 1 - r)), (4, aI ((((chX (pl S p e) N).length + 1 : Nat) : Int))), (3, aI (((((chX (pl S p e) N).length - 1) + (chX (plU S p N e) r).length : Nat) : Int))), (2, aI ((N : Int))), (0, aO (some o)), (1, aI ((p : Int)))] [] (hw h V3) (RI (fun r h1 => ∃ V1, h1 = hw h V1 ∧ (∀ q, q ≠ o + 9 → q ≠ o + 10 → V1 q = V q) ∧ WrM S p V1 o r)) := by
    intro N e hor hN fuel
    induction fuel with
    | zero => intros; omega
    | succ fuel ih311 =>
      intro r V3 hr hr2 hv3 ho3 hm1 hm2 hfuel
      have mg3 : MG V3 o S := mg.fr (by rw [hv3 o (by omega) (by omega)]) (fun q h1 h2 => hv3 q (by omega) (by omega))
      have hok := ok.1
      have hok2 := (ok.2 p hp).1
      have hNn := hor.1
      have hen := hor.2.1
      have hc1 := (ch_len (pl S p e) N).1
      have hc2 := (ch_len (pl S p e) N).2 (by omega)
      have hc3 := (ch_len (plU S p N e) r).1
      have hc4 := (ch_len (plU S p N e) r).2 (by omega)
      have l316 : ∀ (fuel : Nat) (l : List Nat), (l.length ≤ r) → (r < N) → (0 < l.length) → (popX (plU S p N e) r l = popX (plU S p N e) r (chX (plU S p N e) r)) → (MH V3 o p ((chX (pl S p e) N).length - 1) (fun a => e (N - 1 - a)) l) → (∀ x ∈ l, x < r) → l.length + 1 < fuel → Wk w d cd_X12_wrap 316 [(5, aI (((N - 1 - r : Nat) : Int))), (4, aI ((((chX (pl S p e) N).length + 1 : Nat) : Int))), (3, aI (((((chX (pl S p e) N).length - 1) + l.length : Nat) : Int))), (2, aI ((N : Int))), (0, aO (some o)), (1, aI ((p : Int)))] [] (hw h V3) (RI (fun r h1 => ∃ V1, h1 = hw h V1 ∧ (∀ q, q ≠ o + 9 → q ≠ o + 10 → V1 q = V q) ∧ WrM S p V1 o r)) := by
        intro fuel
        induction fuel with
        | zero => intros; omega
        | succ fuel ih316 =>
          intro l hl hrN hl0 hpop hm2 hmem hfuel
          refine g_iload_n rfl rfl ?_
          refine g_iload rfl rfl ?_
          refine g_icmp_lt rfl (fun cq319 => ?_) (fun cq319 => ?_)
          · skip
            have hll : l = popX (plU S p N e) r (chX (plU S p N e) r) := by
              rw [← hpop]
              first
                | exact (pop_1 (by omega)).symm
                | exact (pop_f (by rw [tn_plU]; omega)).symm
            have hmp : MH (vset V3 (o + 9) (((chX (pl S p e) N).length - 1) + l.length) ((12 * p + e (N - 1 - r) : Nat) : Int)) o p ((chX (pl S p e) N).length - 1) (fun a => e (N - 1 - a)) (chX (plU S p N e) (r + 1)) := by
              show MH _ o p _ _ (r :: popX (plU S p N e) r (chX (plU S p N e) r))
              rw [← hll]
              exact hm2.push (k := r)
            have hlen : ((chX (pl S p e) N).length - 1) + l.length + 1 = ((chX (pl S p e) N).length - 1) + (chX (plU S p N e) (r + 1)).length := by
              show _ = ((chX (pl S p e) N).length - 1) + (r :: popX (plU S p N e) r (chX (plU S p N e) r)).length
              rw [← hll]
              rfl
            refine g_aload_n rfl rfl ?_
            refine g_getR rfl ms.1 (mr_hull ms) ?_
            refine g_iload_n rfl rfl ?_
            refine g_aload_n rfl rfl ?_
            refine g_getR rfl ms.1 (mr_order ms) ?_
            refine g_iload rfl rfl ?_
            refine g_iald (i := N - 1 - r) rfl (mt_order ms) (by omega) (by omega) ?_
            refine g_top (v2 := aI (((12 * p + e (N - 1 - r) : Nat) : Int))) (congrArg aI (by exact ho3 (N - 1 - r) (by omega))) ?_
            refine g_iast (i := ((chX (pl S p e) N).length - 1) + l.length) rfl (mt_hull ms) (by omega) (by omega) ?_
            refine g_hp (h2 := hw h (vset V3 (o + 9) (((chX (pl S p e) N).length - 1) + l.length) (((12 * p + e (N - 1 - r) : Nat) : Int)))) rfl ?_
            refine g_iinc (l1 := [(3, aI (((((chX (pl S p e) N).length - 1) + l.length : Nat) : Int) + 1)), (5, aI (((N - 1 - r : Nat) : Int))), (4, aI ((((chX (pl S p e) N).length + 1 : Nat) : Int))), (2, aI ((N : Int))), (0, aO (some o)), (1, aI ((p : Int)))]) rfl rfl (by omega) (by omega) rfl ?_
            rw [show (((((chX (pl S p e) N).length - 1) + l.length : Nat) : Int) + 1 : Int) = ((((chX (pl S p e) N).length - 1) + (chX (plU S p N e) (r + 1)).length : Nat) : Int) by omega]
            refine g_iinc (l1 := [(5, aI (((N - 1 - r : Nat) : Int) + (-1))), (3, aI (((((chX (pl S p e) N).length - 1) + (chX (plU S p N e) (r + 1)).length : Nat) : Int))), (4, aI ((((chX (pl S p e) N).length + 1 : Nat) : Int))), (2, aI ((N : Int))), (0, aO (some o)), (1, aI ((p : Int)))]) rfl rfl (by omega) (by omega) rfl ?_
            refine g_goto rfl ?_
            rw [show ((((N - 1 - r : Nat) : Int) + (-1)) : Int) = (((N : Int) - 1 - ((r + 1 : Nat) : Int)) : Int) by omega]
            refine g_ls [0, 2, 1, 3, 4, 5] rfl rfl ?_
            exact ih311 (r + 1) _ (by omega) (by omega) (by exact fun q h1 h2 => by funext z; rw [vset_ne _ _ _ _ (by omega), hv3 q h1 h2]) (by exact fun a ha => by rw [vset_ne _ _ _ _ (by omega)]; exact ho3 a ha) (by exact fun j hj => by rw [vset_ne _ _ _ _ (by omega)]; exact hm1 j hj) (by exact hmp) (by omega)
          · skip
            obtain ⟨b, a, t, rfl⟩ := two_of (l := l) (by omega)
            have hal := hmem a (by simp)
            have hbl := hmem b (by simp)
            have hlc : (b :: a :: t).length = t.length + 2 := rfl
            have hq2 := hm2 ((b :: a :: t).length - 2) (by omega)
            rw [show (b :: a :: t).length - 1 - ((b :: a :: t).length - 2) = 1 by omega] at hq2
            have hq1 := hm2 ((b :: a :: t).length - 1) (by omega)
            rw [show (b :: a :: t).length - 1 - ((b :: a :: t).length - 1) = 0 by omega] at hq1
            have heb := hen (N - 1 - b) (by omega)
            have hea := hen (N - 1 - a) (by omega)
            have hek := hen (N - 1 - r) (by omega)
            rw [show ((chX (pl S p e) N).length - 1) + ((b :: a :: t).length - 2) = ((chX (pl S p e) N).length - 1) + (b :: a :: t).length - 2 by omega] at hq2
            rw [show ((chX (pl S p e) N).length - 1) + ((b :: a :: t).length - 1) = ((chX (pl S p e) N).length - 1) + (b :: a :: t).length - 1 by omega] at hq1
            refine g_aload_n rfl rfl ?_
            refine g_aload_n rfl rfl ?_
            refine g_getR rfl ms.1 (mr_hull ms) ?_
            refine g_iload_n rfl rfl ?_
            refine g_iconst rfl ?_
            refine g_isub rfl (by omega) (by omega) ?_
            refine g_iald (i := (((chX (pl S p e) N).length - 1) + (b :: a :: t).length - 2)) rfl (mt_hull ms) (by omega) (by omega) ?_
            refine g_top (v2 := aI (((12 * p + e (N - 1 - a) : Nat) : Int))) (congrArg aI (by exact hq2)) ?_
            refine g_aload_n rfl rfl ?_
            refine g_getR rfl ms.1 (mr_hull ms) ?_
            refine g_iload_n rfl rfl ?_
            refine g_iconst rfl ?_
            refine g_isub rfl (by omega) (by omega) ?_
            refine g_iald (i := (((chX (pl S p e) N).length - 1) + (b :: a :: t).length - 1)) rfl (mt_hull ms) (by omega) (by omega) ?_
            refine g_top (v2 := aI (((12 * p + e (N - 1 - b) : Nat) : Int))) (congrArg aI (by exact hq1)) ?_
            refine g_aload_n rfl rfl ?_
            refine g_getR rfl ms.1 (mr_order ms) ?_
            refine g_iload rfl rfl ?_
            refine g_iald (i := N - 1 - r) rfl (mt_order ms) (by omega) (by omega) ?_
            refine g_top (v2 := aI (((12 * p + e (N - 1 - r) : Nat) : Int))) (congrArg aI (by exact ho3 (N - 1 - r) (by omega))) ?_
            refine g_callVJ [aI (((12 * p + e (N - 1 - a) : Nat) : Int)), aI (((12 * p + e (N - 1 - b) : Nat) : Int)), aI (((12 * p + e (N - 1 - r) : Nat) : Int))] [] rfl rfl rfl rfl (Nat.le_of_ble_eq_true rfl) ms.1 (m_pgTurn (by omega) ms V3 mg3 ok p hp (e (N - 1 - a)) (by omega) (e (N - 1 - b)) (by omega) (e (N - 1 - r)) (by omega)) ?_
            rintro r1 hx1 ⟨ehx1, rfl⟩
            rw [ehx1]
            clear ehx1 hx1
            refine g_lconst0 rfl ?_
            refine g_lc_gt rfl rfl (fun cq350 => ?_) (fun cq350 => ?_)
            · skip
              have hll : (b :: a :: t) = popX (plU S p N e) r (chX (plU S p N e) r) := by
                rw [← hpop]
                first
                  | exact (pop_1 (by omega)).symm
                  | exact (pop_f (by rw [tn_plU]; omega)).symm
              have hmp : MH (vset V3 (o + 9) (((chX (pl S p e) N).length - 1) + (b :: a :: t).length) ((12 * p + e (N - 1 - r) : Nat) : Int)) o p ((chX (pl S p e) N).length - 1) (fun a => e (N - 1 - a)) (chX (plU S p N e) (r + 1)) := by
                show MH _ o p _ _ (r :: popX (plU S p N e) r (chX (plU S p N e) r))
                rw [← hll]
                exact hm2.push (k := r)
              have hlen : ((chX (pl S p e) N).length - 1) + (b :: a :: t).length + 1 = ((chX (pl S p e) N).length - 1) + (chX (plU S p N e) (r + 1)).length := by
                show _ = ((chX (pl S p e) N).length - 1) + (r :: popX (plU S p N e) r (chX (plU S p N e) r)).length
                rw [← hll]
                rfl
              refine g_aload_n rfl rfl ?_
              refine g_getR rfl ms.1 (mr_hull ms) ?_
              refine g_iload_n rfl rfl ?_
              refine g_aload_n rfl rfl ?_
              refine g_getR rfl ms.1 (mr_order ms) ?_
              refine g_iload rfl rfl ?_
              refine g_iald (i := N - 1 - r) rfl (mt_order ms) (by omega) (by omega) ?_
              refine g_top (v2 := aI (((12 * p + e (N - 1 - r) : Nat) : Int))) (congrArg aI (by exact ho3 (N - 1 - r) (by omega))) ?_
              refine g_iast (i := ((chX (pl S p e) N).length - 1) + (b :: a :: t).length) rfl (mt_hull ms) (by omega) (by omega) ?_
              refine g_hp (h2 := hw h (vset V3 (o + 9) (((chX (pl S p e) N).length - 1) + (b :: a :: t).length) (((12 * p + e (N - 1 - r) : Nat) : Int)))) rfl ?_
              refine g_iinc (l1 := [(3, aI (((((chX (pl S p e) N).length - 1) + (b :: a :: t).length : Nat) : Int) + 1)), (5, aI (((N - 1 - r : Nat) : Int))), (4, aI ((((chX (pl S p e) N).length + 1 : Nat) : Int))), (2, aI ((N : Int))), (0, aO (some o)), (1, aI ((p : Int)))]) rfl rfl (by omega) (by omega) rfl ?_
              rw [show (((((chX (pl S p e) N).length - 1) + (b :: a :: t).length : Nat) : Int) + 1 : Int) = ((((chX (pl S p e) N).length - 1) + (chX (plU S p N e) (r + 1)).length : Nat) : Int) by omega]
              refine g_iinc (l1 := [(5, aI (((N - 1 - r : Nat) : Int) + (-1))), (3, aI (((((chX (pl S p e) N).length - 1) + (chX (plU S p N e) (r + 1)).length : Nat) : Int))), (4, aI ((((chX (pl S p e) N).length + 1 : Nat) : Int))), (2, aI ((N : Int))), (0, aO (some o)), (1, aI ((p : Int)))]) rfl rfl (by omega) (by omega) rfl ?_
              refine g_goto rfl ?_
              rw [show ((((N - 1 - r : Nat) : Int) + (-1)) : Int) = (((N : Int) - 1 - ((r + 1 : Nat) : Int)) : Int) by omega]
              refine g_ls [0, 2, 1, 3, 4, 5] rfl rfl ?_
              exact ih311 (r + 1) _ (by omega) (by omega) (by exact fun q h1 h2 => by funext z; rw [vset_ne _ _ _ _ (by omega), hv3 q h1 h2]) (by exact fun a ha => by rw [vset_ne _ _ _ _ (by omega)]; exact ho3 a ha) (by exact fun j hj => by rw [vset_ne _ _ _ _ (by omega)]; exact hm1 j hj) (by exact hmp) (by omega)
            · skip
              refine g_iinc (l1 := [(3, aI (((((chX (pl S p e) N).length - 1) + (b :: a :: t).length : Nat) : Int) + (-1))), (5, aI (((N - 1 - r : Nat) : Int))), (4, aI ((((chX (pl S p e) N).length + 1 : Nat) : Int))), (2, aI ((N : Int))), (0, aO (some o)), (1, aI ((p : Int)))]) rfl rfl (by omega) (by omega) rfl ?_
              rw [show (((((chX (pl S p e) N).length - 1) + (b :: a :: t).length : Nat) : Int) + (-1) : Int) = ((((chX (pl S p e) N).length - 1) + (a :: t).length : Nat) : Int) by simp only [List.length_cons]; omega]
              refine g_goto rfl ?_
              refine g_ls [1, 2, 0, 3, 4, 5] rfl rfl ?_
              exact ih316 (a :: t) (by simp only [List.length_cons] at hl ⊢; omega) (by omega) (by simp only [List.length_cons]; omega) (by exact (pop_t (by rw [tn_plU]; omega)).symm.trans hpop) (by exact hm2.tl) (by exact fun x hx => hmem x (List.mem_cons_of_mem _ hx)) (by simp only [List.length_cons] at hfuel ⊢; omega)
      refine g_iload rfl rfl ?_
      refine g_if_lt rfl (fun cq313 => ?_) (fun cq313 => ?_)
      · skip
        refine g_iload_n rfl rfl ?_
        refine g_iconst rfl ?_
        refine g_isub rfl (by omega) (by omega) ?_
        refine g_iret rfl ?_
        have erN : r = N := by omega
        rw [erN] at hm2
        refine ⟨V3, rfl, hv3, N, e, hor, Or.inr ⟨hN, hm1, hm2, ?_⟩⟩
        rw [erN]
        have hz := (ch_len (plU S p N e) N).2 (by omega)
        omega
      · skip
        rw [show (((N : Int) - 1 - r) : Int) = ((((N - 1 - r : Nat) : Int)) : Int) by omega]
        exact l316 _ _ (by exact (ch_len _ r).1) (by omega) (by exact (ch_len _ r).2 (by omega)) (by rfl) (by exact hm2) (by exact mem_ch r) (Nat.lt_succ_self _)
  have l230 : ∀ (N : Nat) (e : Nat → Nat), (OrP S p (sGn S p) N e) → (3 ≤ N) → ∀ (fuel : Nat) (k : Nat) (V2 : Nat → Nat → Int), (k ≤ N) → (∀ q, q ≠ o + 9 → q ≠ o + 10 → V2 q = V q) → (MO V2 o p N e) → (MH V2 o p 0 e (chX (pl S p e) k)) → N - k < fuel → Wk w d cd_X12_wrap 230 [(4, aI ((k : Int))), (3, aI ((((chX (pl S p e) k).length : Nat) : Int))), (2, aI ((N : Int))), (0, aO (some o)), (1, aI ((p : Int)))] [] (hw h V2) (RI (fun r h1 => ∃ V1, h1 = hw h V1 ∧ (∀ q, q ≠ o + 9 → q ≠ o + 10 → V1 q = V q) ∧ WrM S p V1 o r)) := by
    intro N e hor hN fuel
    induction fuel with
    | zero => intros; omega
    | succ fuel ih230 =>
      intro k V2 hk hv2 ho2 hm hfuel
      have mg2 : MG V2 o S := mg.fr (by rw [hv2 o (by omega) (by omega)]) (fun q h1 h2 => hv2 q (by omega) (by omega))
      have hok := ok.1
      have hok2 := (ok.2 p hp).1
      have hNn := hor.1
      have hen := hor.2.1
      have l236 : ∀ (fuel : Nat) (l : List Nat), (l.length ≤ k) → (k < N) → (popX (pl S p e) k l = popX (pl S p e) k (chX (pl S p e) k)) → (MH V2 o p 0 e l) → (∀ x ∈ l, x < k) → l.length + 1 < fuel → Wk w d cd_X12_wrap 236 [(4, aI ((k : Int))), (3, aI ((l.length : Int))), (2, aI ((N : Int))), (0, aO (some o)), (1, aI ((p : Int)))] [] (hw h V2) (RI (fun r h1 => ∃ V1, h1 = hw h V1 ∧ (∀ q, q ≠ o + 9 → q ≠ o + 10 → V1 q = V q) ∧ WrM S p V1 o r)) := by
        intro fuel
        induction fuel with
        | zero => intros; omega
        | succ fuel ih236 =>
          intro l hl hkN hpop hm hmem hfuel
          refine g_iload_n rfl rfl ?_
          refine g_iconst rfl ?_
          refine g_icmp_lt rfl (fun cq238 => ?_) (fun cq238 => ?_)
          · skip
            have hll : l = popX (pl S p e) k (chX (pl S p e) k) := by
              rw [← hpop]
              first
                | exact (pop_1 (by omega)).symm
                | exact (pop_f (by rw [tn_pl]; omega)).symm
            have hmp : MH (vset V2 (o + 9) l.length ((12 * p + e k : Nat) : Int)) o p 0 e (chX (pl S p e) (k + 1)) := by
              have := hm.push (k := k)
              rw [Nat.zero_add] at this
              show MH _ o p 0 e (k :: popX (pl S p e) k (chX (pl S p e) k))
              rw [← hll]
              exact this
            have hlen : l.length + 1 = (chX (pl S p e) (k + 1)).length := by
              show l.length + 1 = (k :: popX (pl S p e) k (chX (pl S p e) k)).length
              rw [← hll]
              rfl
            refine g_aload_n rfl rfl ?_
            refine g_getR rfl ms.1 (mr_hull ms) ?_
            refine g_iload_n rfl rfl ?_
            refine g_aload_n rfl rfl ?_
            refine g_getR rfl ms.1 (mr_order ms) ?_
            refine g_iload rfl rfl ?_
            refine g_iald (i := k) rfl (mt_order ms) (by omega) (by omega) ?_
            refine g_top (v2 := aI (((12 * p + e k : Nat) : Int))) (congrArg aI (by exact ho2 k (by omega))) ?_
            refine g_iast (i := l.length) rfl (mt_hull ms) (by omega) (by omega) ?_
            refine g_hp (h2 := hw h (vset V2 (o + 9) l.length (((12 * p + e k : Nat) : Int)))) rfl ?_
            refine g_iinc (l1 := [(3, aI ((l.length : Int) + 1)), (4, aI ((k : Int))), (2, aI ((N : Int))), (0, aO (some o)), (1, aI ((p : Int)))]) rfl rfl (by omega) (by omega) rfl ?_
            rw [show ((l.length : Int) + 1 : Int) = (((chX (pl S p e) (k + 1)).length : Nat) : Int) by omega]
            refine g_iinc (l1 := [(4, aI ((k : Int) + 1)), (3, aI ((((chX (pl S p e) (k + 1)).length : Nat) : Int))), (2, aI ((N : Int))), (0, aO (some o)), (1, aI ((p : Int)))]) rfl rfl (by omega) (by omega) rfl ?_
            refine g_goto rfl ?_
            exact ih230 (k + 1) _ (by omega) (by exact fun q h1 h2 => by funext z; rw [vset_ne _ _ _ _ (by omega), hv2 q h1 h2]) (by exact fun a ha => by rw [vset_ne _ _ _ _ (by omega)]; exact ho2 a ha) (by exact hmp) (by omega)
          · skip
            obtain ⟨b, a, t, rfl⟩ := two_of (l := l) (by omega)
            have hal := hmem a (by simp)
            have hbl := hmem b (by simp)
            have hlc : (b :: a :: t).length = t.length + 2 := rfl
            have hq2 := hm ((b :: a :: t).length - 2) (by omega)
            rw [show (b :: a :: t).length - 1 - ((b :: a :: t).length - 2) = 1 by omega] at hq2
            have hq1 := hm ((b :: a :: t).length - 1) (by omega)
            rw [show (b :: a :: t).length - 1 - ((b :: a :: t).length - 1) = 0 by omega] at hq1
            rw [Nat.zero_add] at hq1 hq2
            have heb := hen b (by omega)
            have hea := hen a (by omega)
            have hek := hen k (by omega)
            refine g_aload_n rfl rfl ?_
            refine g_aload_n rfl rfl ?_
            refine g_getR rfl ms.1 (mr_hull ms) ?_
            refine g_iload_n rfl rfl ?_
            refine g_iconst rfl ?_
            refine g_isub rfl (by omega) (by omega) ?_
            refine g_iald (i := ((b :: a :: t).length - 2)) rfl (mt_hull ms) (by omega) (by omega) ?_
            refine g_top (v2 := aI (((12 * p + e a : Nat) : Int))) (congrArg aI (by exact hq2)) ?_
            refine g_aload_n rfl rfl ?_
            refine g_getR rfl ms.1 (mr_hull ms) ?_
            refine g_iload_n rfl rfl ?_
            refine g_iconst rfl ?_
            refine g_isub rfl (by omega) (by omega) ?_
            refine g_iald (i := ((b :: a :: t).length - 1)) rfl (mt_hull ms) (by omega) (by omega) ?_
            refine g_top (v2 := aI (((12 * p + e b : Nat) : Int))) (congrArg aI (by exact hq1)) ?_
            refine g_aload_n rfl rfl ?_
            refine g_getR rfl ms.1 (mr_order ms) ?_
            refine g_iload rfl rfl ?_
            refine g_iald (i := k) rfl (mt_order ms) (by omega) (by omega) ?_
            refine g_top (v2 := aI (((12 * p + e k : Nat) : Int))) (congrArg aI (by exact ho2 k (by omega))) ?_
            refine g_callVJ [aI (((12 * p + e a : Nat) : Int)), aI (((12 * p + e b : Nat) : Int)), aI (((12 * p + e k : Nat) : Int))] [] rfl rfl rfl rfl (Nat.le_of_ble_eq_true rfl) ms.1 (m_pgTurn (by omega) ms V2 mg2 ok p hp (e a) (by omega) (e b) (by omega) (e k) (by omega)) ?_
            rintro r2 hx2 ⟨ehx2, rfl⟩
            rw [ehx2]
            clear ehx2 hx2
            refine g_lconst0 rfl ?_
            refine g_lc_gt rfl rfl (fun cq269 => ?_) (fun cq269 => ?_)
            · skip
              have hll : (b :: a :: t) = popX (pl S p e) k (chX (pl S p e) k) := by
                rw [← hpop]
                first
                  | exact (pop_1 (by omega)).symm
                  | exact (pop_f (by rw [tn_pl]; omega)).symm
              have hmp : MH (vset V2 (o + 9) (b :: a :: t).length ((12 * p + e k : Nat) : Int)) o p 0 e (chX (pl S p e) (k + 1)) := by
                have := hm.push (k := k)
                rw [Nat.zero_add] at this
                show MH _ o p 0 e (k :: popX (pl S p e) k (chX (pl S p e) k))
                rw [← hll]
                exact this
              have hlen : (b :: a :: t).length + 1 = (chX (pl S p e) (k + 1)).length := by
                show (b :: a :: t).length + 1 = (k :: popX (pl S p e) k (chX (pl S p e) k)).length
                rw [← hll]
                rfl
              refine g_aload_n rfl rfl ?_
              refine g_getR rfl ms.1 (mr_hull ms) ?_
              refine g_iload_n rfl rfl ?_
              refine g_aload_n rfl rfl ?_
              refine g_getR rfl ms.1 (mr_order ms) ?_
              refine g_iload rfl rfl ?_
              refine g_iald (i := k) rfl (mt_order ms) (by omega) (by omega) ?_
              refine g_top (v2 := aI (((12 * p + e k : Nat) : Int))) (congrArg aI (by exact ho2 k (by omega))) ?_
              refine g_iast (i := (b :: a :: t).length) rfl (mt_hull ms) (by omega) (by omega) ?_
              refine g_hp (h2 := hw h (vset V2 (o + 9) ((b :: a :: t).length) (((12 * p + e k : Nat) : Int)))) rfl ?_
              refine g_iinc (l1 := [(3, aI (((b :: a :: t).length : Int) + 1)), (4, aI ((k : Int))), (2, aI ((N : Int))), (0, aO (some o)), (1, aI ((p : Int)))]) rfl rfl (by omega) (by omega) rfl ?_
              rw [show (((b :: a :: t).length : Int) + 1 : Int) = (((chX (pl S p e) (k + 1)).length : Nat) : Int) by omega]
              refine g_iinc (l1 := [(4, aI ((k : Int) + 1)), (3, aI ((((chX (pl S p e) (k + 1)).length : Nat) : Int))), (2, aI ((N : Int))), (0, aO (some o)), (1, aI ((p : Int)))]) rfl rfl (by omega) (by omega) rfl ?_
              refine g_goto rfl ?_
              exact ih230 (k + 1) _ (by omega) (by exact fun q h1 h2 => by funext z; rw [vset_ne _ _ _ _ (by omega), hv2 q h1 h2]) (by exact fun a ha => by rw [vset_ne _ _ _ _ (by omega)]; exact ho2 a ha) (by exact hmp) (by omega)
            · skip
              refine g_iinc (l1 := [(3, aI (((b :: a :: t).length : Int) + (-1))), (4, aI ((k : Int))), (2, aI ((N : Int))), (0, aO (some o)), (1, aI ((p : Int)))]) rfl rfl (by omega) (by omega) rfl ?_
              rw [show (((b :: a :: t).length : Int) + (-1) : Int) = ((a :: t).length : Int) by simp only [List.length_cons]; omega]
              refine g_goto rfl ?_
              refine g_ls [1, 0, 2, 3, 4] rfl rfl ?_
              exact ih236 (a :: t) (by simp only [List.length_cons] at hl ⊢; omega) (by omega) (by exact (pop_t (by rw [tn_pl]; omega)).symm.trans hpop) (by exact hm.tl) (by exact fun x hx => hmem x (List.mem_cons_of_mem _ hx)) (by simp only [List.length_cons] at hfuel ⊢; omega)
      refine g_iload rfl rfl ?_
      refine g_iload_n rfl rfl ?_
      refine g_icmp_ge rfl (fun cq233 => ?_) (fun cq233 => ?_)
      · skip
        have ekN : k = N := by omega
        rw [ekN]
        rw [ekN] at hm
        have hcl := (ch_len (pl S p e) N).1
        have hcl2 := (ch_len (pl S p e) N).2 (by omega)
        have hmN := hm
        have hmU : MH V2 o p ((chX (pl S p e) N).length - 1) (fun a => e (N - 1 - a)) (chX (plU S p N e) 1) := by
          intro j hj
          have hj : j < 1 := hj
          obtain rfl : j = 0 := by omega
          have hz := hm ((chX (pl S p e) N).length - 1) (by omega)
          rw [Nat.zero_add] at hz
          show V2 (o + 9) ((chX (pl S p e) N).length - 1 + 0) = ((12 * p + e (N - 1 - 0) : Nat) : Int)
          refine Eq.trans hz ?_
          obtain ⟨t, et⟩ := (ch_ok (P := pl S p e) (N := N) (fun i j h1 h2 => hor.lt h1 h2) (N - 1) (by omega)).2
          rw [show N - 1 + 1 = N by omega] at et
          rw [et, show ((N - 1) :: t).length - 1 - (((N - 1) :: t).length - 1) = 0 by omega]
          rfl
        refine g_iload_n rfl rfl ?_
        refine g_iconst rfl ?_
        refine g_iadd rfl (by omega) (by omega) ?_
        refine g_istore (l1 := [(4, aI (((((chX (pl S p e) N).length : Nat) : Int)) + 1)), (3, aI ((((chX (pl S p e) N).length : Nat) : Int))), (2, aI ((N : Int))), (0, aO (some o)), (1, aI ((p : Int)))]) rfl rfl ?_
        refine g_iload_n rfl rfl ?_
        refine g_iconst rfl ?_
        refine g_isub rfl (by omega) (by omega) ?_
        refine g_istore (l1 := [(5, aI (((N : Int)) - 2)), (4, aI (((((chX (pl S p e) N).length : Nat) : Int)) + 1)), (3, aI ((((chX (pl S p e) N).length : Nat) : Int))), (2, aI ((N : Int))), (0, aO (some o)), (1, aI ((p : Int)))]) rfl rfl ?_
        rw [show ((((N : Int)) - 2) : Int) = (((N : Int) - 1 - ((1 : Nat) : Int)) : Int) by omega]
        rw [show ((((((chX (pl S p e) N).length : Nat) : Int)) + 1) : Int) = (((((chX (pl S p e) N).length + 1 : Nat) : Int)) : Int) by omega]
        rw [show (((((chX (pl S p e) N).length : Nat) : Int)) : Int) = ((((((chX (pl S p e) N).length - 1) + (chX (plU S p N e) 1).length : Nat) : Int)) : Int) by have q1 : (chX (plU S p N e) 1).length = 1 := rfl; omega]
        exact l311 N e (by exact hor) (by omega) _ 1 _ (by omega) (by omega) (by exact hv2) (by exact ho2) (by exact hmN) (by exact hmU) (Nat.lt_succ_self _)
      · skip
        exact l236 _ _ (by exact (ch_len _ k).1) (by omega) (by rfl) (by exact hm) (by exact mem_ch k) (Nat.lt_succ_self _)
  have l200 : ∀ (N : Nat) (e : Nat → Nat), (OrP S p (sGn S p) N e) → (N < 3) → ∀ (fuel : Nat) (k : Nat) (V2 : Nat → Nat → Int), (k ≤ N) → (∀ q, q ≠ o + 9 → q ≠ o + 10 → V2 q = V q) → (MO V2 o p N e) → (∀ a < k, V2 (o + 9) a = ((12 * p + e a : Nat) : Int)) → N - k < fuel → Wk w d cd_X12_wrap 200 [(3, aI ((k : Int))), (2, aI ((N : Int))), (0, aO (some o)), (1, aI ((p : Int)))] [] (hw h V2) (RI (fun r h1 => ∃ V1, h1 = hw h V1 ∧ (∀ q, q ≠ o + 9 → q ≠ o + 10 → V1 q = V q) ∧ WrM S p V1 o r)) := by
    intro N e hor hN fuel
    induction fuel with
    | zero => intros; omega
    | succ fuel ih200 =>
      intro k V2 hk hv2 ho2 hh hfuel
      refine g_iload_n rfl rfl ?_
      refine g_iload_n rfl rfl ?_
      refine g_icmp_ge rfl (fun cq202 => ?_) (fun cq202 => ?_)
      · skip
        refine g_iload_n rfl rfl ?_
        refine g_iret rfl ?_
        exact ⟨V2, rfl, hv2, N, e, hor, Or.inl ⟨hN, rfl, fun k2 hk2 => hh k2 (by omega)⟩⟩
      · skip
        refine g_aload_n rfl rfl ?_
        refine g_getR rfl ms.1 (mr_hull ms) ?_
        refine g_iload_n rfl rfl ?_
        refine g_aload_n rfl rfl ?_
        refine g_getR rfl ms.1 (mr_order ms) ?_
        refine g_iload_n rfl rfl ?_
        refine g_iald (i := k) rfl (mt_order ms) (by omega) (by omega) ?_
        refine g_top (v2 := aI (((12 * p + e k : Nat) : Int))) (congrArg aI (by exact ho2 k (by omega))) ?_
        refine g_iast (i := k) rfl (mt_hull ms) (by omega) (by omega) ?_
        refine g_hp (h2 := hw h (vset V2 (o + 9) k (((12 * p + e k : Nat) : Int)))) rfl ?_
        refine g_iinc (l1 := [(3, aI ((k : Int) + 1)), (2, aI ((N : Int))), (0, aO (some o)), (1, aI ((p : Int)))]) rfl rfl (by omega) (by omega) rfl ?_
        refine g_goto rfl ?_
        exact ih200 (k + 1) _ (by omega) (by exact fun q h1 h2 => by funext z; rw [vset_ne _ _ _ _ (by omega), hv2 q h1 h2]) (by exact fun a ha => by rw [vset_ne _ _ _ _ (by omega)]; exact ho2 a ha) (by exact fun a ha => if z : a = k then by (rw [z, vset_eq]) else by (rw [vset_ne _ _ _ _ (by omega)]; exact hh a (by omega))) (by omega)
  have l4 : ∀ (fuel : Nat) (i N : Nat) (e : Nat → Nat) (V1 : Nat → Nat → Int), (i ≤ sGn S p) → (OrP S p i N e) → (∀ q, q ≠ o + 9 → q ≠ o + 10 → V1 q = V q) → (MO V1 o p N e) → sGn S p - i < fuel → Wk w d cd_X12_wrap 4 [(3, aI ((i : Int))), (2, aI ((N : Int))), (0, aO (some o)), (1, aI ((p : Int)))] [] (hw h V1) (RI (fun r h1 => ∃ V1, h1 = hw h V1 ∧ (∀ q, q ≠ o + 9 → q ≠ o + 10 → V1 q = V q) ∧ WrM S p V1 o r)) := by
    intro fuel
    induction fuel with
    | zero => intros; omega
    | succ fuel ih4 =>
      intro i N e V1 hi hor hv ho hfuel
      have mg1 : MG V1 o S := mg.fr (by rw [hv o (by omega) (by omega)]) (fun q h1 h2 => hv q (by omega) (by omega))
      have hok := ok.1
      have hok2 := (ok.2 p hp).1
      have hNi := hor.1
      have l76 : (∀ a < N, ¬ gSame S p (e a) i) → ∀ (fuel : Nat) (k : Nat) (V2 : Nat → Nat → Int), (k ≤ N) → (i < sGn S p) → (∀ q, q ≠ o + 9 → q ≠ o + 10 → V2 q = V q) → (∀ a < k, V2 (o + 10) a = ((12 * p + e a : Nat) : Int)) → (∀ a, k ≤ a → a < N → V2 (o + 10) (a + 1) = ((12 * p + e a : Nat) : Int)) → (∀ a, k ≤ a → a < N → lexL S p i (e a)) → k + 1 < fuel → Wk w d cd_X12_wrap 76 [(5, aI ((k : Int))), (4, aI ((12 * p + i : Int))), (3, aI ((i : Int))), (2, aI ((N : Int))), (0, aO (some o)), (1, aI ((p : Int)))] [] (hw h V2) (RI (fun r h1 => ∃ V1, h1 = hw h V1 ∧ (∀ q, q ≠ o + 9 → q ≠ o + 10 → V1 q = V q) ∧ WrM S p V1 o r)) := by
        intro hne fuel
        induction fuel with
        | zero => intros; omega
        | succ fuel ih76 =>
          intro k V2 hk hin hv2 hs2 hs3 hgt hfuel
          have mg2 : MG V2 o S := mg.fr (by rw [hv2 o (by omega) (by omega)]) (fun q h1 h2 => hv2 q (by omega) (by omega))
          refine g_iload rfl rfl ?_
          refine g_if_le rfl (fun cq78 => ?_) (fun cq78 => ?_)
          · skip
            refine g_aload_n rfl rfl ?_
            refine g_getR rfl ms.1 (mr_order ms) ?_
            refine g_iload rfl rfl ?_
            refine g_iload rfl rfl ?_
            refine g_iast (i := k) rfl (mt_order ms) (by omega) (by omega) ?_
            refine g_hp (h2 := hw h (vset V2 (o + 10) k ((12 * p + i : Int)))) rfl ?_
            refine g_iinc (l1 := [(2, aI ((N : Int) + 1)), (5, aI ((k : Int))), (4, aI ((12 * p + i : Int))), (3, aI ((i : Int))), (0, aO (some o)), (1, aI ((p : Int)))]) rfl rfl (by omega) (by omega) rfl ?_
            refine g_iinc (l1 := [(3, aI ((i : Int) + 1)), (2, aI ((N : Int) + 1)), (5, aI ((k : Int))), (4, aI ((12 * p + i : Int))), (0, aO (some o)), (1, aI ((p : Int)))]) rfl rfl (by omega) (by omega) rfl ?_
            refine g_goto rfl ?_
            refine g_ls [0, 1, 4, 5] rfl rfl ?_
            exact ih4 (i + 1) (N + 1) (insE e k i) (vset V2 (o + 10) k ((12 * p + i : Nat) : Int)) (by omega) (by refine hor.ins hk ?_ hgt; intro z; have hne1 := hne (k - 1) (by omega); unfold gSame at hne1; unfold lexL; omega) (by exact fun q h1 h2 => by funext z; rw [vset_ne _ _ _ _ (by omega), hv2 q h1 h2]) (by exact MO_ins hk hs2 hs3) (by omega)
          · skip
            have hek := hor.2.1 (k - 1) (by omega)
            refine g_aload_n rfl rfl ?_
            refine g_getR rfl ms.1 (mr_px ms) ?_
            refine g_aload_n rfl rfl ?_
            refine g_getR rfl ms.1 (mr_order ms) ?_
            refine g_iload rfl rfl ?_
            refine g_iconst rfl ?_
            refine g_isub rfl (by omega) (by omega) ?_
            refine g_iald (i := (k - 1)) rfl (mt_order ms) (by omega) (by omega) ?_
            refine g_top (v2 := aI (((12 * p + e (k - 1) : Nat) : Int))) (congrArg aI (by exact hs2 (k - 1) (by omega))) ?_
            refine g_iald (i := 12 * p + e (k - 1)) rfl (mt_px ms) (by omega) (by omega) ?_
            refine g_top (v2 := aI (gx S p (e (k - 1)))) (congrArg aI (by exact ((mg2.2 p hp).2 (e (k - 1)) (by omega)).1)) ?_
            refine g_aload_n rfl rfl ?_
            refine g_getR rfl ms.1 (mr_px ms) ?_
            refine g_iload rfl rfl ?_
            refine g_iald (i := 12 * p + i) rfl (mt_px ms) (by omega) (by omega) ?_
            refine g_top (v2 := aI (gx S p i)) (congrArg aI (by exact ((mg2.2 p hp).2 i (by omega)).1)) ?_
            refine g_icmp_gt rfl (fun cq102 => ?_) (fun cq102 => ?_)
            · skip
              refine g_aload_n rfl rfl ?_
              refine g_getR rfl ms.1 (mr_order ms) ?_
              refine g_iload rfl rfl ?_
              refine g_aload_n rfl rfl ?_
              refine g_getR rfl ms.1 (mr_order ms) ?_
              refine g_iload rfl rfl ?_
              refine g_iconst rfl ?_
              refine g_isub rfl (by omega) (by omega) ?_
              refine g_iald (i := (k - 1)) rfl (mt_order ms) (by omega) (by omega) ?_
              refine g_top (v2 := aI (((12 * p + e (k - 1) : Nat) : Int))) (congrArg aI (by exact hs2 (k - 1) (by omega))) ?_
              refine g_iast (i := k) rfl (mt_order ms) (by omega) (by omega) ?_
              refine g_hp (h2 := hw h (vset V2 (o + 10) k (((12 * p + e (k - 1) : Nat) : Int)))) rfl ?_
              refine g_iinc (l1 := [(5, aI ((k : Int) + (-1))), (4, aI ((12 * p + i : Int))), (3, aI ((i : Int))), (2, aI ((N : Int))), (0, aO (some o)), (1, aI ((p : Int)))]) rfl rfl (by omega) (by omega) rfl ?_
              rw [show ((k : Int) + (-1) : Int) = ((k - 1 : Nat) : Int) by omega]
              refine g_goto rfl ?_
              exact ih76 (k - 1) (vset V2 (o + 10) k ((12 * p + e (k - 1) : Nat) : Int)) (by omega) (by omega) (by exact fun q h1 h2 => by funext z; rw [vset_ne _ _ _ _ (by omega), hv2 q h1 h2]) (by exact fun a ha => by rw [vset_ne _ _ _ _ (by omega)]; exact hs2 a (by omega)) (by exact fun a h1 h2 => if z : a + 1 = k then by (rw [z, vset_eq, show a = k - 1 by omega]) else by (rw [vset_ne _ _ _ _ (by omega)]; exact hs3 a (by omega) h2)) (by exact fun a h1 h2 => if z : a = k - 1 then by (subst z; unfold lexL; omega) else hgt a (by omega) h2) (by omega)
            · skip
              refine g_aload_n rfl rfl ?_
              refine g_getR rfl ms.1 (mr_px ms) ?_
              refine g_aload_n rfl rfl ?_
              refine g_getR rfl ms.1 (mr_order ms) ?_
              refine g_iload rfl rfl ?_
              refine g_iconst rfl ?_
              refine g_isub rfl (by omega) (by omega) ?_
              refine g_iald (i := (k - 1)) rfl (mt_order ms) (by omega) (by omega) ?_
              refine g_top (v2 := aI (((12 * p + e (k - 1) : Nat) : Int))) (congrArg aI (by exact hs2 (k - 1) (by omega))) ?_
              refine g_iald (i := 12 * p + e (k - 1)) rfl (mt_px ms) (by omega) (by omega) ?_
              refine g_top (v2 := aI (gx S p (e (k - 1)))) (congrArg aI (by exact ((mg2.2 p hp).2 (e (k - 1)) (by omega)).1)) ?_
              refine g_aload_n rfl rfl ?_
              refine g_getR rfl ms.1 (mr_px ms) ?_
              refine g_iload rfl rfl ?_
              refine g_iald (i := 12 * p + i) rfl (mt_px ms) (by omega) (by omega) ?_
              refine g_top (v2 := aI (gx S p i)) (congrArg aI (by exact ((mg2.2 p hp).2 i (by omega)).1)) ?_
              refine g_icmp_ne rfl (fun cq126 => ?_) (fun cq126 => ?_)
              · skip
                refine g_aload_n rfl rfl ?_
                refine g_getR rfl ms.1 (mr_order ms) ?_
                refine g_iload rfl rfl ?_
                refine g_iload rfl rfl ?_
                refine g_iast (i := k) rfl (mt_order ms) (by omega) (by omega) ?_
                refine g_hp (h2 := hw h (vset V2 (o + 10) k ((12 * p + i : Int)))) rfl ?_
                refine g_iinc (l1 := [(2, aI ((N : Int) + 1)), (5, aI ((k : Int))), (4, aI ((12 * p + i : Int))), (3, aI ((i : Int))), (0, aO (some o)), (1, aI ((p : Int)))]) rfl rfl (by omega) (by omega) rfl ?_
                refine g_iinc (l1 := [(3, aI ((i : Int) + 1)), (2, aI ((N : Int) + 1)), (5, aI ((k : Int))), (4, aI ((12 * p + i : Int))), (0, aO (some o)), (1, aI ((p : Int)))]) rfl rfl (by omega) (by omega) rfl ?_
                refine g_goto rfl ?_
                refine g_ls [0, 1, 4, 5] rfl rfl ?_
                exact ih4 (i + 1) (N + 1) (insE e k i) (vset V2 (o + 10) k ((12 * p + i : Nat) : Int)) (by omega) (by refine hor.ins hk ?_ hgt; intro z; have hne1 := hne (k - 1) (by omega); unfold gSame at hne1; unfold lexL; omega) (by exact fun q h1 h2 => by funext z; rw [vset_ne _ _ _ _ (by omega), hv2 q h1 h2]) (by exact MO_ins hk hs2 hs3) (by omega)
              · skip
                refine g_aload_n rfl rfl ?_
                refine g_getR rfl ms.1 (mr_py ms) ?_
                refine g_aload_n rfl rfl ?_
                refine g_getR rfl ms.1 (mr_order ms) ?_
                refine g_iload rfl rfl ?_
                refine g_iconst rfl ?_
                refine g_isub rfl (by omega) (by omega) ?_
                refine g_iald (i := (k - 1)) rfl (mt_order ms) (by omega) (by omega) ?_
                refine g_top (v2 := aI (((12 * p + e (k - 1) : Nat) : Int))) (congrArg aI (by exact hs2 (k - 1) (by omega))) ?_
                refine g_iald (i := 12 * p + e (k - 1)) rfl (mt_py ms) (by omega) (by omega) ?_
                refine g_top (v2 := aI (gy S p (e (k - 1)))) (congrArg aI (by exact ((mg2.2 p hp).2 (e (k - 1)) (by omega)).2)) ?_
                refine g_aload_n rfl rfl ?_
                refine g_getR rfl ms.1 (mr_py ms) ?_
                refine g_iload rfl rfl ?_
                refine g_iald (i := 12 * p + i) rfl (mt_py ms) (by omega) (by omega) ?_
                refine g_top (v2 := aI (gy S p i)) (congrArg aI (by exact ((mg2.2 p hp).2 i (by omega)).2)) ?_
                refine g_icmp_le rfl (fun cq150 => ?_) (fun cq150 => ?_)
                · skip
                  refine g_aload_n rfl rfl ?_
                  refine g_getR rfl ms.1 (mr_order ms) ?_
                  refine g_iload rfl rfl ?_
                  refine g_iload rfl rfl ?_
                  refine g_iast (i := k) rfl (mt_order ms) (by omega) (by omega) ?_
                  refine g_hp (h2 := hw h (vset V2 (o + 10) k ((12 * p + i : Int)))) rfl ?_
                  refine g_iinc (l1 := [(2, aI ((N : Int) + 1)), (5, aI ((k : Int))), (4, aI ((12 * p + i : Int))), (3, aI ((i : Int))), (0, aO (some o)), (1, aI ((p : Int)))]) rfl rfl (by omega) (by omega) rfl ?_
                  refine g_iinc (l1 := [(3, aI ((i : Int) + 1)), (2, aI ((N : Int) + 1)), (5, aI ((k : Int))), (4, aI ((12 * p + i : Int))), (0, aO (some o)), (1, aI ((p : Int)))]) rfl rfl (by omega) (by omega) rfl ?_
                  refine g_goto rfl ?_
                  refine g_ls [0, 1, 4, 5] rfl rfl ?_
                  exact ih4 (i + 1) (N + 1) (insE e k i) (vset V2 (o + 10) k ((12 * p + i : Nat) : Int)) (by omega) (by refine hor.ins hk ?_ hgt; intro z; have hne1 := hne (k - 1) (by omega); unfold gSame at hne1; unfold lexL; omega) (by exact fun q h1 h2 => by funext z; rw [vset_ne _ _ _ _ (by omega), hv2 q h1 h2]) (by exact MO_ins hk hs2 hs3) (by omega)
                · skip
                  refine g_aload_n rfl rfl ?_
                  refine g_getR rfl ms.1 (mr_order ms) ?_
                  refine g_iload rfl rfl ?_
                  refine g_aload_n rfl rfl ?_
                  refine g_getR rfl ms.1 (mr_order ms) ?_
                  refine g_iload rfl rfl ?_
                  refine g_iconst rfl ?_
                  refine g_isub rfl (by omega) (by omega) ?_
                  refine g_iald (i := (k - 1)) rfl (mt_order ms) (by omega) (by omega) ?_
                  refine g_top (v2 := aI (((12 * p + e (k - 1) : Nat) : Int))) (congrArg aI (by exact hs2 (k - 1) (by omega))) ?_
                  refine g_iast (i := k) rfl (mt_order ms) (by omega) (by omega) ?_
                  refine g_hp (h2 := hw h (vset V2 (o + 10) k (((12 * p + e (k - 1) : Nat) : Int)))) rfl ?_
                  refine g_iinc (l1 := [(5, aI ((k : Int) + (-1))), (4, aI ((12 * p + i : Int))), (3, aI ((i : Int))), (2, aI ((N : Int))), (0, aO (some o)), (1, aI ((p : Int)))]) rfl rfl (by omega) (by omega) rfl ?_
                  rw [show ((k : Int) + (-1) : Int) = ((k - 1 : Nat) : Int) by omega]
                  refine g_goto rfl ?_
                  exact ih76 (k - 1) (vset V2 (o + 10) k ((12 * p + e (k - 1) : Nat) : Int)) (by omega) (by omega) (by exact fun q h1 h2 => by funext z; rw [vset_ne _ _ _ _ (by omega), hv2 q h1 h2]) (by exact fun a ha => by rw [vset_ne _ _ _ _ (by omega)]; exact hs2 a (by omega)) (by exact fun a h1 h2 => if z : a + 1 = k then by (rw [z, vset_eq, show a = k - 1 by omega]) else by (rw [vset_ne _ _ _ _ (by omega)]; exact hs3 a (by omega) h2)) (by exact fun a h1 h2 => if z : a = k - 1 then by (subst z; unfold lexL; omega) else hgt a (by omega) h2) (by omega)
      have l31 : ∀ (fuel : Nat) (j : Nat) (tw : Int), (j ≤ N) → (i < sGn S p) → ((tw = 0 ∧ ∀ k < j, ¬ gSame S p (e k) i) ∨ (tw = 1 ∧ ∃ k < N, gSame S p (e k) i)) → N - j < fuel → Wk w d cd_X12_wrap 31 [(7, aI ((j : Int))), (6, aI tw), (5, aI ((N : Int))), (4, aI ((12 * p + i : Int))), (3, aI ((i : Int))), (2, aI ((N : Int))), (0, aO (some o)), (1, aI ((p : Int)))] [] (hw h V1) (RI (fun r h1 => ∃ V1, h1 = hw h V1 ∧ (∀ q, q ≠ o + 9 → q ≠ o + 10 → V1 q = V q) ∧ WrM S p V1 o r)) := by
        intro fuel
        induction fuel with
        | zero => intros; omega
        | succ fuel ih31 =>
          intro j tw hj hin htw hfuel
          refine g_iload rfl rfl ?_
          refine g_iload_n rfl rfl ?_
          refine g_icmp_ge rfl (fun cq34 => ?_) (fun cq34 => ?_)
          · skip
            refine g_iload rfl rfl ?_
            refine g_if_ne rfl (fun cq73 => ?_) (fun cq73 => ?_)
            · skip
              refine g_iinc (l1 := [(3, aI ((i : Int) + 1)), (7, aI ((j : Int))), (6, aI tw), (5, aI ((N : Int))), (4, aI ((12 * p + i : Int))), (2, aI ((N : Int))), (0, aO (some o)), (1, aI ((p : Int)))]) rfl rfl (by omega) (by omega) rfl ?_
              refine g_goto rfl ?_
              refine g_ls [0, 5, 6, 7] rfl rfl ?_
              exact ih4 (i + 1) N e V1 (by omega) (by exact hor.skip ((htw.resolve_left (fun z => cq73 z.1)).2)) (by exact hv) (by exact ho) (by omega)
            · skip
              refine g_ls [2, 3, 4, 5, 6, 7] rfl rfl ?_
              exact l76 (by exact htw.elim (fun z a ha => z.2 a (by omega)) (fun z => by omega)) _ N V1 (by omega) (by omega) (by exact hv) (by exact fun a ha => ho a ha) (by exact fun a h1 h2 => by omega) (by exact fun a h1 h2 => by omega) (Nat.lt_succ_self _)
          · skip
            have hei := hor.2.1
            refine g_iload rfl rfl ?_
            refine g_if_ne rfl (fun cq39 => ?_) (fun cq39 => ?_)
            · skip
              refine g_iconst rfl ?_
              refine g_goto rfl ?_
              refine g_istore (l1 := [(6, aI 1), (7, aI ((j : Int))), (5, aI ((N : Int))), (4, aI ((12 * p + i : Int))), (3, aI ((i : Int))), (2, aI ((N : Int))), (0, aO (some o)), (1, aI ((p : Int)))]) rfl rfl ?_
              refine g_iinc (l1 := [(7, aI ((j : Int) + 1)), (6, aI 1), (5, aI ((N : Int))), (4, aI ((12 * p + i : Int))), (3, aI ((i : Int))), (2, aI ((N : Int))), (0, aO (some o)), (1, aI ((p : Int)))]) rfl rfl (by omega) (by omega) rfl ?_
              refine g_goto rfl ?_
              exact ih31 (j + 1) _ (by omega) (by omega) (by 
                                                                                                                                                                                                                                                                                                                                                                                                                first
                                                                                                                                                                                                                                                                                                                                                                                                                | (refine Or.inr ⟨rfl, ?_⟩; exact (htw.resolve_left (fun z => cq39 z.1)).2)
                                                                                                                                                                                                                                                                                                                                                                                                                | (refine Or.inr ⟨rfl, j, ?_, Classical.byContradiction cq55⟩; omega)
                                                                                                                                                                                                                                                                                                                                                                                                                | (refine Or.inl ⟨rfl, fun k hk => ?_⟩; exact (show k < j ∨ k = j by omega).elim (fun z => (htw.resolve_right (fun y => by omega)).2 k z) (fun z => by rw [z]; exact cq55))) (by omega)
            · skip
              have hej := hei j (by omega)
              refine g_aload_n rfl rfl ?_
              refine g_aload_n rfl rfl ?_
              refine g_getR rfl ms.1 (mr_order ms) ?_
              refine g_iload rfl rfl ?_
              refine g_iald (i := j) rfl (mt_order ms) (by omega) (by omega) ?_
              refine g_top (v2 := aI (((12 * p + e j : Nat) : Int))) (congrArg aI (by exact ho j (by omega))) ?_
              refine g_iload rfl rfl ?_
              refine g_callVI [aI (((12 * p + e j : Nat) : Int)), aI ((12 * p + i : Int))] [] rfl rfl rfl rfl (Nat.le_of_ble_eq_true rfl) ms.1 (m_pgOther (by omega) ms V1 mg1 ok p hp (e j) (by omega) i (by omega)) ?_
              rintro r3 hx3 ⟨ehx3, rfl⟩
              rw [ehx3]
              clear ehx3 hx3
              refine g_b_ne rfl (fun cq55 => ?_) (fun cq55 => ?_)
              · skip
                refine g_iconst rfl ?_
                refine g_istore (l1 := [(6, aI 0), (7, aI ((j : Int))), (5, aI ((N : Int))), (4, aI ((12 * p + i : Int))), (3, aI ((i : Int))), (2, aI ((N : Int))), (0, aO (some o)), (1, aI ((p : Int)))]) rfl rfl ?_
                refine g_iinc (l1 := [(7, aI ((j : Int) + 1)), (6, aI 0), (5, aI ((N : Int))), (4, aI ((12 * p + i : Int))), (3, aI ((i : Int))), (2, aI ((N : Int))), (0, aO (some o)), (1, aI ((p : Int)))]) rfl rfl (by omega) (by omega) rfl ?_
                refine g_goto rfl ?_
                exact ih31 (j + 1) _ (by omega) (by omega) (by 
                                                                                                                                                                                                                                                                                                                                                                                                                first
                                                                                                                                                                                                                                                                                                                                                                                                                | (refine Or.inr ⟨rfl, ?_⟩; exact (htw.resolve_left (fun z => cq39 z.1)).2)
                                                                                                                                                                                                                                                                                                                                                                                                                | (refine Or.inr ⟨rfl, j, ?_, Classical.byContradiction cq55⟩; omega)
                                                                                                                                                                                                                                                                                                                                                                                                                | (refine Or.inl ⟨rfl, fun k hk => ?_⟩; exact (show k < j ∨ k = j by omega).elim (fun z => (htw.resolve_right (fun y => by omega)).2 k z) (fun z => by rw [z]; exact cq55))) (by omega)
              · skip
                refine g_iconst rfl ?_
                refine g_goto rfl ?_
                refine g_istore (l1 := [(6, aI 1), (7, aI ((j : Int))), (5, aI ((N : Int))), (4, aI ((12 * p + i : Int))), (3, aI ((i : Int))), (2, aI ((N : Int))), (0, aO (some o)), (1, aI ((p : Int)))]) rfl rfl ?_
                refine g_iinc (l1 := [(7, aI ((j : Int) + 1)), (6, aI 1), (5, aI ((N : Int))), (4, aI ((12 * p + i : Int))), (3, aI ((i : Int))), (2, aI ((N : Int))), (0, aO (some o)), (1, aI ((p : Int)))]) rfl rfl (by omega) (by omega) rfl ?_
                refine g_goto rfl ?_
                exact ih31 (j + 1) _ (by omega) (by omega) (by 
                                                                                                                                                                                                                                                                                                                                                                                                                first
                                                                                                                                                                                                                                                                                                                                                                                                                | (refine Or.inr ⟨rfl, ?_⟩; exact (htw.resolve_left (fun z => cq39 z.1)).2)
                                                                                                                                                                                                                                                                                                                                                                                                                | (refine Or.inr ⟨rfl, j, ?_, Classical.byContradiction cq55⟩; omega)
                                                                                                                                                                                                                                                                                                                                                                                                                | (refine Or.inl ⟨rfl, fun k hk => ?_⟩; exact (show k < j ∨ k = j by omega).elim (fun z => (htw.resolve_right (fun y => by omega)).2 k z) (fun z => by rw [z]; exact cq55))) (by omega)
      refine g_iload_n rfl rfl ?_
      refine g_aload_n rfl rfl ?_
      refine g_getR rfl ms.1 (mr_corners ms) ?_
      refine g_iload_n rfl rfl ?_
      refine g_iald (i := p) rfl (mt_corners ms) (by omega) (by omega) ?_
      refine g_top (v2 := aI ((sGn S p : Int))) (congrArg aI (by exact (mg1.2 p hp).1)) ?_
      refine g_icmp_ge rfl (fun cq11 => ?_) (fun cq11 => ?_)
      · skip
        obtain rfl : i = sGn S p := by omega
        refine g_iload_n rfl rfl ?_
        refine g_iconst rfl ?_
        refine g_icmp_ge rfl (fun cq195 => ?_) (fun cq195 => ?_)
        · skip
          refine g_iconst rfl ?_
          refine g_istore_n (l1 := [(3, aI 0), (2, aI ((N : Int))), (0, aO (some o)), (1, aI ((p : Int)))]) rfl rfl ?_
          refine g_iconst rfl ?_
          refine g_istore (l1 := [(4, aI 0), (3, aI 0), (2, aI ((N : Int))), (0, aO (some o)), (1, aI ((p : Int)))]) rfl rfl ?_
          exact l230 N e (by exact hor) (by omega) _ 0 _ (by omega) (by exact hv) (by exact ho) (by exact fun j hj => by simp [chX] at hj) (Nat.lt_succ_self _)
        · skip
          refine g_iconst rfl ?_
          refine g_istore_n (l1 := [(3, aI 0), (2, aI ((N : Int))), (0, aO (some o)), (1, aI ((p : Int)))]) rfl rfl ?_
          exact l200 N e (by exact hor) (by omega) _ 0 _ (by omega) (by exact hv) (by exact ho) (by exact fun a ha => by omega) (Nat.lt_succ_self _)
      · skip
        refine g_bipush rfl ?_
        refine g_iload_n rfl rfl ?_
        refine g_imul rfl (by omega) (by omega) ?_
        refine g_iload_n rfl rfl ?_
        refine g_iadd rfl (by omega) (by omega) ?_
        refine g_istore (l1 := [(4, aI ((12 * ((p : Int))) + ((i : Int)))), (3, aI ((i : Int))), (2, aI ((N : Int))), (0, aO (some o)), (1, aI ((p : Int)))]) rfl rfl ?_
        refine g_iload_n rfl rfl ?_
        refine g_istore (l1 := [(5, aI ((N : Int))), (4, aI ((12 * ((p : Int))) + ((i : Int)))), (3, aI ((i : Int))), (2, aI ((N : Int))), (0, aO (some o)), (1, aI ((p : Int)))]) rfl rfl ?_
        refine g_iconst rfl ?_
        refine g_istore (l1 := [(6, aI 0), (5, aI ((N : Int))), (4, aI ((12 * ((p : Int))) + ((i : Int)))), (3, aI ((i : Int))), (2, aI ((N : Int))), (0, aO (some o)), (1, aI ((p : Int)))]) rfl rfl ?_
        refine g_iconst rfl ?_
        refine g_istore (l1 := [(7, aI 0), (6, aI 0), (5, aI ((N : Int))), (4, aI ((12 * ((p : Int))) + ((i : Int)))), (3, aI ((i : Int))), (2, aI ((N : Int))), (0, aO (some o)), (1, aI ((p : Int)))]) rfl rfl ?_
        exact l31 _ 0 _ (by omega) (by omega) (by exact Or.inl ⟨rfl, fun k hk => by omega⟩) (Nat.lt_succ_self _)
  refine g_iconst rfl ?_
  refine g_istore_n (l1 := [(2, aI 0), (0, aO (some o)), (1, aI ((p : Int)))]) rfl rfl ?_
  refine g_iconst rfl ?_
  refine g_istore_n (l1 := [(3, aI 0), (2, aI 0), (0, aO (some o)), (1, aI ((p : Int)))]) rfl rfl ?_
  exact l4 _ 0 0 (fun _ => 0) V (by omega) (by exact ⟨Nat.le_refl _, fun k hk => by omega, fun a b h1 h2 => by omega, fun j hj => by omega⟩) (by exact fun q _ _ => rfl) (by exact fun k hk => by omega) (Nat.lt_succ_self _)
