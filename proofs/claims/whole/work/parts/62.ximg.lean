/-! the class looks at a figure: printed by wip/whole/s62.py -/
/-- a cell's x in an image -/
def imgX (c q : Nat) (m : Bool) : Int := if q % 4 = 0 ∨ q % 4 = 3 then (if q % 2 = 0 then (if m then 8 - ((c % 17 : Nat) : Int) else ((c % 17 : Nat) : Int) - 8) else ((c / 17 : Nat) : Int)) else -(if q % 2 = 0 then (if m then 8 - ((c % 17 : Nat) : Int) else ((c % 17 : Nat) : Int) - 8) else ((c / 17 : Nat) : Int))
def imgL (ch : List Nat) (q : Nat) (m : Bool) : Int := ch.foldl (fun a c => min a (imgX c q m)) 17
def imgE (ch : List Nat) (q : Nat) (m : Bool) (c : Nat) : Int := 8 * (imgX c (q + 3) m - imgL ch (q + 3) m) + (imgX c q m - imgL ch q m)
def imgK (ch : List Nat) (q : Nat) (m : Bool) : Bool := ch.all (fun c => decide (0 ≤ imgE ch q m c) && decide (imgE ch q m c ≤ 62))
def img (ch : List Nat) (q : Nat) (m : Bool) : Nat := ch.foldl (fun b c => b ||| 2 ^ (imgE ch q m c).toNat) 0
def leastB (kind : Nat) (ch : List Nat) : Bool := (List.range 4).all (fun q => !decide (img ch q false < img ch 0 false) && !(kind == 2 && decide (img ch q true < img ch 0 false)))
def leastK (ch : List Nat) : Bool := (List.range 4).all (fun q => imgK ch q false && imgK ch q true)
theorem imgX_b (c q : Nat) (m : Bool) (hc : c < 153) : -9 ≤ imgX c q m ∧ imgX c q m ≤ 9 := by
  have h1 : c % 17 < 17 := Nat.mod_lt _ (by omega)
  have h2 : c / 17 < 9 := by omega
  unfold imgX
  split <;> split <;> (try split) <;> omega
theorem imgL_le (q : Nat) (m : Bool) : ∀ (ch : List Nat) (a : Int), ch.foldl (fun a c => min a (imgX c q m)) a ≤ a ∧ ∀ c ∈ ch, ch.foldl (fun a c => min a (imgX c q m)) a ≤ imgX c q m := by
  intro ch
  induction ch with
  | nil => intro a; exact ⟨Int.le_refl _, fun c hc => by cases hc⟩
  | cons x t ih =>
    intro a
    obtain ⟨i1, i2⟩ := ih (min a (imgX x q m))
    rw [List.foldl_cons]
    refine ⟨by omega, fun c hc => ?_⟩
    rcases List.mem_cons.mp hc with rfl | hc
    · omega
    · exact i2 c hc
theorem imgL_ge (q : Nat) (m : Bool) (ch : List Nat) (hch : ∀ c ∈ ch, c < 153) : ∀ (a : Int), -9 ≤ a → -9 ≤ ch.foldl (fun a c => min a (imgX c q m)) a := by
  induction ch with
  | nil => intro a h; exact h
  | cons x t ih =>
    intro a h
    rw [List.foldl_cons]
    have := imgX_b x q m (hch x List.mem_cons_self)
    exact ih (fun c hc => hch c (List.mem_cons_of_mem _ hc)) _ (by omega)
theorem foldl_take {α : Type} (f : α → Nat → α) (a : α) (l : List Nat) (i : Nat) (hi : i < l.length) : (l.take (i + 1)).foldl f a = f ((l.take i).foldl f a) l[i] := by
  rw [List.take_add_one, List.getElem?_eq_getElem hi, List.foldl_append]
  rfl
theorem lor_nat {a b : Nat} (ha : a < 2 ^ 63) (hb : b < 2 ^ 63) : lor (a : Int) (b : Int) = ((a ||| b : Nat) : Int) := by
  unfold lor
  have hab : a ||| b < 2 ^ 63 := Nat.or_lt_two_pow ha hb
  show (Int64.ofInt a ||| Int64.ofInt b).toBitVec.toInt = _
  have e1 : (Int64.ofInt a ||| Int64.ofInt b).toBitVec = BitVec.ofInt 64 a ||| BitVec.ofInt 64 b := rfl
  have e3 : (BitVec.ofInt 64 (a : Int) ||| BitVec.ofInt 64 (b : Int)).toNat = a ||| b := by
    rw [BitVec.toNat_or, BitVec.toNat_ofInt, BitVec.toNat_ofInt]
    congr 1
    · rw [Int.emod_eq_of_lt (by omega) (by omega)]; rfl
    · rw [Int.emod_eq_of_lt (by omega) (by omega)]; rfl
  rw [e1, BitVec.toInt_eq_toNat_of_lt (by rw [e3]; omega), e3]
theorem lshl_1 {i : Nat} (hi : i ≤ 62) : lshl 1 (i : Int) = ((2 ^ i : Nat) : Int) := by
  unfold lshl
  have h2 : (2 : Nat) ^ i ≤ 2 ^ 62 := Nat.pow_le_pow_right (by omega) hi
  rw [Int.emod_eq_of_lt (by omega) (by omega), Int.toNat_natCast, Int.one_mul]
  have e : (2 : Int) ^ i = ((2 ^ i : Nat) : Int) := by simp
  have h0 : (0 : Int) ≤ ((2 ^ i : Nat) : Int) := Int.natCast_nonneg _
  rw [e, w64_id]
  unfold r64
  omega
theorem img_lt (ch : List Nat) (q : Nat) (m : Bool) : ∀ l : List Nat, (∀ c ∈ l, imgE ch q m c ≤ 62) → l.foldl (fun b c => b ||| 2 ^ (imgE ch q m c).toNat) 0 < 2 ^ 63 := by
  intro l
  have key : ∀ (l : List Nat) (b : Nat), b < 2 ^ 63 → (∀ c ∈ l, imgE ch q m c ≤ 62) → l.foldl (fun b c => b ||| 2 ^ (imgE ch q m c).toNat) b < 2 ^ 63 := by
    intro l
    induction l with
    | nil => intro b hb _; exact hb
    | cons x t ih =>
      intro b hb hl
      rw [List.foldl_cons]
      refine ih _ (Nat.or_lt_two_pow hb ?_) fun c hc => hl c (List.mem_cons_of_mem _ hc)
      have := hl x List.mem_cons_self
      exact Nat.pow_lt_pow_right (by omega) (by omega)
  exact key l 0 (by decide)
theorem x_imageX {w : aW} {d : Nat} (hd : 1 ≤ d) (cl q : Nat) (m : Bool) (hcl : cl < 153) (h : aH) : WP w d 16 [aI ((cl : Int)), aI ((q : Int)), aI (if m = true then 1 else 0)] h (RI (fun x h1 => h1 = h ∧ x = imgX cl q m)) := by
  obtain ⟨d, rfl⟩ : ∃ d1, d = d1 + 1 := ⟨d - 1, by omega⟩
  refine WP.enter (cd := cd_X0_imageX) rfl ?_
  have hls : largs 0 [aI ((cl : Int)), aI ((q : Int)), aI (if m = true then 1 else 0)] = [(0, aI ((cl : Int))), (1, aI ((q : Int))), (2, aI (if m = true then 1 else 0))] := rfl
  rw [hls]
  clear hls
  have j40 : ∀ (r : Int), (r = (if q % 2 = 0 then (if m then 8 - ((cl % 17 : Nat) : Int) else ((cl % 17 : Nat) : Int) - 8) else ((cl / 17 : Nat) : Int))) → Wk w d cd_X0_imageX 40 [(0, aI ((cl : Int))), (1, aI ((q : Int))), (2, aI (if m = true then 1 else 0))] [aI r] h (RI (fun x h1 => h1 = h ∧ x = imgX cl q m)) := by
    intro r hr
    refine g_istore (l1 := [(5, aI r), (0, aI ((cl : Int))), (1, aI ((q : Int))), (2, aI (if m = true then 1 else 0))]) rfl rfl ?_
    refine g_iload_n rfl rfl ?_
    refine g_iconst rfl ?_
    refine g_iremN (m := 4) (n := q) rfl (by omega) ?_
    refine g_if_eq rfl (fun c45 => ?_) (fun c45 => ?_)
    · skip
      refine g_iload rfl rfl ?_
      refine g_goto rfl ?_
      refine g_iret rfl ?_
      refine ⟨rfl, ?_⟩
      unfold imgX
      first | (rw [if_pos (by omega), hr]) | (rw [if_neg (by omega), hr])
    · skip
      refine g_iload_n rfl rfl ?_
      refine g_iconst rfl ?_
      refine g_iremN (m := 4) (n := q) rfl (by omega) ?_
      refine g_iconst rfl ?_
      refine g_icmp_ne rfl (fun c52 => ?_) (fun c52 => ?_)
      · skip
        have hrb : -9 ≤ r ∧ r ≤ 9 := by
          have h1 : cl % 17 < 17 := Nat.mod_lt _ (by omega)
          have h2 : cl / 17 < 9 := by omega
          rw [hr]
          split <;> (try split) <;> omega
        refine g_iload rfl rfl ?_
        refine g_ineg2 rfl (by omega) (by omega) ?_
        refine g_iret rfl ?_
        refine ⟨rfl, ?_⟩
        unfold imgX
        first | (rw [if_pos (by omega), hr]) | (rw [if_neg (by omega), hr])
      · skip
        refine g_iload rfl rfl ?_
        refine g_goto rfl ?_
        refine g_iret rfl ?_
        refine ⟨rfl, ?_⟩
        unfold imgX
        first | (rw [if_pos (by omega), hr]) | (rw [if_neg (by omega), hr])
  have j21 : ∀ (r : Int), (r = (if m then 8 - ((cl % 17 : Nat) : Int) else ((cl % 17 : Nat) : Int) - 8)) → Wk w d cd_X0_imageX 21 [(0, aI ((cl : Int))), (1, aI ((q : Int))), (2, aI (if m = true then 1 else 0))] [aI r] h (RI (fun x h1 => h1 = h ∧ x = imgX cl q m)) := by
    intro r hr
    refine g_istore_n (l1 := [(3, aI r), (0, aI ((cl : Int))), (1, aI ((q : Int))), (2, aI (if m = true then 1 else 0))]) rfl rfl ?_
    refine g_iload_n rfl rfl ?_
    refine g_bipush rfl ?_
    refine g_idivN (m := 17) (n := cl) rfl (by omega) (by omega) ?_
    refine g_istore (l1 := [(4, aI (((cl / 17 : Nat) : Int))), (3, aI r), (0, aI ((cl : Int))), (1, aI ((q : Int))), (2, aI (if m = true then 1 else 0))]) rfl rfl ?_
    refine g_iload_n rfl rfl ?_
    refine g_iconst rfl ?_
    refine g_iremN (m := 2) (n := q) rfl (by omega) ?_
    refine g_if_ne rfl (fun c31 => ?_) (fun c31 => ?_)
    · skip
      refine g_iload rfl rfl ?_
      refine g_ls [2, 3, 4] rfl rfl ?_
      exact j40 _ (by rw [if_neg (by omega)])
    · skip
      refine g_iload_n rfl rfl ?_
      refine g_goto rfl ?_
      refine g_ls [2, 3, 4] rfl rfl ?_
      exact j40 _ (by rw [if_pos (by omega)]; exact hr)
  refine g_iload_n rfl rfl ?_
  refine g_b_eq rfl (fun c1 => ?_) (fun c1 => ?_)
  · skip
    refine g_iload_n rfl rfl ?_
    refine g_bipush rfl ?_
    refine g_iremN (m := 17) (n := cl) rfl (by omega) ?_
    refine g_bipush rfl ?_
    refine g_isub rfl (by omega) (by omega) ?_
    exact j21 _ (by first | (rw [if_pos (by assumption)]; done) | (rw [if_neg (by assumption)]; done) | (rw [if_pos (by assumption)]; omega) | (rw [if_neg (by assumption)]; omega))
  · skip
    refine g_bipush rfl ?_
    refine g_iload_n rfl rfl ?_
    refine g_bipush rfl ?_
    refine g_iremN (m := 17) (n := cl) rfl (by omega) ?_
    refine g_isub rfl (by omega) (by omega) ?_
    refine g_goto rfl ?_
    exact j21 _ (by first | (rw [if_pos (by assumption)]; done) | (rw [if_neg (by assumption)]; done) | (rw [if_pos (by assumption)]; omega) | (rw [if_neg (by assumption)]; omega))
theorem c_imin {w : aW} {d : Nat} (hd : 1 ≤ d) (x y : Int) (h : aH) : WP w d 388 [aI x, aI y] h (RI (fun v h1 => h1 = h ∧ v = min x y)) := by
  obtain ⟨d, rfl⟩ : ∃ d1, d = d1 + 1 := ⟨d - 1, by omega⟩
  refine WP.enter (cd := cd_J9_min_7cf53) rfl ?_
  have hls : largs 0 [aI x, aI y] = [(0, aI x), (1, aI y)] := rfl
  rw [hls]
  clear hls
  refine g_iload_n rfl rfl ?_
  refine g_iload_n rfl rfl ?_
  refine g_icmp_gt rfl (fun c2 => ?_) (fun c2 => ?_)
  · skip
    refine g_iload_n rfl rfl ?_
    refine g_iret rfl ?_
    refine ⟨rfl, ?_⟩
    omega
  · skip
    refine g_iload_n rfl rfl ?_
    refine g_goto rfl ?_
    refine g_iret rfl ?_
    refine ⟨rfl, ?_⟩
    omega
set_option maxRecDepth 100000 in
theorem x_image {w : aW} {d : Nat} (hd : 2 ≤ d) {h : aH} {c : Nat} (cs : CS h c) (V : Nat → Nat → Int) (n : Nat) (hn : V (c + 27) 13 = n) (hn8 : n ≤ 8) (ch : List Nat) (hcl : ch.length = n) (hch : ∀ i (hi : i < n), V (c + 30) i = (ch[i]'(by omega) : Nat)) (hcb : ∀ x ∈ ch, x < 153) (q : Nat) (hq : q < 4) (m : Bool) (hk : imgK ch q m = true) : WP w d 15 [aO (some (c + 27)), aI ((q : Int)), aI (if m = true then 1 else 0)] (hw h V) (RJ (fun r h1 => h1 = hw h V ∧ r = (img ch q m : Nat))) := by
  obtain ⟨d, rfl⟩ : ∃ d1, d = d1 + 1 := ⟨d - 1, by omega⟩
  refine WP.enter (cd := cd_X0_image) rfl ?_
  have hls : largs 0 [aO (some (c + 27)), aI ((q : Int)), aI (if m = true then 1 else 0)] = [(0, aO (some (c + 27))), (1, aI ((q : Int))), (2, aI (if m = true then 1 else 0))] := rfl
  rw [hls]
  clear hls
  have l76 : ∀ (fuel : Nat) (i : Nat), (i ≤ n) → n - i < fuel → Wk w d cd_X0_image 76 [(7, aI ((i : Int))), (5, aJ (((ch.take i).foldl (fun b c => b ||| 2 ^ (imgE ch q m c).toNat) 0 : Nat))), (4, aI (imgL ch (q + 3) m)), (3, aI (imgL ch q m)), (0, aO (some (c + 27))), (1, aI ((q : Int))), (2, aI (if m = true then 1 else 0))] [] (hw h V) (RJ (fun r h1 => h1 = hw h V ∧ r = (img ch q m : Nat))) := by
    intro fuel
    induction fuel with
    | zero => intros; omega
    | succ fuel ih76 =>
      intro i hi hfuel
      have l1 : -9 ≤ imgL ch q m := imgL_ge q m ch hcb 17 (by omega)
      have l2 : -9 ≤ imgL ch (q + 3) m := imgL_ge (q + 3) m ch hcb 17 (by omega)
      have l3 : imgL ch q m ≤ 17 := (imgL_le q m ch 17).1
      have l4 : imgL ch (q + 3) m ≤ 17 := (imgL_le (q + 3) m ch 17).1
      have k1 : ∀ x ∈ ch, 0 ≤ imgE ch q m x ∧ imgE ch q m x ≤ 62 := fun x hx => by have := List.all_eq_true.mp hk x hx; simpa using this
      have k2 := img_lt ch q m (ch.take i) (fun x hx => (k1 x (List.mem_of_mem_take hx)).2)
      refine g_iload rfl rfl ?_
      refine g_aload_n rfl rfl ?_
      refine g_getI rfl (cs.kd 27 (by omega) rfl) ?_
      refine g_top (v2 := aI ((n : Int))) (congrArg aI (by show V (c + 27) 13 = (n : Int); exact hn)) ?_
      refine g_icmp_ge rfl (fun c82 => ?_) (fun c82 => ?_)
      · skip
        refine g_lload rfl rfl ?_
        refine g_lret rfl ?_
        refine ⟨rfl, ?_⟩
        rw [List.take_of_length_le (by omega)]
        rfl
      · skip
        refine g_iload rfl rfl ?_
        refine g_bipush rfl ?_
        refine g_icmp_ge_f rfl (by omega) ?_
        have k3 := k1 (ch[i]'(by omega)) (List.getElem_mem _)
        have k4 : 8 * (imgX (ch[i]'(by omega)) (q + 3) m - imgL ch (q + 3) m) + (imgX (ch[i]'(by omega)) q m - imgL ch q m) = imgE ch q m (ch[i]'(by omega)) := rfl
        have k5 : (2 : Nat) ^ (imgE ch q m (ch[i]'(by omega))).toNat < 2 ^ 63 := Nat.pow_lt_pow_right (by omega) (by omega)
        refine g_aload_n rfl rfl ?_
        refine g_getR rfl (cs.kd 27 (by omega) rfl) (cs.rf 34 (by omega) rfl) ?_
        refine g_iload rfl rfl ?_
        refine g_iald (i := i) rfl (cs.ar 30 (by omega) rfl) (by omega) (by omega) ?_
        refine g_top (v2 := aI (((ch[i]'(by omega) : Nat) : Int))) (congrArg aI (by show V (c + 30) i = _; exact hch i (by omega))) ?_
        refine g_iload_n rfl rfl ?_
        refine g_iload_n rfl rfl ?_
        refine g_callSI [aI (((ch[i]'(by omega) : Nat) : Int)), aI ((q : Int)), aI (if m = true then 1 else 0)] [] rfl rfl rfl rfl (Nat.le_of_ble_eq_true rfl) (x_imageX (by omega) ((ch[i]'(by omega))) (q) m (hcb _ (List.getElem_mem _)) _) ?_
        rintro _ _ ⟨rfl, rfl⟩
        have hb1 := imgX_b ((ch[i]'(by omega))) (q) m (hcb _ (List.getElem_mem _))
        refine g_iload_n rfl rfl ?_
        refine g_isub rfl (by omega) (by omega) ?_
        refine g_istore (l1 := [(8, aI ((imgX ((ch[i]'(by omega))) (q) m) - (imgL ch q m))), (7, aI ((i : Int))), (5, aJ (((ch.take i).foldl (fun b c => b ||| 2 ^ (imgE ch q m c).toNat) 0 : Nat))), (4, aI (imgL ch (q + 3) m)), (3, aI (imgL ch q m)), (0, aO (some (c + 27))), (1, aI ((q : Int))), (2, aI (if m = true then 1 else 0))]) rfl rfl ?_
        refine g_aload_n rfl rfl ?_
        refine g_getR rfl (cs.kd 27 (by omega) rfl) (cs.rf 34 (by omega) rfl) ?_
        refine g_iload rfl rfl ?_
        refine g_iald (i := i) rfl (cs.ar 30 (by omega) rfl) (by omega) (by omega) ?_
        refine g_top (v2 := aI (((ch[i]'(by omega) : Nat) : Int))) (congrArg aI (by show V (c + 30) i = _; exact hch i (by omega))) ?_
        refine g_iload_n rfl rfl ?_
        refine g_iconst rfl ?_
        refine g_iadd rfl (by omega) (by omega) ?_
        refine g_iload_n rfl rfl ?_
        refine g_callSI [aI (((ch[i]'(by omega) : Nat) : Int)), aI (((q : Int)) + 3), aI (if m = true then 1 else 0)] [] rfl rfl rfl rfl (Nat.le_of_ble_eq_true rfl) (x_imageX (by omega) ((ch[i]'(by omega))) (q + 3) m (hcb _ (List.getElem_mem _)) _) ?_
        rintro _ _ ⟨rfl, rfl⟩
        have hb2 := imgX_b ((ch[i]'(by omega))) (q + 3) m (hcb _ (List.getElem_mem _))
        refine g_iload rfl rfl ?_
        refine g_isub rfl (by omega) (by omega) ?_
        refine g_istore (l1 := [(9, aI ((imgX ((ch[i]'(by omega))) (q + 3) m) - (imgL ch (q + 3) m))), (8, aI ((imgX ((ch[i]'(by omega))) (q) m) - (imgL ch q m))), (7, aI ((i : Int))), (5, aJ (((ch.take i).foldl (fun b c => b ||| 2 ^ (imgE ch q m c).toNat) 0 : Nat))), (4, aI (imgL ch (q + 3) m)), (3, aI (imgL ch q m)), (0, aO (some (c + 27))), (1, aI ((q : Int))), (2, aI (if m = true then 1 else 0))]) rfl rfl ?_
        refine g_lload rfl rfl ?_
        refine g_lconst1 rfl ?_
        refine g_bipush rfl ?_
        refine g_iload rfl rfl ?_
        refine g_imul rfl (by omega) (by omega) ?_
        refine g_iload rfl rfl ?_
        refine g_iadd rfl (by omega) (by omega) ?_
        refine g_top (v2 := aI (((imgE ch q m (ch[i]'(by omega))).toNat : Int))) (congrArg aI (by omega)) ?_
        refine g_lshl rfl ?_
        refine g_top (v2 := aJ (((2 ^ (imgE ch q m (ch[i]'(by omega))).toNat : Nat) : Int))) (congrArg aJ (by exact lshl_1 (by omega))) ?_
        refine g_lor rfl ?_
        refine g_top (v2 := aJ (((ch.take (i + 1)).foldl (fun b c => b ||| 2 ^ (imgE ch q m c).toNat) 0 : Nat))) (congrArg aJ (by rw [foldl_take _ _ ch i (by omega)]; exact lor_nat k2 k5)) ?_
        refine g_lstore (l1 := [(5, aJ (((ch.take (i + 1)).foldl (fun b c => b ||| 2 ^ (imgE ch q m c).toNat) 0 : Nat))), (9, aI ((imgX ((ch[i]'(by omega))) (q + 3) m) - (imgL ch (q + 3) m))), (8, aI ((imgX ((ch[i]'(by omega))) (q) m) - (imgL ch q m))), (7, aI ((i : Int))), (4, aI (imgL ch (q + 3) m)), (3, aI (imgL ch q m)), (0, aO (some (c + 27))), (1, aI ((q : Int))), (2, aI (if m = true then 1 else 0))]) rfl rfl ?_
        refine g_iinc (l1 := [(7, aI ((i : Int) + 1)), (5, aJ (((ch.take (i + 1)).foldl (fun b c => b ||| 2 ^ (imgE ch q m c).toNat) 0 : Nat))), (9, aI ((imgX ((ch[i]'(by omega))) (q + 3) m) - (imgL ch (q + 3) m))), (8, aI ((imgX ((ch[i]'(by omega))) (q) m) - (imgL ch q m))), (4, aI (imgL ch (q + 3) m)), (3, aI (imgL ch q m)), (0, aO (some (c + 27))), (1, aI ((q : Int))), (2, aI (if m = true then 1 else 0))]) rfl rfl (by omega) (by omega) rfl ?_
        refine g_goto rfl ?_
        refine g_ls [0, 1, 4, 5, 6, 7, 8] rfl rfl ?_
        exact ih76 (i + 1) (by omega) (by omega)
  have l10 : ∀ (fuel : Nat) (i : Nat), (i ≤ n) → n - i < fuel → Wk w d cd_X0_image 10 [(5, aI ((i : Int))), (4, aI ((ch.take (i)).foldl (fun a c => min a (imgX c (q + 3) m)) 17)), (3, aI ((ch.take (i)).foldl (fun a c => min a (imgX c (q) m)) 17)), (0, aO (some (c + 27))), (1, aI ((q : Int))), (2, aI (if m = true then 1 else 0))] [] (hw h V) (RJ (fun r h1 => h1 = hw h V ∧ r = (img ch q m : Nat))) := by
    intro fuel
    induction fuel with
    | zero => intros; omega
    | succ fuel ih10 =>
      intro i hi hfuel
      have l1 := imgL_ge q m (ch.take i) (fun x hx => hcb x (List.mem_of_mem_take hx)) 17 (by omega)
      have l2 := imgL_ge (q + 3) m (ch.take i) (fun x hx => hcb x (List.mem_of_mem_take hx)) 17 (by omega)
      have l3 := (imgL_le q m (ch.take i) 17).1
      have l4 := (imgL_le (q + 3) m (ch.take i) 17).1
      refine g_iload rfl rfl ?_
      refine g_aload_n rfl rfl ?_
      refine g_getI rfl (cs.kd 27 (by omega) rfl) ?_
      refine g_top (v2 := aI ((n : Int))) (congrArg aI (by show V (c + 27) 13 = (n : Int); exact hn)) ?_
      refine g_icmp_ge rfl (fun c16 => ?_) (fun c16 => ?_)
      · skip
        have ei : i = n := by omega
        have ech : ch.take i = ch := List.take_of_length_le (by omega)
        rw [ech]
        refine g_lconst0 rfl ?_
        refine g_lstore (l1 := [(5, aJ 0), (4, aI (imgL ch (q + 3) m)), (3, aI (imgL ch q m)), (0, aO (some (c + 27))), (1, aI ((q : Int))), (2, aI (if m = true then 1 else 0))]) rfl rfl ?_
        refine g_iconst rfl ?_
        refine g_istore (l1 := [(7, aI 0), (5, aJ 0), (4, aI (imgL ch (q + 3) m)), (3, aI (imgL ch q m)), (0, aO (some (c + 27))), (1, aI ((q : Int))), (2, aI (if m = true then 1 else 0))]) rfl rfl ?_
        exact l76 _ 0 (by omega) (Nat.lt_succ_self _)
      · skip
        refine g_iload rfl rfl ?_
        refine g_bipush rfl ?_
        refine g_icmp_ge_f rfl (by omega) ?_
        refine g_iload_n rfl rfl ?_
        refine g_aload_n rfl rfl ?_
        refine g_getR rfl (cs.kd 27 (by omega) rfl) (cs.rf 34 (by omega) rfl) ?_
        refine g_iload rfl rfl ?_
        refine g_iald (i := i) rfl (cs.ar 30 (by omega) rfl) (by omega) (by omega) ?_
        refine g_top (v2 := aI (((ch[i]'(by omega) : Nat) : Int))) (congrArg aI (by show V (c + 30) i = _; exact hch i (by omega))) ?_
        refine g_iload_n rfl rfl ?_
        refine g_iload_n rfl rfl ?_
        refine g_callSI [aI (((ch[i]'(by omega) : Nat) : Int)), aI ((q : Int)), aI (if m = true then 1 else 0)] [aI ((ch.take (i)).foldl (fun a c => min a (imgX c (q) m)) 17)] rfl rfl rfl rfl (Nat.le_of_ble_eq_true rfl) (x_imageX (by omega) ((ch[i]'(by omega))) (q) m (hcb _ (List.getElem_mem _)) _) ?_
        rintro _ _ ⟨rfl, rfl⟩
        have hb3 := imgX_b ((ch[i]'(by omega))) (q) m (hcb _ (List.getElem_mem _))
        refine g_callSI [aI ((ch.take (i)).foldl (fun a c => min a (imgX c (q) m)) 17), aI (imgX ((ch[i]'(by omega))) (q) m)] [] rfl rfl rfl rfl (Nat.le_of_ble_eq_true rfl) (c_imin (by omega) ((ch.take (i)).foldl (fun a c => min a (imgX c (q) m)) 17) (imgX ((ch[i]'(by omega))) (q) m) _) ?_
        rintro _ _ ⟨rfl, rfl⟩
        refine g_top (v2 := aI ((ch.take (i + 1)).foldl (fun a c => min a (imgX c (q) m)) 17)) (congrArg aI (by exact (foldl_take (fun a c => min a (imgX c q m)) 17 ch i (by omega)).symm)) ?_
        refine g_istore_n (l1 := [(3, aI ((ch.take (i + 1)).foldl (fun a c => min a (imgX c (q) m)) 17)), (5, aI ((i : Int))), (4, aI ((ch.take (i)).foldl (fun a c => min a (imgX c (q + 3) m)) 17)), (0, aO (some (c + 27))), (1, aI ((q : Int))), (2, aI (if m = true then 1 else 0))]) rfl rfl ?_
        refine g_iload rfl rfl ?_
        refine g_aload_n rfl rfl ?_
        refine g_getR rfl (cs.kd 27 (by omega) rfl) (cs.rf 34 (by omega) rfl) ?_
        refine g_iload rfl rfl ?_
        refine g_iald (i := i) rfl (cs.ar 30 (by omega) rfl) (by omega) (by omega) ?_
        refine g_top (v2 := aI (((ch[i]'(by omega) : Nat) : Int))) (congrArg aI (by show V (c + 30) i = _; exact hch i (by omega))) ?_
        refine g_iload_n rfl rfl ?_
        refine g_iconst rfl ?_
        refine g_iadd rfl (by omega) (by omega) ?_
        refine g_iload_n rfl rfl ?_
        refine g_callSI [aI (((ch[i]'(by omega) : Nat) : Int)), aI (((q : Int)) + 3), aI (if m = true then 1 else 0)] [aI ((ch.take (i)).foldl (fun a c => min a (imgX c (q + 3) m)) 17)] rfl rfl rfl rfl (Nat.le_of_ble_eq_true rfl) (x_imageX (by omega) ((ch[i]'(by omega))) (q + 3) m (hcb _ (List.getElem_mem _)) _) ?_
        rintro _ _ ⟨rfl, rfl⟩
        have hb4 := imgX_b ((ch[i]'(by omega))) (q + 3) m (hcb _ (List.getElem_mem _))
        refine g_callSI [aI ((ch.take (i)).foldl (fun a c => min a (imgX c (q + 3) m)) 17), aI (imgX ((ch[i]'(by omega))) (q + 3) m)] [] rfl rfl rfl rfl (Nat.le_of_ble_eq_true rfl) (c_imin (by omega) ((ch.take (i)).foldl (fun a c => min a (imgX c (q + 3) m)) 17) (imgX ((ch[i]'(by omega))) (q + 3) m) _) ?_
        rintro _ _ ⟨rfl, rfl⟩
        refine g_top (v2 := aI ((ch.take (i + 1)).foldl (fun a c => min a (imgX c (q + 3) m)) 17)) (congrArg aI (by exact (foldl_take (fun a c => min a (imgX c (q + 3) m)) 17 ch i (by omega)).symm)) ?_
        refine g_istore (l1 := [(4, aI ((ch.take (i + 1)).foldl (fun a c => min a (imgX c (q + 3) m)) 17)), (3, aI ((ch.take (i + 1)).foldl (fun a c => min a (imgX c (q) m)) 17)), (5, aI ((i : Int))), (0, aO (some (c + 27))), (1, aI ((q : Int))), (2, aI (if m = true then 1 else 0))]) rfl rfl ?_
        refine g_iinc (l1 := [(5, aI ((i : Int) + 1)), (4, aI ((ch.take (i + 1)).foldl (fun a c => min a (imgX c (q + 3) m)) 17)), (3, aI ((ch.take (i + 1)).foldl (fun a c => min a (imgX c (q) m)) 17)), (0, aO (some (c + 27))), (1, aI ((q : Int))), (2, aI (if m = true then 1 else 0))]) rfl rfl (by omega) (by omega) rfl ?_
        refine g_goto rfl ?_
        exact ih10 (i + 1) (by omega) (by omega)
  refine g_bipush rfl ?_
  refine g_istore_n (l1 := [(3, aI 17), (0, aO (some (c + 27))), (1, aI ((q : Int))), (2, aI (if m = true then 1 else 0))]) rfl rfl ?_
  refine g_bipush rfl ?_
  refine g_istore (l1 := [(4, aI 17), (3, aI 17), (0, aO (some (c + 27))), (1, aI ((q : Int))), (2, aI (if m = true then 1 else 0))]) rfl rfl ?_
  refine g_iconst rfl ?_
  refine g_istore (l1 := [(5, aI 0), (4, aI 17), (3, aI 17), (0, aO (some (c + 27))), (1, aI ((q : Int))), (2, aI (if m = true then 1 else 0))]) rfl rfl ?_
  exact l10 _ 0 (by omega) (Nat.lt_succ_self _)
