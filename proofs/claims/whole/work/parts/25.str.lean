/-! String.length and String.charAt of the text constants, walked over the machine itself -/
theorem dJ0_length_8abf5_0 : decode cJ0_length_8abf5 0 = .ok (.aload_n 0, 1) := by decide +kernel
theorem dJ0_length_8abf5_1 : decode cJ0_length_8abf5 1 = .ok (.getfield 9, 3) := by decide +kernel
theorem dJ0_length_8abf5_4 : decode cJ0_length_8abf5 4 = .ok (.arraylength, 1) := by decide +kernel
theorem dJ0_length_8abf5_5 : decode cJ0_length_8abf5 5 = .ok (.aload_n 0, 1) := by decide +kernel
theorem dJ0_length_8abf5_6 : decode cJ0_length_8abf5 6 = .ok (.invokevirtual 335, 3) := by decide +kernel
theorem dJ0_length_8abf5_9 : decode cJ0_length_8abf5 9 = .ok (.ishr, 1) := by decide +kernel
theorem dJ0_length_8abf5_10 : decode cJ0_length_8abf5 10 = .ok (.ireturn, 1) := by decide +kernel
theorem dJ0_charAt_5068e_0 : decode cJ0_charAt_5068e 0 = .ok (.aload_n 0, 1) := by decide +kernel
theorem dJ0_charAt_5068e_1 : decode cJ0_charAt_5068e 1 = .ok (.invokevirtual 492, 3) := by decide +kernel
theorem dJ0_charAt_5068e_4 : decode cJ0_charAt_5068e 4 = .ok (.ifCond .eq 12, 3) := by decide +kernel
theorem dJ0_charAt_5068e_7 : decode cJ0_charAt_5068e 7 = .ok (.aload_n 0, 1) := by decide +kernel
theorem dJ0_charAt_5068e_8 : decode cJ0_charAt_5068e 8 = .ok (.getfield 9, 3) := by decide +kernel
theorem dJ0_charAt_5068e_11 : decode cJ0_charAt_5068e 11 = .ok (.iload_n 1, 1) := by decide +kernel
theorem dJ0_charAt_5068e_12 : decode cJ0_charAt_5068e 12 = .ok (.invokestatic 495, 3) := by decide +kernel
theorem dJ0_charAt_5068e_15 : decode cJ0_charAt_5068e 15 = .ok (.ireturn, 1) := by decide +kernel
theorem dJ0_charAt_5068e_16 : decode cJ0_charAt_5068e 16 = .ok (.aload_n 0, 1) := by decide +kernel
theorem dJ0_charAt_5068e_17 : decode cJ0_charAt_5068e 17 = .ok (.getfield 9, 3) := by decide +kernel
theorem dJ0_charAt_5068e_20 : decode cJ0_charAt_5068e 20 = .ok (.iload_n 1, 1) := by decide +kernel
theorem dJ0_charAt_5068e_21 : decode cJ0_charAt_5068e 21 = .ok (.invokestatic 498, 3) := by decide +kernel
theorem dJ0_charAt_5068e_24 : decode cJ0_charAt_5068e 24 = .ok (.ireturn, 1) := by decide +kernel
theorem dJ0_coder_7d493_0 : decode cJ0_coder_7d493 0 = .ok (.getstatic 38, 3) := by decide +kernel
theorem dJ0_coder_7d493_3 : decode cJ0_coder_7d493 3 = .ok (.ifCond .eq 10, 3) := by decide +kernel
theorem dJ0_coder_7d493_6 : decode cJ0_coder_7d493 6 = .ok (.aload_n 0, 1) := by decide +kernel
theorem dJ0_coder_7d493_7 : decode cJ0_coder_7d493 7 = .ok (.getfield 15, 3) := by decide +kernel
theorem dJ0_coder_7d493_10 : decode cJ0_coder_7d493 10 = .ok (.goto 4, 3) := by decide +kernel
theorem dJ0_coder_7d493_13 : decode cJ0_coder_7d493 13 = .ok (.iconst 1, 1) := by decide +kernel
theorem dJ0_coder_7d493_14 : decode cJ0_coder_7d493 14 = .ok (.ireturn, 1) := by decide +kernel
theorem dJ0_isLatin1_aae02_0 : decode cJ0_isLatin1_aae02 0 = .ok (.getstatic 38, 3) := by decide +kernel
theorem dJ0_isLatin1_aae02_3 : decode cJ0_isLatin1_aae02 3 = .ok (.ifCond .eq 14, 3) := by decide +kernel
theorem dJ0_isLatin1_aae02_6 : decode cJ0_isLatin1_aae02 6 = .ok (.aload_n 0, 1) := by decide +kernel
theorem dJ0_isLatin1_aae02_7 : decode cJ0_isLatin1_aae02 7 = .ok (.getfield 15, 3) := by decide +kernel
theorem dJ0_isLatin1_aae02_10 : decode cJ0_isLatin1_aae02 10 = .ok (.ifCond .ne 7, 3) := by decide +kernel
theorem dJ0_isLatin1_aae02_13 : decode cJ0_isLatin1_aae02 13 = .ok (.iconst 1, 1) := by decide +kernel
theorem dJ0_isLatin1_aae02_14 : decode cJ0_isLatin1_aae02 14 = .ok (.goto 4, 3) := by decide +kernel
theorem dJ0_isLatin1_aae02_17 : decode cJ0_isLatin1_aae02 17 = .ok (.iconst 0, 1) := by decide +kernel
theorem dJ0_isLatin1_aae02_18 : decode cJ0_isLatin1_aae02 18 = .ok (.ireturn, 1) := by decide +kernel
theorem dJ0_checkIndex_df160_0 : decode cJ0_checkIndex_df160 0 = .ok (.iload_n 0, 1) := by decide +kernel
theorem dJ0_checkIndex_df160_1 : decode cJ0_checkIndex_df160 1 = .ok (.iload_n 1, 1) := by decide +kernel
theorem dJ0_checkIndex_df160_2 : decode cJ0_checkIndex_df160 2 = .ok (.getstatic 1053, 3) := by decide +kernel
theorem dJ0_checkIndex_df160_5 : decode cJ0_checkIndex_df160 5 = .ok (.invokestatic 1059, 3) := by decide +kernel
theorem dJ0_checkIndex_df160_8 : decode cJ0_checkIndex_df160 8 = .ok (.pop, 1) := by decide +kernel
theorem dJ0_checkIndex_df160_9 : decode cJ0_checkIndex_df160 9 = .ok (.return_, 1) := by decide +kernel
theorem dJ1_charAt_3b067_0 : decode cJ1_charAt_3b067 0 = .ok (.iload_n 1, 1) := by decide +kernel
theorem dJ1_charAt_3b067_1 : decode cJ1_charAt_3b067 1 = .ok (.aload_n 0, 1) := by decide +kernel
theorem dJ1_charAt_3b067_2 : decode cJ1_charAt_3b067 2 = .ok (.arraylength, 1) := by decide +kernel
theorem dJ1_charAt_3b067_3 : decode cJ1_charAt_3b067 3 = .ok (.invokestatic 9, 3) := by decide +kernel
theorem dJ1_charAt_3b067_6 : decode cJ1_charAt_3b067 6 = .ok (.aload_n 0, 1) := by decide +kernel
theorem dJ1_charAt_3b067_7 : decode cJ1_charAt_3b067 7 = .ok (.iload_n 1, 1) := by decide +kernel
theorem dJ1_charAt_3b067_8 : decode cJ1_charAt_3b067 8 = .ok (.baload, 1) := by decide +kernel
theorem dJ1_charAt_3b067_9 : decode cJ1_charAt_3b067 9 = .ok (.sipush 255, 3) := by decide +kernel
theorem dJ1_charAt_3b067_12 : decode cJ1_charAt_3b067 12 = .ok (.iand, 1) := by decide +kernel
theorem dJ1_charAt_3b067_13 : decode cJ1_charAt_3b067 13 = .ok (.i2c, 1) := by decide +kernel
theorem dJ1_charAt_3b067_14 : decode cJ1_charAt_3b067 14 = .ok (.ireturn, 1) := by decide +kernel
theorem dJ3_checkIndex_8e157_0 : decode cJ3_checkIndex_8e157 0 = .ok (.iload_n 0, 1) := by decide +kernel
theorem dJ3_checkIndex_8e157_1 : decode cJ3_checkIndex_8e157 1 = .ok (.ifCond .lt 8, 3) := by decide +kernel
theorem dJ3_checkIndex_8e157_4 : decode cJ3_checkIndex_8e157 4 = .ok (.iload_n 0, 1) := by decide +kernel
theorem dJ3_checkIndex_8e157_5 : decode cJ3_checkIndex_8e157 5 = .ok (.iload_n 1, 1) := by decide +kernel
theorem dJ3_checkIndex_8e157_6 : decode cJ3_checkIndex_8e157 6 = .ok (.if_icmp .lt 10, 3) := by decide +kernel
theorem dJ3_checkIndex_8e157_9 : decode cJ3_checkIndex_8e157 9 = .ok (.aload_n 2, 1) := by decide +kernel
theorem dJ3_checkIndex_8e157_10 : decode cJ3_checkIndex_8e157 10 = .ok (.iload_n 0, 1) := by decide +kernel
theorem dJ3_checkIndex_8e157_11 : decode cJ3_checkIndex_8e157 11 = .ok (.iload_n 1, 1) := by decide +kernel
theorem dJ3_checkIndex_8e157_12 : decode cJ3_checkIndex_8e157 12 = .ok (.invokestatic 95, 3) := by decide +kernel
theorem dJ3_checkIndex_8e157_15 : decode cJ3_checkIndex_8e157 15 = .ok (.athrow, 1) := by decide +kernel
theorem dJ3_checkIndex_8e157_16 : decode cJ3_checkIndex_8e157 16 = .ok (.iload_n 0, 1) := by decide +kernel
theorem dJ3_checkIndex_8e157_17 : decode cJ3_checkIndex_8e157 17 = .ok (.ireturn, 1) := by decide +kernel
theorem sw_38 : Cond.fieldLink "java/lang/String" 38 "java/lang/String" "COMPACT_STRINGS" "Z" ∈ WALL := wall_in (wAt_in (q := (1, 140)) (by decide +kernel)) rfl
theorem sw_1053 : Cond.fieldLink "java/lang/String" 1053 "jdk/internal/util/Preconditions" "SIOOBE_FORMATTER" "Ljava/util/function/BiFunction;" ∈ WALL := wall_in (wAt_in (q := (1, 156)) (by decide +kernel)) rfl
theorem sw_9 : Cond.fieldLink "java/lang/String" 9 "java/lang/String" "value" "[B" ∈ WALL := wall_in (wAt_in (q := (9, 5)) (by decide +kernel)) rfl
theorem sw_15 : Cond.fieldLink "java/lang/String" 15 "java/lang/String" "coder" "B" ∈ WALL := wall_in (wAt_in (q := (9, 6)) (by decide +kernel)) rfl
theorem sw_335 : Cond.methodLink "java/lang/String" 335 yJ0_coder_7d493 ∈ WALL := wall_in (wAt_in (q := (1, 136)) (by decide +kernel)) rfl
theorem sw_492 : Cond.methodLink "java/lang/String" 492 yJ0_isLatin1_aae02 ∈ WALL := wall_in (wAt_in (q := (1, 146)) (by decide +kernel)) rfl
theorem sw_495 : Cond.methodLink "java/lang/String" 495 yJ1_charAt_3b067 ∈ WALL := wall_in (wAt_in (q := (1, 150)) (by decide +kernel)) rfl
theorem sw_1059 : Cond.methodLink "java/lang/String" 1059 yJ3_checkIndex_8e157 ∈ WALL := wall_in (wAt_in (q := (1, 158)) (by decide +kernel)) rfl
theorem sw_s9 : Cond.methodLink "java/lang/StringLatin1" 9 yJ0_checkIndex_df160 ∈ WALL := wall_in (wAt_in (q := (1, 153)) (by decide +kernel)) rfl
theorem sw_i1 : Cond.instanceMethod yJ0_coder_7d493 ∈ WALL := wall_in (wAt_in (q := (1, 137)) (by decide +kernel)) rfl
theorem sw_i2 : Cond.selects "java/lang/String" yJ0_coder_7d493 yJ0_coder_7d493 ∈ WALL := wall_in (wAt_in (q := (1, 138)) (by decide +kernel)) rfl
theorem sw_i3 : Cond.code yJ0_coder_7d493 cJ0_coder_7d493 1 (some .byte) ∈ WALL := wall_in (wl_in 1 _ (List.mem_of_getElem? (i := 139) rfl)) rfl
theorem sw_l1 : Cond.instanceMethod yJ0_isLatin1_aae02 ∈ WALL := wall_in (wAt_in (q := (1, 147)) (by decide +kernel)) rfl
theorem sw_l2 : Cond.selects "java/lang/String" yJ0_isLatin1_aae02 yJ0_isLatin1_aae02 ∈ WALL := wall_in (wAt_in (q := (1, 148)) (by decide +kernel)) rfl
theorem sw_l3 : Cond.code yJ0_isLatin1_aae02 cJ0_isLatin1_aae02 1 (some .boolean) ∈ WALL := wall_in (wl_in 1 _ (List.mem_of_getElem? (i := 149) rfl)) rfl
theorem sw_c1 : Cond.static yJ1_charAt_3b067 ∈ WALL := wall_in (wAt_in (q := (1, 151)) (by decide +kernel)) rfl
theorem sw_c3 : Cond.code yJ1_charAt_3b067 cJ1_charAt_3b067 2 (some .char) ∈ WALL := wall_in (wl_in 1 _ (List.mem_of_getElem? (i := 152) rfl)) rfl
theorem sw_x1 : Cond.static yJ0_checkIndex_df160 ∈ WALL := wall_in (wAt_in (q := (1, 154)) (by decide +kernel)) rfl
theorem sw_x3 : Cond.code yJ0_checkIndex_df160 cJ0_checkIndex_df160 2 none ∈ WALL := wall_in (wl_in 1 _ (List.mem_of_getElem? (i := 155) rfl)) rfl
theorem sw_p1 : Cond.static yJ3_checkIndex_8e157 ∈ WALL := wall_in (wAt_in (q := (1, 159)) (by decide +kernel)) rfl
theorem sw_p3 : Cond.code yJ3_checkIndex_8e157 cJ3_checkIndex_8e157 3 (some .int) ∈ WALL := wall_in (wl_in 1 _ (List.mem_of_getElem? (i := 160) rfl)) rfl
theorem sw_n0 : Cond.initialized "java/lang/String" ∈ WALL := (mfacts (a := 900) (by omega) (Or.inr (Or.inl rfl))).2.1
theorem sw_n1 : Cond.initialized "java/lang/StringLatin1" ∈ WALL := wall_in (wAt_in (q := (0, 18)) (by decide +kernel)) rfl
theorem sw_n3 : Cond.initialized "jdk/internal/util/Preconditions" ∈ WALL := wall_in (wAt_in (q := (0, 19)) (by decide +kernel)) rfl
def strP (base : Nat) (adK adV : Nat → Nat) (av0 : List Value) : Array Value → State → Prop := fun av U => av = av0.toArray ∧ SPc base adK adV U U.heap
theorem strP_blind {base : Nat} {adK adV : Nat → Nat} {av0 : List Value} : FrameBlind (strP base adK adV av0) := fun _ U _ _ q => ⟨q.1, SPc.moved (u := U) (Vm.Alike.refl U.vm) q.2⟩
def strR (d : Nat) : Room := { frames := d, cells := 0, slots := 0, locals := 80 * d }
theorem c_coder (l : Launch) (base : Nat) (adK adV : Nat → Nat) {i : Nat} (hi : i < 12) : Met l yJ0_coder_7d493 (.code yJ0_coder_7d493 cJ0_coder_7d493 1 (some .byte) :: WALL) (strR 0) (strP base adK adV [.ref (adK i)]) (QcRead 0) 0 0 (fun _ => False) := by
  refine va_MetF (cc := cJ0_coder_7d493) (maxL := 1) (ret := some .byte) (by decide +kernel) rfl ?_
  intro p e s m args below meth c s1 B hml hv
  obtain ⟨rfl, hSP⟩ := hv
  have hx := B.exec
  have hb := B.bytes
  have hts0 := atoms_spec (ws := .code yJ0_coder_7d493 cJ0_coder_7d493 1 (some .byte) :: WALL) B.pre
  have hts : ∀ w ∈ WALL, w.before _ s = true := fun w hw => hts0 w (List.mem_cons_of_mem _ hw)
  have hown : s.vm.findClass "java/lang/String" = some m.cls := findClass_of_methodNamed B.named
  have hl := lv_entry ([.ref (adK i)]) (n := 1) (Nat.le_of_ble_eq_true rfl)
  rw [lg_entry_eq]
  refine va_gets hx hb hSP.2.1 va_S.rf hown (hts _ sw_38) (fun _ h => h) dJ0_coder_7d493_0 ?_
  refine lv_if_eq (tgt := 13) hx hb dJ0_coder_7d493_3 (by decide) (fun e => absurd e (by decide)) (fun _ => ?_)
  refine lv_aload_n hx hb dJ0_coder_7d493_6 rfl (lv_at hl 0 rfl) ?_
  refine vk_getf hx hb (hSP.1.1 i hi).2.1 va_S.rf hown (hts _ sw_15) (fun _ h => h) dJ0_coder_7d493_7 ?_
  refine lv_goto (tgt := 14) hx hb dJ0_coder_7d493_10 (by decide) ?_
  exact W.zret hx hb B.returns rfl (fun t ht _ => ⟨rfl, ht⟩) (fun q h => by cases h) dJ0_coder_7d493_14 B.notSynchronized
theorem c_isLatin1 (l : Launch) (base : Nat) (adK adV : Nat → Nat) {i : Nat} (hi : i < 12) : Met l yJ0_isLatin1_aae02 (.code yJ0_isLatin1_aae02 cJ0_isLatin1_aae02 1 (some .boolean) :: WALL) (strR 0) (strP base adK adV [.ref (adK i)]) (QcRead 1) 0 0 (fun _ => False) := by
  refine va_MetF (cc := cJ0_isLatin1_aae02) (maxL := 1) (ret := some .boolean) (by decide +kernel) rfl ?_
  intro p e s m args below meth c s1 B hml hv
  obtain ⟨rfl, hSP⟩ := hv
  have hx := B.exec
  have hb := B.bytes
  have hts0 := atoms_spec (ws := .code yJ0_isLatin1_aae02 cJ0_isLatin1_aae02 1 (some .boolean) :: WALL) B.pre
  have hts : ∀ w ∈ WALL, w.before _ s = true := fun w hw => hts0 w (List.mem_cons_of_mem _ hw)
  have hown : s.vm.findClass "java/lang/String" = some m.cls := findClass_of_methodNamed B.named
  have hl := lv_entry ([.ref (adK i)]) (n := 1) (Nat.le_of_ble_eq_true rfl)
  rw [lg_entry_eq]
  refine va_gets hx hb hSP.2.1 va_S.rf hown (hts _ sw_38) (fun _ h => h) dJ0_isLatin1_aae02_0 ?_
  refine lv_if_eq (tgt := 17) hx hb dJ0_isLatin1_aae02_3 (by decide) (fun e => absurd e (by decide)) (fun _ => ?_)
  refine lv_aload_n hx hb dJ0_isLatin1_aae02_6 rfl (lv_at hl 0 rfl) ?_
  refine vk_getf hx hb (hSP.1.1 i hi).2.1 va_S.rf hown (hts _ sw_15) (fun _ h => h) dJ0_isLatin1_aae02_7 ?_
  refine lv_if_ne (tgt := 17) hx hb dJ0_isLatin1_aae02_10 (by decide) (fun e => absurd rfl e) (fun _ => ?_)
  refine lv_iconst (v := 1) hx hb dJ0_isLatin1_aae02_13 (by decide) ?_
  refine lv_goto (tgt := 18) hx hb dJ0_isLatin1_aae02_14 (by decide) ?_
  exact W.zret hx hb B.returns rfl (fun t ht _ => ⟨rfl, ht⟩) (fun q h => by cases h) dJ0_isLatin1_aae02_18 B.notSynchronized
theorem c_preIndex (l : Launch) {x n : Int} (h0 : 0 ≤ x) (h1 : x < n) (hn : r32 n) {r : Value} (hcat : r.category = 1) : Met l yJ3_checkIndex_8e157 (.code yJ3_checkIndex_8e157 cJ3_checkIndex_8e157 3 (some .int) :: WALL) (strR 0) (fun av _ => av = #[.int (Int32.ofInt x), .int (Int32.ofInt n), r]) (QcRead (Int32.ofInt x)) 0 0 (fun _ => False) := by
  refine va_MetF (cc := cJ3_checkIndex_8e157) (maxL := 3) (ret := some .int) (by decide +kernel) rfl ?_
  intro p e s m args below meth c s1 B hml hv
  subst hv
  have hx := B.exec
  have hb := B.bytes
  have hxr : r32 x := by unfold r32 at hn ⊢; omega
  have hl := lv_entry ([.int (Int32.ofInt x), .int (Int32.ofInt n), r]) (n := 3) (by cases r <;> first | (cases hcat; done) | exact Nat.le_of_ble_eq_true rfl)
  have e9 : (#[.int (Int32.ofInt x), .int (Int32.ofInt n), r] : Array Value) = ([.int (Int32.ofInt x), .int (Int32.ofInt n), r] : List Value).toArray := rfl
  rw [e9]
  rw [lg_entry_eq]
  refine lv_iload_n hx hb dJ3_checkIndex_8e157_0 rfl (lv_at hl 0 rfl) ?_
  refine lv_if_lt (tgt := 9) hx hb dJ3_checkIndex_8e157_1 (by decide) (fun e => absurd e (i32_nonneg h0 hxr)) (fun _ => ?_)
  refine lv_iload_n hx hb dJ3_checkIndex_8e157_4 rfl (lv_at hl 0 rfl) ?_
  refine lv_iload_n hx hb dJ3_checkIndex_8e157_5 rfl (lv_at hl 1 rfl) ?_
  refine lv_icmp_lt (tgt := 16) hx hb dJ3_checkIndex_8e157_6 (by decide) (fun _ => ?_) (fun e => absurd ((i32_lt hxr hn).mpr h1) e)
  refine lv_iload_n hx hb dJ3_checkIndex_8e157_16 rfl (lv_at hl 0 rfl) ?_
  exact W.zret hx hb B.returns rfl (fun t ht _ => ⟨rfl, ht⟩) (fun q h => by cases h) dJ3_checkIndex_8e157_17 B.notSynchronized
theorem cb_str {p : Program} {R : Room} {s : State} {m : MethodId} {args : Array Value} {own : String} {idx : Nat} {y : MethodName} {bytes : ByteArray} {maxL : Nat} {ret : Option FieldType} {d n : Nat} (hts : ∀ w ∈ WALL, w.before args s = true) (hc : Cond.code y bytes maxL ret ∈ WALL) (hini : Cond.initialized y.cls ∈ WALL) (hl : Cond.methodLink own idx y ∈ WALL) (hd : y.cls ≠ "java/lang/invoke/MethodHandle" ∧ y.cls ≠ "java/lang/invoke/VarHandle" ∧ (parseMethodDescriptor y.desc).map (fun d => d.parameters.length) = some n) (hR : d + 1 ≤ R.frames ∧ 8 + (maxL + 11) + 80 * d ≤ R.locals) :
    CallB R s args own idx y bytes maxL ret (.code y bytes maxL ret :: WALL) (strR d) 0 0 n :=
  callB_of n hts (goodIn_wall (fun w hw => by rcases List.mem_cons.mp hw with rfl | hw; exact hc; exact hw)) rfl rfl rfl (hts _ hini) (hts _ hl) hd hR
theorem c_strIndex (l : Launch) (base : Nat) (adK adV : Nat → Nat) {x n : Int} (h0 : 0 ≤ x) (h1 : x < n) (hn : r32 n) : Met l yJ0_checkIndex_df160 (.code yJ0_checkIndex_df160 cJ0_checkIndex_df160 2 none :: WALL) (strR 1) (strP base adK adV [.int (Int32.ofInt x), .int (Int32.ofInt n)]) (fun _ st o t => o = .returned none ∧ t.heap = st.heap) 0 0 (fun _ => False) := by
  refine va_MetF (cc := cJ0_checkIndex_df160) (maxL := 2) (ret := none) (by decide +kernel) rfl ?_
  intro p e s m args below meth c s1 B hml hv
  obtain ⟨rfl, hSP⟩ := hv
  have hx := B.exec
  have hb := B.bytes
  have hts0 := atoms_spec (ws := .code yJ0_checkIndex_df160 cJ0_checkIndex_df160 2 none :: WALL) B.pre
  have hts : ∀ w ∈ WALL, w.before _ s = true := fun w hw => hts0 w (List.mem_cons_of_mem _ hw)
  have hown : s.vm.findClass "java/lang/String" = some m.cls := findClass_of_methodNamed B.named
  have hl := lv_entry ([.int (Int32.ofInt x), .int (Int32.ofInt n)]) (n := 2) (Nat.le_of_ble_eq_true rfl)
  rw [lg_entry_eq]
  refine lv_iload_n hx hb dJ0_checkIndex_df160_0 rfl (lv_at hl 0 rfl) ?_
  refine lv_iload_n hx hb dJ0_checkIndex_df160_1 rfl (lv_at hl 1 rfl) ?_
  have go : ∀ r : Value, r.category = 1 → va_Z "jdk/internal/util/Preconditions" "SIOOBE_FORMATTER" "Ljava/util/function/BiFunction;" r (aA base) s s.heap → W p l e (headSpec (.code yJ0_checkIndex_df160 cJ0_checkIndex_df160 2 none :: WALL) (strR 1)).room s m ([.int (Int32.ofInt x), .int (Int32.ofInt n)] : List Value).toArray below meth c s.heap [] 0 0 (MQ below (fun _ st o t => o = .returned none ∧ t.heap = st.heap) ([.int (Int32.ofInt x), .int (Int32.ofInt n)] : List Value).toArray s 0 0 (fun _ => False)) (F0 m 2 (lg_sl ([.int (Int32.ofInt x), .int (Int32.ofInt n)]) ++ List.replicate (2 - (lg_sl ([.int (Int32.ofInt x), .int (Int32.ofInt n)])).length) Slot.unset).toArray [.int (Int32.ofInt n), .int (Int32.ofInt x)]) := by
    intro r hr hZ
    refine va_gets hx hb hZ va_S.rf hown (hts _ sw_1053) (fun _ h => h) dJ0_checkIndex_df160_2 ?_
    refine W.callR (W.runS (As := [.int (Int32.ofInt x), .int (Int32.ofInt n), r]) (rest := []) (Ts := WALL) (own := "java/lang/String") ⟨hx, hb, hml, hown, hts⟩ (c_preIndex l h0 h1 hn hr) ⟨cb_str (p := p) (m := m) (d := 0) (n := 3) hts sw_p3 sw_n3 sw_1059 (by decide +kernel) ⟨Nat.le_refl _, by show 8 + (3 + 11) + 80 * 0 ≤ 80 * 1; omega⟩, hts _ sw_p1⟩ preEq rfl rfl hl.1 rfl (lv_room (by decide)) dJ0_checkIndex_df160_5 ⟨Nat.le_refl _, Nat.le_refl _⟩) ?_
    refine lv_pop hx hb dJ0_checkIndex_df160_8 rfl ?_
    exact W.vret hx hb B.returns (fun t ht _ => ⟨rfl, ht⟩) (fun q h => by cases h) dJ0_checkIndex_df160_9 B.notSynchronized
  rcases hSP.2.2.1 with hZ | ⟨t, hZ⟩
  · exact go _ rfl hZ
  · exact go _ rfl hZ
theorem c_lat1At (l : Launch) (base : Nat) (adK adV : Nat → Nat) {i : Nat} (hi : i < 12) {x : Int} (h0 : 0 ≤ x) (h1 : x < ((txtL.getD i 0 : Nat) : Int)) (hn : r32 ((txtL.getD i 0 : Nat) : Int)) {v : Int32} (hv : ((((txtB.getD i []).getD x.toNat 0) &&& 255).toUInt32 % 65536).toInt32 = v) (hv2 : narrow .char (.int v) = .int v) : Met l yJ1_charAt_3b067 (.code yJ1_charAt_3b067 cJ1_charAt_3b067 2 (some .char) :: WALL) (strR 2) (strP base adK adV [.ref (adV i), .int (Int32.ofInt x)]) (QcRead v) 0 0 (fun _ => False) := by
  refine va_MetF (cc := cJ1_charAt_3b067) (maxL := 2) (ret := some .char) (by decide +kernel) rfl ?_
  intro p e s m args below meth c s1 B hml hvv
  obtain ⟨rfl, hSP⟩ := hvv
  have hx := B.exec
  have hb := B.bytes
  have hts0 := atoms_spec (ws := .code yJ1_charAt_3b067 cJ1_charAt_3b067 2 (some .char) :: WALL) B.pre
  have hts : ∀ w ∈ WALL, w.before _ s = true := fun w hw => hts0 w (List.mem_cons_of_mem _ hw)
  have hown : s.vm.findClass "java/lang/StringLatin1" = some m.cls := findClass_of_methodNamed B.named
  have hl := lv_entry ([.ref (adV i), .int (Int32.ofInt x)]) (n := 2) (Nat.le_of_ble_eq_true rfl)
  have hxr : r32 x := by unfold r32 at hn ⊢; omega
  rw [lg_entry_eq]
  refine lv_iload_n hx hb dJ1_charAt_3b067_0 rfl (lv_at hl 1 rfl) ?_
  refine lv_aload_n hx hb dJ1_charAt_3b067_1 rfl (lv_at hl 0 rfl) ?_
  refine va_tlen hx hb (hSP.1.1 i hi).2.2.2 va_S.rf (v := Int32.ofInt ((txtL.getD i 0 : Nat) : Int)) (Int32.ofInt_eq_ofNat).symm dJ1_charAt_3b067_2 ?_
  have hcb := cb_str (p := p) (m := m) (R := (headSpec (.code yJ1_charAt_3b067 cJ1_charAt_3b067 2 (some .char) :: WALL) (strR 2)).room) (d := 1) (n := 2) hts sw_x3 sw_n0 sw_s9 (by decide +kernel) ⟨Nat.le_refl _, by show 8 + (2 + 11) + 80 * 1 ≤ 80 * 2; omega⟩
  have hrun := W.runS (p := p) (l := l) (e := e) (below := below) (meth := meth) (H := s.heap) (locs := []) (cells := 0) (slots := 0) (g := F0 m 3 ((lg_sl ([.ref (adV i), .int (Int32.ofInt x)]) ++ List.replicate (2 - (lg_sl ([.ref (adV i), .int (Int32.ofInt x)])).length) Slot.unset).toArray) [.int (Int32.ofInt ((txtL.getD i 0 : Nat) : Int)), .int (Int32.ofInt x)]) (As := [.int (Int32.ofInt x), .int (Int32.ofInt ((txtL.getD i 0 : Nat) : Int))]) (rest := []) (Ts := WALL) (own := "java/lang/StringLatin1") ⟨hx, hb, hml, hown, hts⟩ (c_strIndex l base adK adV h0 h1 hn) ⟨hcb, hts _ sw_x1⟩ ⟨strP_blind, fun U hU hW => ⟨rfl, by rw [hU]; exact SPc.moved hW.alike hSP⟩⟩ rfl rfl hl.1 rfl (lv_room (by decide)) dJ1_charAt_3b067_3 ⟨Nat.le_refl _, Nat.le_refl _⟩
  refine W.callX hrun (fun _ h => h.elim) (fun v0 st0 t hst hq => ?_)
  obtain ⟨hv0, hth⟩ := hq
  cases hv0
  rw [hth, hst]
  refine lv_aload_n hx hb dJ1_charAt_3b067_6 rfl (lv_at hl 0 rfl) ?_
  refine lv_iload_n hx hb dJ1_charAt_3b067_7 rfl (lv_at hl 1 rfl) ?_
  refine va_tb hx hb (hSP.1.1 i hi).2.2.2 va_S.rf (i := Int32.ofInt x) (by unfold vp_in; rw [i32_clamp h0 hxr]; exact fun u => u.elim (i32_nonneg h0 hxr) (by omega)) rfl dJ1_charAt_3b067_8 ?_
  refine lv_sipush (v := 255) hx hb dJ1_charAt_3b067_9 (by decide) ?_
  refine lv_iand hx hb dJ1_charAt_3b067_12 ?_
  refine lv_i2c hx hb dJ1_charAt_3b067_13 (v := v) (by rw [i32_clamp h0 hxr]; exact hv) ?_
  exact W.zret hx hb B.returns hv2 (fun t ht _ => ⟨rfl, ht⟩) (fun q h => by cases h) dJ1_charAt_3b067_14 B.notSynchronized
/-- what the text constants hold -/
theorem txt_len : ∀ i, i < 12 → (txtL.getD i 0 : Nat) = (txtAt i).length ∧ (txtAt i).length < 100 := by decide +kernel
theorem txt_at : ∀ i, i < 12 → ∀ j, j < 30 → ((((((txtB.getD i []).getD j 0) &&& 255).toUInt32 % 65536).toInt32 = Int32.ofInt (((txtAt i).getD j 0 : Nat) : Int)) ∧ (txtAt i).getD j 0 < 256) := by decide +kernel
theorem txt_len30 : ∀ i, i < 12 → (txtAt i).length ≤ 30 := by decide +kernel
theorem c_strlen (l : Launch) (D : va_G) (base : Nat) (adK adV : Nat → Nat) (d : Nat) {h : aH} {o i : Nat} (hT1 : (hT h o).1 = 8) (hT2 : (hT h o).2 = i) : Met l (my 900) (wsm 900) (mRoom (d + 1) h h) (PcR D base adK adV [aO (some o)] h) (QcR D base adK adV (some (aI ((txtAt i).length : Int))) h) (hz h - hz h) (hs h - hs h) (aA base) := by
  rw [Nat.sub_self, Nat.sub_self]
  refine va_MetF (cc := cJ0_length_8abf5) (maxL := 1) (ret := some .int) (by decide +kernel) rfl ?_
  intro p e s m args below meth c s1 B hml hvv
  obtain ⟨rfl, hRp, hKS⟩ := hvv
  have hSP := hRp.2.2.2.1
  obtain ⟨-, i0, hi, rfl, hi2⟩ := (hRp.1 o).2.2.1 hT1
  have e8 : i0 = i := hi2.symm.trans hT2
  subst e8
  have hx := B.exec
  have hb : c.code = cJ0_length_8abf5 := B.bytes
  have hts0 := atoms_spec (ws := wsm 900) B.pre
  have hts : ∀ w ∈ WALL, w.before _ s = true := fun w hw => hts0 w (List.mem_cons_of_mem _ hw)
  have hown : s.vm.findClass "java/lang/String" = some m.cls := findClass_of_methodNamed B.named
  have hl := lv_entry ([.ref (adK i0)]) (n := 1) (Nat.le_of_ble_eq_true rfl)
  show W p l e _ s m _ below meth c s.heap [] 0 0 _ (entryFrame m ([.ref (adK i0)] : List Value).toArray 1)
  rw [lg_entry_eq]
  refine lv_aload_n hx hb dJ0_length_8abf5_0 rfl (lv_at hl 0 rfl) ?_
  refine vk_getf hx hb (hSP.1.1 i0 hi).2.2.1 va_S.rf hown (hts _ sw_9) (fun _ h => h) dJ0_length_8abf5_1 ?_
  refine va_tlen hx hb (hSP.1.1 i0 hi).2.2.2 va_S.rf (v := Int32.ofInt (((txtAt i0).length : Nat) : Int)) (by rw [(txt_len i0 hi).1]; exact (Int32.ofInt_eq_ofNat).symm) dJ0_length_8abf5_4 ?_
  refine lv_aload_n hx hb dJ0_length_8abf5_5 rfl (lv_at hl 0 rfl) ?_
  have hcb := cb_str (p := p) (m := m) (R := (headSpec (wsm 900) (mRoom (d + 1) h h)).room) (d := 0) (n := 0) hts sw_i3 sw_n0 sw_335 (by decide +kernel) ⟨by show 0 + 1 ≤ d + 1 + 4; omega, by show 8 + (1 + 11) + 80 * 0 ≤ 80 * (d + 1 + 4); omega⟩
  have hrecv : ∃ cellB : Cell, s.heap[adK i0]? = some cellB ∧ cellB.vm.isStatics = false ∧ s.vm.findClass "java/lang/String" = some cellB.cls := by
    obtain ⟨cell, h1, h2, h3, -⟩ := (hSP.1.1 i0 hi).1
    exact ⟨cell, h1, h2, h3⟩
  refine W.callR (W.runV (As := []) (b := adK i0) (C := "java/lang/String") (rest := [.int (Int32.ofInt (((txtAt i0).length : Nat) : Int))]) (Ts := WALL) (own := "java/lang/String") ⟨hx, hb, hml, hown, hts⟩ (c_coder l base adK adV hi) ⟨hcb, hts _ sw_i1, hts _ sw_i2⟩ ⟨strP_blind, hrecv, fun U hU hW => ⟨rfl, by rw [hU]; exact SPc.moved hW.alike hSP⟩⟩ rfl rfl hl.1 rfl (lv_room (by simp [Value.category])) dJ0_length_8abf5_6 ⟨Nat.zero_le _, Nat.zero_le _⟩) ?_
  refine lv_ishr hx hb dJ0_length_8abf5_9 ?_
  have e1 : Int32.ofInt (((txtAt i0).length : Nat) : Int) >>> (0 &&& 31 : Int32) = Int32.ofInt (((txtAt i0).length : Nat) : Int) := by
    have hl9 := (txt_len i0 hi).2
    have hr : r32 (((txtAt i0).length : Nat) : Int) := by unfold r32; omega
    have := i32_shr hr 0
    rw [i32_0] at this
    rw [this]
    congr 1
    unfold ishr
    simp
  rw [e1]
  refine W.zret hx hb B.returns rfl (fun t ht hW => ⟨⟨rfl, fun v hv => ?_⟩, by rw [ht]; exact Rep.moved hW.alike hRp, va_S.F (va_S.rf) ht⟩) (fun q h => by cases h) dJ0_length_8abf5_10 B.notSynchronized
  cases hv
  have hl9 := (txt_len i0 hi).2
  show r32 _
  unfold r32
  omega
theorem c_strat (l : Launch) (D : va_G) (base : Nat) (adK adV : Nat → Nat) (d : Nat) {h : aH} {o i : Nat} {x : Int} (hT1 : (hT h o).1 = 8) (hT2 : (hT h o).2 = i) (h0 : 0 ≤ x) (h1 : x < ((txtAt i).length : Int)) : Met l (my 901) (wsm 901) (mRoom (d + 1) h h) (PcR D base adK adV [aO (some o), aI x] h) (QcR D base adK adV (some (aI (((txtAt i).getD x.toNat 0 : Nat) : Int))) h) (hz h - hz h) (hs h - hs h) (aA base) := by
  rw [Nat.sub_self, Nat.sub_self]
  refine va_MetF (cc := cJ0_charAt_5068e) (maxL := 2) (ret := some .char) (by decide +kernel) rfl ?_
  intro p e s m args below meth c s1 B hml hvv
  obtain ⟨rfl, hRp, hKS⟩ := hvv
  have hSP := hRp.2.2.2.1
  obtain ⟨-, i0, hi, rfl, hi2⟩ := (hRp.1 o).2.2.1 hT1
  have e8 : i0 = i := hi2.symm.trans hT2
  subst e8
  have hl30 := txt_len30 i0 hi
  have hch := txt_at i0 hi x.toNat (by omega)
  have hx := B.exec
  have hb : c.code = cJ0_charAt_5068e := B.bytes
  have hts0 := atoms_spec (ws := wsm 901) B.pre
  have hts : ∀ w ∈ WALL, w.before _ s = true := fun w hw => hts0 w (List.mem_cons_of_mem _ hw)
  have hown : s.vm.findClass "java/lang/String" = some m.cls := findClass_of_methodNamed B.named
  have hl := lv_entry ([.ref (adK i0), .int (Int32.ofInt x)]) (n := 2) (Nat.le_of_ble_eq_true rfl)
  show W p l e _ s m _ below meth c s.heap [] 0 0 _ (entryFrame m ([.ref (adK i0), .int (Int32.ofInt x)] : List Value).toArray 2)
  rw [lg_entry_eq]
  have hrecv : ∃ cellB : Cell, s.heap[adK i0]? = some cellB ∧ cellB.vm.isStatics = false ∧ s.vm.findClass "java/lang/String" = some cellB.cls := by
    obtain ⟨cell, h1, h2, h3, -⟩ := (hSP.1.1 i0 hi).1
    exact ⟨cell, h1, h2, h3⟩
  refine lv_aload_n hx hb dJ0_charAt_5068e_0 rfl (lv_at hl 0 rfl) ?_
  have hcb := cb_str (p := p) (m := m) (R := (headSpec (wsm 901) (mRoom (d + 1) h h)).room) (d := 0) (n := 0) hts sw_l3 sw_n0 sw_492 (by decide +kernel) ⟨by show 0 + 1 ≤ d + 1 + 4; omega, by show 8 + (1 + 11) + 80 * 0 ≤ 80 * (d + 1 + 4); omega⟩
  refine W.callR (W.runV (As := []) (b := adK i0) (C := "java/lang/String") (rest := []) (Ts := WALL) (own := "java/lang/String") ⟨hx, hb, hml, hown, hts⟩ (c_isLatin1 l base adK adV hi) ⟨hcb, hts _ sw_l1, hts _ sw_l2⟩ ⟨strP_blind, hrecv, fun U hU hW => ⟨rfl, by rw [hU]; exact SPc.moved hW.alike hSP⟩⟩ rfl rfl hl.1 rfl (lv_room (by decide)) dJ0_charAt_5068e_1 ⟨Nat.zero_le _, Nat.zero_le _⟩) ?_
  refine lv_if_eq (tgt := 16) hx hb dJ0_charAt_5068e_4 rfl (fun e => absurd e (by decide)) (fun _ => ?_)
  refine lv_aload_n hx hb dJ0_charAt_5068e_7 rfl (lv_at hl 0 rfl) ?_
  refine vk_getf hx hb (hSP.1.1 i0 hi).2.2.1 va_S.rf hown (hts _ sw_9) (fun _ h => h) dJ0_charAt_5068e_8 ?_
  refine lv_iload_n hx hb dJ0_charAt_5068e_11 rfl (lv_at hl 1 rfl) ?_
  have hcr : ((txtAt i0).getD x.toNat 0 : Nat) < 256 := hch.2
  have hcb2 := cb_str (p := p) (m := m) (R := (headSpec (wsm 901) (mRoom (d + 1) h h)).room) (d := 2) (n := 2) hts sw_c3 sw_n1 sw_495 (by decide +kernel) ⟨by show 2 + 1 ≤ d + 1 + 4; omega, by show 8 + (2 + 11) + 80 * 2 ≤ 80 * (d + 1 + 4); omega⟩
  have hmet := c_lat1At l base adK adV hi (x := x) h0 (by rw [(txt_len i0 hi).1]; exact h1) (by rw [(txt_len i0 hi).1]; unfold r32; omega) hch.1 (narrow_c (by omega) (by omega))
  refine W.callR (W.runS (As := [.ref (adV i0), .int (Int32.ofInt x)]) (rest := []) (Ts := WALL) (own := "java/lang/String") ⟨hx, hb, hml, hown, hts⟩ hmet ⟨hcb2, hts _ sw_c1⟩ ⟨strP_blind, fun U hU hW => ⟨rfl, by rw [hU]; exact SPc.moved hW.alike hSP⟩⟩ rfl rfl hl.1 rfl (lv_room (by decide)) dJ0_charAt_5068e_12 ⟨Nat.zero_le _, Nat.zero_le _⟩) ?_
  refine W.zret hx hb B.returns (narrow_c (by omega) (by omega)) (fun t ht hW => ⟨⟨rfl, fun v hv => ?_⟩, by rw [ht]; exact Rep.moved hW.alike hRp, va_S.F (va_S.rf) ht⟩) (fun q h => by cases h) dJ0_charAt_5068e_15 B.notSynchronized
  cases hv
  show r32 _
  unfold r32
  omega
theorem biG_ok (l : Launch) (D : va_G) (base : Nat) (adK adV : Nat → Nat) : ∀ d cal, CalOk l D base adK adV cal d → CalOk l D base adK adV (biG adK cal) (d + 1) := by
  intro d cal _ m as h r h1 hb h9 hvo _
  rcases hb with ⟨rfl, o, rfl, ht, rfl, rfl⟩ | ⟨rfl, o, i, rfl, ht, h0, hi, rfl, rfl⟩ | ⟨h8, -⟩
  · refine ⟨Nat.le_refl _, Nat.le_refl _, ?_⟩
    exact c_strlen l D base adK adV d ht rfl
  · refine ⟨Nat.le_refl _, Nat.le_refl _, ?_⟩
    exact c_strat l D base adK adV d ht rfl h0 hi
  · exact absurd h8 h9
