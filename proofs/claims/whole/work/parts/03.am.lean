/-! A small machine over whole numbers: values, a heap by address and place, one step an instruction.
Everything behind this part speaks of it; part 05 shows that the machine of the Statement follows it. -/
abbrev aV : Type := (Int ⊕ Int) ⊕ (Option Nat ⊕ UInt64)
abbrev aI (z : Int) : aV := .inl (.inl z)
abbrev aJ (z : Int) : aV := .inl (.inr z)
abbrev aO (r : Option Nat) : aV := .inr (.inl r)
abbrev aD (u : UInt64) : aV := .inr (.inr u)
abbrev aLs : Type := List (Nat × aV)
/-- kinds by address (kind, size), whole numbers, references, the next address, the slots taken -/
abbrev aH : Type := (Nat → Nat × Nat) × (Nat → Nat → Int) × (Nat → Nat → Option Nat) × Nat × Nat
def hT (h : aH) (a : Nat) : Nat × Nat := h.1 a
def hV (h : aH) (a i : Nat) : Int := h.2.1 a i
def hR (h : aH) (a i : Nat) : Option Nat := h.2.2.1 a i
def hz (h : aH) : Nat := h.2.2.2.1
def hs (h : aH) : Nat := h.2.2.2.2
def hset (h : aH) (a i : Nat) (v : Int) : aH := (h.1, fun b j => if b = a ∧ j = i then v else h.2.1 b j, h.2.2)
def hput (h : aH) (a i : Nat) (r : Option Nat) : aH := (h.1, h.2.1, fun b j => if b = a ∧ j = i then r else h.2.2.1 b j, h.2.2.2)
def hnew (h : aH) (k n : Nat) : aH := (fun b => if b = h.2.2.2.1 then (k, n) else h.1 b, fun b j => if b = h.2.2.2.1 then 0 else h.2.1 b j, fun b j => if b = h.2.2.2.1 then none else h.2.2.1 b j, h.2.2.2.1 + 1, h.2.2.2.2 + n)
def w32 (z : Int) : Int := (z + 2147483648) % 4294967296 - 2147483648
def w64 (z : Int) : Int := (z + 9223372036854775808) % 18446744073709551616 - 9223372036854775808
def r32 (z : Int) : Prop := -2147483648 ≤ z ∧ z < 2147483648
def r64 (z : Int) : Prop := -9223372036854775808 ≤ z ∧ z < 9223372036854775808
def iand (x y : Int) : Int := (Int32.ofInt x &&& Int32.ofInt y).toInt
def ior (x y : Int) : Int := (Int32.ofInt x ||| Int32.ofInt y).toInt
def ixor (x y : Int) : Int := (Int32.ofInt x ^^^ Int32.ofInt y).toInt
def land (x y : Int) : Int := (Int64.ofInt x &&& Int64.ofInt y).toInt
def lor (x y : Int) : Int := (Int64.ofInt x ||| Int64.ofInt y).toInt
def lxor (x y : Int) : Int := (Int64.ofInt x ^^^ Int64.ofInt y).toInt
def ishl (x y : Int) : Int := w32 (x * 2 ^ (y % 32).toNat)
def ishr (x y : Int) : Int := x / 2 ^ (y % 32).toNat
def iushr (x y : Int) : Int := w32 (x % 4294967296 / 2 ^ (y % 32).toNat)
def lshl (x y : Int) : Int := w64 (x * 2 ^ (y % 64).toNat)
def lshr (x y : Int) : Int := x / 2 ^ (y % 64).toNat
def lushr (x y : Int) : Int := w64 (x % 18446744073709551616 / 2 ^ (y % 64).toNat)
def lcmp (x y : Int) : Int := if x < y then -1 else if x = y then 0 else 1
def acat (v : aV) : Nat := match v with
  | .inl (.inr _) => 2
  | .inr (.inr _) => 2
  | _ => 1
def acats (st : List aV) : Nat := (st.map acat).sum
def lget (ls : aLs) (i : Nat) : Option aV := match ls with
  | [] => none
  | q :: t => bif q.1 == i then some q.2 else lget t i
def lput1 (ls : aLs) (i : Nat) (v : aV) : aLs := (i, v) :: ls.filter (fun q => !(q.1 == i) && !(q.1 + 1 == i && acat q.2 == 2))
def lput2 (ls : aLs) (i : Nat) (v : aV) : aLs := (i, v) :: ls.filter (fun q => !(q.1 == i) && (!(q.1 == i + 1) && !(q.1 + 1 == i && acat q.2 == 2)))
/-- a call's arguments as it finds them -/
def largs (n : Nat) (as : List aV) : aLs := match as with
  | [] => []
  | v :: t => (n, v) :: largs (n + acat v) t
def ccmp (c : ClassFile.Cond) (x y : Int) : Bool := match c with
  | .eq => decide (x = y)
  | .ne => !decide (x = y)
  | .lt => decide (x < y)
  | .ge => !decide (x < y)
  | .gt => decide (y < x)
  | .le => !decide (y < x)
def tswt (pc : Nat) (df lo hi : Int) (offs : Array Int) (x : Int) : Nat := if x < lo ∨ hi < x then (pc + df).toNat else (pc + offs.getD (x - lo).toNat 0).toNat
/-- a field's value by its sort: 0 whole int, 1 long, 2 reference -/
def fget (h : aH) (sort k o : Nat) : aV := match sort with
  | 0 => aI (hV h o k)
  | 1 => aJ (hV h o k)
  | _ => aO (hR h o k)
abbrev aCal : Type := Nat → List aV → aH → Option aV → aH → Prop
/-- where the text constants lie -/
abbrev aW : Type := Nat → Nat
def acall (cal : aCal) (K : Nat → aLs → List aV → aH → Prop) (nx a n rk : Nat) (sl : Int) (ls : aLs) (st : List aV) (h : aH) : Prop :=
  ∃ (as s : List aV) (r : Option aV) (h1 : aH), st = as.reverse ++ s ∧ as.length = n ∧ (acats as : Int) = sl ∧ acats s ≤ 8 ∧ (rk ≠ 0 → ∃ o t, as = aO (some o) :: t ∧ (hT h o).1 = rk) ∧ cal a as h r h1 ∧ K nx ls (r.toList ++ s) h1
def astep (w : aW) (cal : aCal) (fin : Option aV → aH → Prop) (K : Nat → aLs → List aV → aH → Prop) (ins : Instr) (pc nx a k c : Nat) (z : Int) (ls : aLs) (st : List aV) (h : aH) : Prop :=
  match ins with
  | .aconst_null => K nx ls (aO none :: st) h
  | .iconst n => K nx ls (aI n :: st) h
  | .bipush n => K nx ls (aI n :: st) h
  | .sipush n => K nx ls (aI n :: st) h
  | .lconst n => K nx ls (aJ (n.val : Int) :: st) h
  | .dconst n => n = 0 ∧ K nx ls (aD FP.dconst0 :: st) h
  | .ldc _ => (a = 0 ∧ K nx ls (aI z :: st) h) ∨ (a ≠ 0 ∧ K nx ls (aO (some (w (a - 1))) :: st) h)
  | .ldc2_w _ => K nx ls (aJ z :: st) h
  | .iload i => ∃ x, lget ls i = some (aI x) ∧ K nx ls (aI x :: st) h
  | .iload_n i => ∃ x, lget ls i.val = some (aI x) ∧ K nx ls (aI x :: st) h
  | .lload i => ∃ x, lget ls i = some (aJ x) ∧ K nx ls (aJ x :: st) h
  | .lload_n i => ∃ x, lget ls i.val = some (aJ x) ∧ K nx ls (aJ x :: st) h
  | .aload i => ∃ x, lget ls i = some (aO x) ∧ K nx ls (aO x :: st) h
  | .aload_n i => ∃ x, lget ls i.val = some (aO x) ∧ K nx ls (aO x :: st) h
  | .dload i => ∃ x, lget ls i = some (aD x) ∧ K nx ls (aD x :: st) h
  | .dload_n i => ∃ x, lget ls i.val = some (aD x) ∧ K nx ls (aD x :: st) h
  | .istore i => ∃ x s, st = aI x :: s ∧ K nx (lput1 ls i (aI x)) s h
  | .istore_n i => ∃ x s, st = aI x :: s ∧ K nx (lput1 ls i.val (aI x)) s h
  | .lstore i => ∃ x s, st = aJ x :: s ∧ K nx (lput2 ls i (aJ x)) s h
  | .lstore_n i => ∃ x s, st = aJ x :: s ∧ K nx (lput2 ls i.val (aJ x)) s h
  | .astore i => ∃ x s, st = aO x :: s ∧ K nx (lput1 ls i (aO x)) s h
  | .astore_n i => ∃ x s, st = aO x :: s ∧ K nx (lput1 ls i.val (aO x)) s h
  | .dstore i => ∃ x s, st = aD x :: s ∧ K nx (lput2 ls i (aD x)) s h
  | .dstore_n i => ∃ x s, st = aD x :: s ∧ K nx (lput2 ls i.val (aD x)) s h
  | .iinc i n => ∃ x, lget ls i = some (aI x) ∧ K nx (lput1 ls i (aI (w32 (x + n)))) st h
  | .dup => ∃ v s, st = v :: s ∧ acat v = 1 ∧ K nx ls (v :: v :: s) h
  | .dup2 => ∃ v u s, st = v :: u :: s ∧ acat v = 1 ∧ acat u = 1 ∧ K nx ls (v :: u :: v :: u :: s) h
  | .pop => ∃ v s, st = v :: s ∧ acat v = 1 ∧ K nx ls s h
  | .iadd => ∃ y x s, st = aI y :: aI x :: s ∧ K nx ls (aI (w32 (x + y)) :: s) h
  | .isub => ∃ y x s, st = aI y :: aI x :: s ∧ K nx ls (aI (w32 (x - y)) :: s) h
  | .imul => ∃ y x s, st = aI y :: aI x :: s ∧ K nx ls (aI (w32 (x * y)) :: s) h
  | .idiv => ∃ y x s, st = aI y :: aI x :: s ∧ y ≠ 0 ∧ K nx ls (aI (w32 (x.tdiv y)) :: s) h
  | .irem => ∃ y x s, st = aI y :: aI x :: s ∧ y ≠ 0 ∧ K nx ls (aI (x.tmod y) :: s) h
  | .iand => ∃ y x s, st = aI y :: aI x :: s ∧ K nx ls (aI (iand x y) :: s) h
  | .ior => ∃ y x s, st = aI y :: aI x :: s ∧ K nx ls (aI (ior x y) :: s) h
  | .ixor => ∃ y x s, st = aI y :: aI x :: s ∧ K nx ls (aI (ixor x y) :: s) h
  | .ishl => ∃ y x s, st = aI y :: aI x :: s ∧ K nx ls (aI (ishl x y) :: s) h
  | .ishr => ∃ y x s, st = aI y :: aI x :: s ∧ K nx ls (aI (ishr x y) :: s) h
  | .iushr => ∃ y x s, st = aI y :: aI x :: s ∧ K nx ls (aI (iushr x y) :: s) h
  | .ineg => ∃ x s, st = aI x :: s ∧ K nx ls (aI (w32 (-x)) :: s) h
  | .ladd => ∃ y x s, st = aJ y :: aJ x :: s ∧ K nx ls (aJ (w64 (x + y)) :: s) h
  | .lsub => ∃ y x s, st = aJ y :: aJ x :: s ∧ K nx ls (aJ (w64 (x - y)) :: s) h
  | .lmul => ∃ y x s, st = aJ y :: aJ x :: s ∧ K nx ls (aJ (w64 (x * y)) :: s) h
  | .ldiv => ∃ y x s, st = aJ y :: aJ x :: s ∧ y ≠ 0 ∧ K nx ls (aJ (w64 (x.tdiv y)) :: s) h
  | .lrem => ∃ y x s, st = aJ y :: aJ x :: s ∧ y ≠ 0 ∧ K nx ls (aJ (x.tmod y) :: s) h
  | .land => ∃ y x s, st = aJ y :: aJ x :: s ∧ K nx ls (aJ (land x y) :: s) h
  | .lor => ∃ y x s, st = aJ y :: aJ x :: s ∧ K nx ls (aJ (lor x y) :: s) h
  | .lxor => ∃ y x s, st = aJ y :: aJ x :: s ∧ K nx ls (aJ (lxor x y) :: s) h
  | .lshl => ∃ y x s, st = aI y :: aJ x :: s ∧ K nx ls (aJ (lshl x y) :: s) h
  | .lshr => ∃ y x s, st = aI y :: aJ x :: s ∧ K nx ls (aJ (lshr x y) :: s) h
  | .lushr => ∃ y x s, st = aI y :: aJ x :: s ∧ K nx ls (aJ (lushr x y) :: s) h
  | .lneg => ∃ x s, st = aJ x :: s ∧ K nx ls (aJ (w64 (-x)) :: s) h
  | .lcmp => ∃ y x s, st = aJ y :: aJ x :: s ∧ K nx ls (aI (lcmp x y) :: s) h
  | .i2l => ∃ x s, st = aI x :: s ∧ K nx ls (aJ x :: s) h
  | .l2i => ∃ x s, st = aJ x :: s ∧ K nx ls (aI (w32 x) :: s) h
  | .l2d => ∃ x s, st = aJ x :: s ∧ K nx ls (aD (FP.l2d (Int64.ofInt x)) :: s) h
  | .ddiv => ∃ y x s, st = aD y :: aD x :: s ∧ vf_n64 (FP.ddiv x y) ∧ K nx ls (aD (FP.ddiv x y) :: s) h
  | .dcmp op => ∃ y x s, st = aD y :: aD x :: s ∧ K nx ls (aI (Op.cmpValue (FP.dcmp x y) op).toInt :: s) h
  | .ifCond c _ => ∃ x s, st = aI x :: s ∧ K (bif ccmp c x 0 then a else nx) ls s h
  | .if_icmp c _ => ∃ y x s, st = aI y :: aI x :: s ∧ K (bif ccmp c x y then a else nx) ls s h
  | .ifnull _ => ∃ r s, st = aO r :: s ∧ K (bif r.isNone then a else nx) ls s h
  | .ifnonnull _ => ∃ r s, st = aO r :: s ∧ K (bif r.isSome then a else nx) ls s h
  | .goto _ => K a ls st h
  | .tableswitch df lo hi offs => ∃ x s, st = aI x :: s ∧ K (tswt pc df lo hi offs x) ls s h
  | .getfield _ => ∃ o s, st = aO (some o) :: s ∧ (hT h o).1 = 10 + a ∧ K nx ls (fget h c k o :: s) h
  | .putfield _ => ∃ v o s, st = v :: aO (some o) :: s ∧ (hT h o).1 = 10 + a ∧
      ((c = 0 ∧ ∃ x, v = aI x ∧ K nx ls s (hset h o k x)) ∨ (c = 1 ∧ ∃ x, v = aJ x ∧ K nx ls s (hset h o k x)) ∨ (c = 2 ∧ ∃ x, v = aO x ∧ K nx ls s (hput h o k x)))
  | .new _ => K nx ls (aO (some (hz h)) :: st) (hnew h (10 + a) k)
  | .newarray _ => ∃ n s, st = aI n :: s ∧ 0 ≤ n ∧ n ≤ 1000000 ∧ K nx ls (aO (some (hz h)) :: s) (hnew h a n.toNat)
  | .anewarray _ => ∃ n s, st = aI n :: s ∧ 0 ≤ n ∧ n ≤ 1000000 ∧ K nx ls (aO (some (hz h)) :: s) (hnew h a n.toNat)
  | .arraylength => ∃ o s, st = aO (some o) :: s ∧ 1 ≤ (hT h o).1 ∧ (hT h o).1 ≤ 6 ∧ K nx ls (aI (hT h o).2 :: s) h
  | .iaload => ∃ i o s, st = aI i :: aO (some o) :: s ∧ ((hT h o).1 = 1 ∨ (hT h o).1 = 6) ∧ 0 ≤ i ∧ i < (hT h o).2 ∧ K nx ls (aI (hV h o i.toNat) :: s) h
  | .laload => ∃ i o s, st = aI i :: aO (some o) :: s ∧ (hT h o).1 = 2 ∧ 0 ≤ i ∧ i < (hT h o).2 ∧ K nx ls (aJ (hV h o i.toNat) :: s) h
  | .baload => ∃ i o s, st = aI i :: aO (some o) :: s ∧ (hT h o).1 = 3 ∧ 0 ≤ i ∧ i < (hT h o).2 ∧ K nx ls (aI (hV h o i.toNat) :: s) h
  | .aaload => ∃ i o s, st = aI i :: aO (some o) :: s ∧ ((hT h o).1 = 4 ∨ (hT h o).1 = 5) ∧ 0 ≤ i ∧ i < (hT h o).2 ∧ K nx ls (aO (hR h o i.toNat) :: s) h
  | .iastore => ∃ x i o s, st = aI x :: aI i :: aO (some o) :: s ∧ (hT h o).1 = 1 ∧ 0 ≤ i ∧ i < (hT h o).2 ∧ K nx ls s (hset h o i.toNat x)
  | .lastore => ∃ x i o s, st = aJ x :: aI i :: aO (some o) :: s ∧ (hT h o).1 = 2 ∧ 0 ≤ i ∧ i < (hT h o).2 ∧ K nx ls s (hset h o i.toNat x)
  | .bastore => ∃ x i o s, st = aI x :: aI i :: aO (some o) :: s ∧ (hT h o).1 = 3 ∧ 0 ≤ i ∧ i < (hT h o).2 ∧ (x = 0 ∨ x = 1) ∧ K nx ls s (hset h o i.toNat x)
  | .aastore => ∃ v i o s, st = aO (some v) :: aI i :: aO (some o) :: s ∧ (((hT h o).1 = 4 ∧ (hT h v).1 = 20) ∨ ((hT h o).1 = 5 ∧ (hT h v).1 = 2)) ∧ 0 ≤ i ∧ i < (hT h o).2 ∧ K nx ls s (hput h o i.toNat (some v))
  | .invokestatic _ => acall cal K nx a k 0 z ls st h
  | .invokevirtual _ => acall cal K nx a k c z ls st h
  | .invokespecial _ => (a = 0 ∧ ∃ o s, st = aO (some o) :: s ∧ acats s ≤ 8 ∧ K nx ls s h) ∨ (a ≠ 0 ∧ acall cal K nx a k c z ls st h)
  | .ireturn => ∃ x, st = [aI x] ∧ (a = 1 → x = 0 ∨ x = 1) ∧ (a = 2 → 0 ≤ x ∧ x < 65536) ∧ fin (some (aI x)) h
  | .lreturn => ∃ x, st = [aJ x] ∧ fin (some (aJ x)) h
  | .dreturn => ∃ x, st = [aD x] ∧ fin (some (aD x)) h
  | .areturn => ∃ x, st = [aO x] ∧ fin (some (aO x)) h
  | .return_ => st = [] ∧ fin none h
  | _ => False
/-- a row of a method's code: place, instruction, next place, what is told of it beside -/
abbrev aE : Type := Nat × Instr × Nat × Nat × Nat × Nat × Int
def clook (l : List aE) (pc : Nat) : Option (Instr × Nat × Nat × Nat × Nat × Int) := match l with
  | [] => none
  | q :: t => bif q.1 == pc then some q.2 else clook t pc
def arun (w : aW) (cal : aCal) (cd : List aE) : Nat → Nat → aLs → List aV → aH → Option aV → aH → Prop
  | 0 => fun _ _ _ _ _ _ => False
  | n + 1 => fun pc ls st h r h' => ∃ ins nx a k c z, clook cd pc = some (ins, nx, a, k, c, z) ∧ astep w cal (fun r1 h1 => r1 = r ∧ h1 = h') (fun pc1 ls1 st1 h1 => arun w cal cd n pc1 ls1 st1 h1 r h') ins pc nx a k c z ls st h
/-- a call's result, of calls that go at most d deep; bi: methods that are told otherwise, by the calls that they make -/
def ares (w : aW) (bi : aCal → aCal) (cd : Nat → List aE) : Nat → aCal
  | 0 => fun _ _ _ _ _ => False
  | d + 1 => fun m as h r h' => bi (ares w bi cd d) m as h r h' ∨ ∃ n, arun w (ares w bi cd d) (cd m) n 0 (largs 0 as) [] h r h'
