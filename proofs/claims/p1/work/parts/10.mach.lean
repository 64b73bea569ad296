/-! ===== THE PURE MACHINE: a frame is (locals, stack); cells are numbered from 0 on; .ref k is the k-th cell that the run made, .retAddr i an int array from before the run (the script, the static tables) ===== -/
abbrev pE : Type := (Nat × Nat × (Nat → Value)) ⊕ (Nat × List Value)
abbrev pH : Type := List (Option pE)
abbrev pL : Type := List (Nat × Value)
abbrev pO : Type := Option (pL × List Value × Option Int)
def pm_tr (b0 : Nat) (ext : Nat → Nat) (v : Value) : Value := match v with
  | .ref k => .ref (b0 + k)
  | .retAddr i => .ref (ext i)
  | .int x => .int x
  | .long x => .long x
  | .float x => .float x
  | .double x => .double x
  | .null => .null
def pm_get (lv : pL) (i : Nat) : Option Value := match lv.find? (fun q => q.1 == i) with
  | some q => some q.2
  | none => none
def pm_set1 (lv : pL) (i : Nat) (v : Value) : pL := (i, v) :: lv.filter (fun q => !(q.1 == i) && !(q.1 + 1 == i && q.2.category == 2))
def pm_set2 (lv : pL) (i : Nat) (v : Value) : pL := (i, v) :: lv.filter (fun q => !(q.1 == i) && (!(q.1 == i + 1) && !(q.1 + 1 == i && q.2.category == 2)))
def pm_iload (lv : pL) (st : List Value) (i : Nat) : pO := match pm_get lv i with
  | some (.int x) => some (lv, .int x :: st, none)
  | _ => none
def pm_lload (lv : pL) (st : List Value) (i : Nat) : pO := match pm_get lv i with
  | some (.long x) => some (lv, .long x :: st, none)
  | _ => none
def pm_aload (lv : pL) (st : List Value) (i : Nat) : pO := match pm_get lv i with
  | some (.ref x) => some (lv, .ref x :: st, none)
  | some (.retAddr x) => some (lv, .retAddr x :: st, none)
  | _ => none
def pm_istore (nL : Nat) (lv : pL) (st : List Value) (i : Nat) : pO := match st with
  | .int x :: r => if i < nL then some (pm_set1 lv i (.int x), r, none) else none
  | _ => none
def pm_lstore (nL : Nat) (lv : pL) (st : List Value) (i : Nat) : pO := match st with
  | .long x :: r => if i + 1 < nL then some (pm_set2 lv i (.long x), r, none) else none
  | _ => none
def pm_astore (nL : Nat) (lv : pL) (st : List Value) (i : Nat) : pO := match st with
  | .ref x :: r => if i < nL then some (pm_set1 lv i (.ref x), r, none) else none
  | .retAddr x :: r => if i < nL then some (pm_set1 lv i (.retAddr x), r, none) else none
  | _ => none
def pm_iinc (nL : Nat) (lv : pL) (st : List Value) (i : Nat) (n : Int) : pO := match pm_get lv i with
  | some (.int x) => if i < nL then some (pm_set1 lv i (.int (x + Int32.ofInt n)), st, none) else none
  | _ => none
def pm_ii (f : Int32 → Int32 → Int32) (lv : pL) (st : List Value) : pO := match st with
  | .int y :: .int x :: r => some (lv, .int (f x y) :: r, none)
  | _ => none
def pm_iz (f : Int32 → Int32 → Int32) (lv : pL) (st : List Value) : pO := match st with
  | .int y :: .int x :: r => if y = 0 then none else some (lv, .int (f x y) :: r, none)
  | _ => none
def pm_ll (f : Int64 → Int64 → Int64) (lv : pL) (st : List Value) : pO := match st with
  | .long y :: .long x :: r => some (lv, .long (f x y) :: r, none)
  | _ => none
def pm_lz (f : Int64 → Int64 → Int64) (lv : pL) (st : List Value) : pO := match st with
  | .long y :: .long x :: r => if y = 0 then none else some (lv, .long (f x y) :: r, none)
  | _ => none
def pm_li (f : Int64 → Int32 → Int64) (lv : pL) (st : List Value) : pO := match st with
  | .int y :: .long x :: r => some (lv, .long (f x y) :: r, none)
  | _ => none
def pm_i1 (f : Int32 → Int32) (lv : pL) (st : List Value) : pO := match st with
  | .int x :: r => some (lv, .int (f x) :: r, none)
  | _ => none
def pm_l1 (f : Int64 → Int64) (lv : pL) (st : List Value) : pO := match st with
  | .long x :: r => some (lv, .long (f x) :: r, none)
  | _ => none
def pm_i2l (lv : pL) (st : List Value) : pO := match st with
  | .int x :: r => some (lv, .long x.toInt64 :: r, none)
  | _ => none
def pm_l2i (lv : pL) (st : List Value) : pO := match st with
  | .long x :: r => some (lv, .int x.toInt32 :: r, none)
  | _ => none
def pm_lcmp (lv : pL) (st : List Value) : pO := match st with
  | .long y :: .long x :: r => some (lv, .int (lg_cmp x y) :: r, none)
  | _ => none
def pm_dup (lv : pL) (st : List Value) : pO := match st with
  | v :: r => if v.category = 1 then some (lv, v :: v :: r, none) else none
  | _ => none
def pm_pop (lv : pL) (st : List Value) : pO := match st with
  | v :: r => if v.category = 1 then some (lv, r, none) else none
  | _ => none
def pm_dup2 (lv : pL) (st : List Value) : pO := match st with
  | v :: w :: r => if v.category = 2 then some (lv, v :: v :: w :: r, none) else if w.category = 1 then some (lv, v :: w :: v :: w :: r, none) else none
  | v :: r => if v.category = 2 then some (lv, v :: v :: r, none) else none
  | _ => none
def pm_br (b : Bool) (off : Int) : Option Int := if b = true then some off else none
def pm_c1 (cnd : Jvm.ClassFile.Cond) (x : Int32) : Bool := match cnd with
  | .eq => decide (x = 0)
  | .ne => decide (¬ x = 0)
  | .lt => decide (x < 0)
  | .ge => decide (0 ≤ x)
  | .gt => decide (0 < x)
  | .le => decide (x ≤ 0)
def pm_c2 (cnd : Jvm.ClassFile.Cond) (x y : Int32) : Bool := match cnd with
  | .eq => decide (x = y)
  | .ne => decide (¬ x = y)
  | .lt => decide (x < y)
  | .ge => decide (y ≤ x)
  | .gt => decide (y < x)
  | .le => decide (x ≤ y)
def pm_if (cnd : Jvm.ClassFile.Cond) (off : Int) (lv : pL) (st : List Value) : pO := match st with
  | .int x :: r => some (lv, r, pm_br (pm_c1 cnd x) off)
  | _ => none
def pm_icmp (cnd : Jvm.ClassFile.Cond) (off : Int) (lv : pL) (st : List Value) : pO := match st with
  | .int y :: .int x :: r => some (lv, r, pm_br (pm_c2 cnd x y) off)
  | _ => none
def pm_tsw (dflt lo hi : Int) (offs : List Int) (lv : pL) (st : List Value) : pO := match st with
  | .int x :: r => if x.toInt < lo ∨ hi < x.toInt then some (lv, r, some dflt) else match offs[(x.toInt - lo).toNat]? with
    | some o => some (lv, r, some o)
    | none => none
  | _ => none
def pm_lsw (dflt : Int) (ps : List (Int × Int)) (lv : pL) (st : List Value) : pO := match st with
  | .int x :: r => if (ps.zip (ps.drop 1)).all (fun (a, next) => a.1 < next.1) = true then some (lv, r, some (Op.lookupswitch.offset ps dflt x.toInt)) else none
  | _ => none
/-- what touches neither cells nor other methods -/
def pm_lop (nL : Nat) (ins : Instr) (lv : pL) (st : List Value) : pO := match ins with
  | .iconst n => some (lv, .int (Int32.ofInt n) :: st, none)
  | .bipush n => some (lv, .int (Int8.ofInt n).toInt32 :: st, none)
  | .sipush n => some (lv, .int (Int16.ofInt n).toInt32 :: st, none)
  | .lconst n => some (lv, .long (Int64.ofNat n) :: st, none)
  | .iload_n k => pm_iload lv st k
  | .iload i => pm_iload lv st i
  | .lload_n k => pm_lload lv st k
  | .lload i => pm_lload lv st i
  | .aload_n k => pm_aload lv st k
  | .aload i => pm_aload lv st i
  | .istore_n k => pm_istore nL lv st k
  | .istore i => pm_istore nL lv st i
  | .lstore_n k => pm_lstore nL lv st k
  | .lstore i => pm_lstore nL lv st i
  | .astore_n k => pm_astore nL lv st k
  | .astore i => pm_astore nL lv st i
  | .iinc i n => pm_iinc nL lv st i n
  | .iadd => pm_ii (fun x y => x + y) lv st
  | .isub => pm_ii (fun x y => x - y) lv st
  | .imul => pm_ii (fun x y => x * y) lv st
  | .iand => pm_ii (fun x y => x &&& y) lv st
  | .ior => pm_ii (fun x y => x ||| y) lv st
  | .ixor => pm_ii (fun x y => x ^^^ y) lv st
  | .ishl => pm_ii (fun x y => x <<< (y &&& 31)) lv st
  | .ishr => pm_ii (fun x y => x >>> (y &&& 31)) lv st
  | .iushr => pm_ii (fun x y => (x.toUInt32 >>> (y.toUInt32 &&& Int32.toUInt32 31)).toInt32) lv st
  | .idiv => pm_iz (fun x y => x / y) lv st
  | .irem => pm_iz (fun x y => x - x / y * y) lv st
  | .ineg => pm_i1 (fun x => -x) lv st
  | .i2b => pm_i1 (fun x => x.toInt8.toInt32) lv st
  | .i2s => pm_i1 (fun x => x.toInt16.toInt32) lv st
  | .i2l => pm_i2l lv st
  | .l2i => pm_l2i lv st
  | .ladd => pm_ll (fun x y => x + y) lv st
  | .lsub => pm_ll (fun x y => x - y) lv st
  | .lmul => pm_ll (fun x y => x * y) lv st
  | .land => pm_ll (fun x y => x &&& y) lv st
  | .lor => pm_ll (fun x y => x ||| y) lv st
  | .lxor => pm_ll (fun x y => x ^^^ y) lv st
  | .ldiv => pm_lz (fun x y => x / y) lv st
  | .lneg => pm_l1 (fun x => -x) lv st
  | .lshl => pm_li (fun x y => x <<< (y.toInt64 &&& 63)) lv st
  | .lshr => pm_li (fun x y => x >>> (y.toInt64 &&& 63)) lv st
  | .lushr => pm_li (fun x y => (x.toUInt64 >>> (y.toInt64.toUInt64 &&& Int64.toUInt64 63)).toInt64) lv st
  | .lcmp => pm_lcmp lv st
  | .dup => pm_dup lv st
  | .pop => pm_pop lv st
  | .dup2 => pm_dup2 lv st
  | .ifCond cnd off => pm_if cnd off lv st
  | .if_icmp cnd off => pm_icmp cnd off lv st
  | .goto off => some (lv, st, some off)
  | .tableswitch dflt lo hi offs => pm_tsw dflt lo hi offs.toList lv st
  | .lookupswitch dflt ps => pm_lsw dflt ps.toList lv st
  | _ => none
/-- the length of an instruction (a switch: any) -/
def pm_len (ins : Instr) (n : Nat) : Bool := match ins with
  | .bipush _ | .iload _ | .lload _ | .aload _ | .istore _ | .lstore _ | .astore _ | .ldc _ | .newarray _ => n == 2
  | .sipush _ | .iinc _ _ | .ifCond _ _ | .if_icmp _ _ | .goto _ | .getfield _ | .putfield _ | .getstatic _ | .invokevirtual _ | .invokespecial _ | .invokestatic _ | .new _ | .anewarray _ | .ldc_w _ | .ldc2_w _ => n == 3
  | .multianewarray _ _ => n == 4
  | .tableswitch _ _ _ _ | .lookupswitch _ _ => true
  | _ => n == 1
