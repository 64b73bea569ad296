/-! ===== SYMBOLIC RUNS of the pure machine: values are terms over variables; .arg i an int variable (i even) or a long one (i odd); .index k the k-th cell; .string "" i an array from before ===== -/
abbrev sT : Type := Jvm.Term
/-- a valuation: int variables, long variables, int arrays, long arrays; what lies in the cells that are not looked at; how many cells and slots there are besides -/
abbrev sR : Type := (Nat → Int32) × (Nat → Int64) × (Nat → Nat → Int32) × (Nat → Nat → Int64) × pH × Nat × Nat
abbrev rB (ρ : sR) : pH := ρ.2.2.2.2.1
abbrev rC (ρ : sR) : Nat := ρ.2.2.2.2.2.1
abbrev rS (ρ : sR) : Nat := ρ.2.2.2.2.2.2
noncomputable def s2 (o : Binary) (p q : Int32 × Int64) : Int32 × Int64 := match o with
  | .iand => (p.1 &&& q.1, 0)
  | .ior => (p.1 ||| q.1, 0)
  | .ixor => (p.1 ^^^ q.1, 0)
  | .ishl => (p.1 <<< (q.1 &&& 31), 0)
  | .ishr => (p.1 >>> (q.1 &&& 31), 0)
  | .iushr => ((p.1.toUInt32 >>> (q.1.toUInt32 &&& Int32.toUInt32 31)).toInt32, 0)
  | .ladd => (0, p.2 + q.2)
  | .lsub => (0, p.2 - q.2)
  | .lmul => (0, p.2 * q.2)
  | .ldiv => (0, p.2 / q.2)
  | .land => (0, p.2 &&& q.2)
  | .lor => (0, p.2 ||| q.2)
  | .lxor => (0, p.2 ^^^ q.2)
  | .lshl => (0, p.2 <<< (q.1.toInt64 &&& 63))
  | .lshr => (0, p.2 >>> (q.1.toInt64 &&& 63))
  | .lushr => (0, (p.2.toUInt64 >>> (q.1.toInt64.toUInt64 &&& Int64.toUInt64 63)).toInt64)
  | .lcmp => (lg_cmp p.2 q.2, 0)
  | _ => (0, 0)
noncomputable def s1 (o : Unary) (p : Int32 × Int64) : Int32 × Int64 := match o with
  | .ineg => (-p.1, 0)
  | .i2b => (p.1.toInt8.toInt32, 0)
  | .i2s => (p.1.toInt16.toInt32, 0)
  | .l2i => (p.2.toInt32, 0)
  | .lneg => (0, -p.2)
  | .i2l => (0, p.1.toInt64)
  | _ => (0, 0)
noncomputable def sd (X : pX) (ρ : sR) : sT → Int32 × Int64
  | .int v => (v, 0)
  | .long v => (0, v)
  | .arg i => (ρ.1 i, ρ.2.1 i)
  | .add a b => ((sd X ρ a).1 + (sd X ρ b).1, 0)
  | .sub a b => ((sd X ρ a).1 - (sd X ρ b).1, 0)
  | .mul a b => ((sd X ρ a).1 * (sd X ρ b).1, 0)
  | .div a b => ((sd X ρ a).1 / (sd X ρ b).1, 0)
  | .rem a b => ((sd X ρ a).1 - (sd X ρ a).1 / (sd X ρ b).1 * (sd X ρ b).1, 0)
  | .op2 o a b => s2 o (sd X ρ a) (sd X ρ b)
  | .op1 o a => s1 o (sd X ρ a)
  | .elem t i => match t with
    | .string _ k => match X k with
      | some a => (a.2 (sd X ρ i).1.toNatClampNeg, 0)
      | none => (0, 0)
    | .arg a => (ρ.2.2.1 a (sd X ρ i).1.toNatClampNeg, ρ.2.2.2.1 a (sd X ρ i).1.toNatClampNeg)
    | _ => (0, 0)
  | .length t => match t with
    | .string _ k => match X k with
      | some a => (Int32.ofNat a.1, 0)
      | none => (0, 0)
    | _ => (0, 0)
  | _ => (0, 0)
noncomputable def sk2 (o : Binary) : Nat := @Jvm.Binary.rec (fun _ => Nat) (0) (0) (0) (0) (0) (0) (1) (1) (1) (1) (9) (1) (1) (1) (1) (1) (1) (0) (9) (9) (9) (9) (9) (9) (9) (9) (9) (9) (9) (9) (9) (9) o
noncomputable def sk1 (o : Unary) : Nat := @Jvm.Unary.rec (fun _ => Nat) (0) (1) (1) (0) (0) (9) (0) (9) (9) (9) (9) (9) (9) (9) (9) (9) (9) (9) (9) (9) (9) o
noncomputable def ske (t : sT) : Nat := @Jvm.Term.rec (fun _ => Nat) (fun i => i % 2) (fun _ => 9) (fun _ => 9) (9) (fun _ => 9) (fun _ _ _ _ _ => 9) (fun _ _ _ => 9) (fun _ _ => 0) (fun _ => 9) (fun _ _ => 9) (fun _ _ _ _ => 9) (fun _ _ _ _ => 9) (fun _ _ _ _ => 9) (fun _ _ _ _ => 9) (fun _ _ _ _ => 9) (fun _ _ _ _ => 9) (fun _ _ _ _ _ => 9) (fun _ _ _ => 9) (fun _ _ => 9) (9) (9) (fun _ _ => 9) t
/-- what a term is: 0 an int, 1 a long, 2 a cell, 3 an array from before, 4 null -/
noncomputable def sk (t : sT) : Nat := @Jvm.Term.rec (fun _ => Nat) (fun i => i % 2) (fun _ => 0) (fun _ => 1) (4) (fun _ => 2) (fun _ _ _ _ _ => 9) (fun _ _ _ => 9) (fun _ _ => 3) (fun _ => 9) (fun _ _ => 0) (fun t _ _ _ => ske t) (fun _ _ _ _ => 0) (fun _ _ _ _ => 0) (fun _ _ _ _ => 0) (fun _ _ _ _ => 0) (fun _ _ _ _ => 0) (fun o _ _ _ _ => sk2 o) (fun o _ _ => sk1 o) (fun _ _ => 9) (9) (9) (fun _ _ => 9) t
noncomputable def sv (X : pX) (ρ : sR) (t : sT) : Value := match t with
  | .index k => .ref k
  | .string _ i => .retAddr i
  | .null => .null
  | t => if sk t = 1 then .long (sd X ρ t).2 else .int (sd X ρ t).1
theorem sv_int {X : pX} {ρ : sR} {t : sT} (h : sk t = 0) : sv X ρ t = .int (sd X ρ t).1 := by
  unfold sv
  split
  · exact absurd h (show ¬ (2 = 0) by decide)
  · exact absurd h (show ¬ (3 = 0) by decide)
  · exact absurd h (show ¬ (4 = 0) by decide)
  · rw [if_neg (by rw [h]; decide)]
theorem sv_long {X : pX} {ρ : sR} {t : sT} (h : sk t = 1) : sv X ρ t = .long (sd X ρ t).2 := by
  unfold sv
  split
  · exact absurd h (show ¬ (2 = 1) by decide)
  · exact absurd h (show ¬ (3 = 1) by decide)
  · exact absurd h (show ¬ (4 = 1) by decide)
  · rw [if_pos h]
theorem sv_cat (X : pX) (ρ : sR) (t : sT) : (sv X ρ t).category = if sk t = 1 then 2 else 1 := by
  unfold sv
  split
  · rfl
  · rfl
  · rfl
  · split <;> rfl
/-! constants -/
noncomputable def sC1 (t : sT) : Option (Int32 × Int64) := @Jvm.Term.rec (fun _ => Option (Int32 × Int64)) (fun _ => none) (fun v => some (v, 0)) (fun v => some (0, v)) (none) (fun _ => none) (fun _ _ _ _ _ => none) (fun _ _ _ => none) (fun _ _ => none) (fun _ => none) (fun _ _ => none) (fun _ _ _ _ => none) (fun _ _ _ _ => none) (fun _ _ _ _ => none) (fun _ _ _ _ => none) (fun _ _ _ _ => none) (fun _ _ _ _ => none) (fun _ _ _ _ _ => none) (fun _ _ _ => none) (fun _ _ => none) (none) (none) (fun _ _ => none) t
theorem sC1_ok {X : pX} {ρ : sR} {t : sT} {p : Int32 × Int64} (h : sC1 t = some p) : sd X ρ t = p := by
  cases t <;> first | (cases h; done) | (cases h; rfl)
noncomputable def scm (o : Binary) : Bool := @Jvm.Binary.rec (fun _ => Bool) (true) (true) (true) (false) (false) (false) (true) (false) (true) (false) (false) (true) (true) (true) (false) (false) (false) (false) (false) (false) (false) (false) (false) (false) (false) (false) (false) (false) (false) (false) (false) (false) o
theorem scm_ok {o : Binary} (h : scm o = true) (p q : Int32 × Int64) : s2 o p q = s2 o q p := by
  cases o <;> first | (cases h; done) | (simp only [s2, Int32.and_comm p.1, Int32.or_comm p.1, Int32.xor_comm p.1, Int64.add_comm p.2, Int64.mul_comm p.2, Int64.and_comm p.2, Int64.or_comm p.2, Int64.xor_comm p.2])
/-- nothing added is nothing done -/
noncomputable def mkz (o : Binary) (a b : sT) : sT := match o with
  | .ladd => if sk a = 1 ∧ b = .long 0 then a else .op2 .ladd a b
  | o => .op2 o a b
noncomputable def mk2 (o : Binary) (a b : sT) : sT := match sC1 a, sC1 b with
  | some p, some q => if sk2 o = 1 then .long (s2 o p q).2 else .int (s2 o p q).1
  | some _, none => if scm o = true then mkz o b a else .op2 o a b
  | none, _ => mkz o a b
noncomputable def mk1 (o : Unary) (a : sT) : sT := match sC1 a with
  | some p => if sk1 o = 1 then .long (s1 o p).2 else .int (s1 o p).1
  | none => .op1 o a
/-- + - * / % of ints -/
noncomputable def sar (k : Nat) (x y : Int32) : Int32 := match k with
  | 0 => x + y
  | 1 => x - y
  | 2 => x * y
  | 3 => x / y
  | _ => x - x / y * y
noncomputable def stm (k : Nat) (a b : sT) : sT := match k with
  | 0 => .add a b
  | 1 => .sub a b
  | 2 => .mul a b
  | 3 => .div a b
  | _ => .rem a b
noncomputable def mkw (k : Nat) (a b : sT) : sT := if k = 0 ∧ sk a = 0 ∧ b = .int 0 then a else stm k a b
noncomputable def mkA (k : Nat) (a b : sT) : sT := match sC1 a, sC1 b with
  | some p, some q => .int (sar k p.1 q.1)
  | some _, none => if k = 0 ∨ k = 2 then mkw k b a else stm k a b
  | none, _ => mkw k a b
theorem mkz_i {X : pX} {ρ : sR} {o : Binary} {a b : sT} (ho : sk2 o = 0) : sv X ρ (mkz o a b) = .int (s2 o (sd X ρ a) (sd X ρ b)).1 := by
  unfold mkz
  split
  · cases ho
  · exact sv_int (t := .op2 o a b) ho
theorem mkz_l {X : pX} {ρ : sR} {o : Binary} {a b : sT} (ho : sk2 o = 1) : sv X ρ (mkz o a b) = .long (s2 o (sd X ρ a) (sd X ρ b)).2 := by
  unfold mkz
  split
  · split
    · next hc =>
      rw [sv_long hc.1, hc.2]
      simp only [s2, sd, Int64.add_zero]
    · exact sv_long (t := .op2 .ladd a b) ho
  · exact sv_long (t := .op2 o a b) ho
theorem mk2_i {X : pX} {ρ : sR} {o : Binary} {a b : sT} (ho : sk2 o = 0) : sv X ρ (mk2 o a b) = .int (s2 o (sd X ρ a) (sd X ρ b)).1 := by
  unfold mk2
  split
  · next p q hp hq =>
    rw [if_neg (by rw [ho]; decide), sC1_ok hp, sC1_ok hq]
    rfl
  · split
    · next hc => rw [scm_ok hc]; exact mkz_i ho
    · exact sv_int (t := .op2 o a b) ho
  · exact mkz_i ho
theorem mk2_l {X : pX} {ρ : sR} {o : Binary} {a b : sT} (ho : sk2 o = 1) : sv X ρ (mk2 o a b) = .long (s2 o (sd X ρ a) (sd X ρ b)).2 := by
  unfold mk2
  split
  · next p q hp hq =>
    rw [if_pos ho, sC1_ok hp, sC1_ok hq]
    rfl
  · split
    · next hc => rw [scm_ok hc]; exact mkz_l ho
    · exact sv_long (t := .op2 o a b) ho
  · exact mkz_l ho
theorem mk1_i {X : pX} {ρ : sR} {o : Unary} {a : sT} (ho : sk1 o = 0) : sv X ρ (mk1 o a) = .int (s1 o (sd X ρ a)).1 := by
  unfold mk1
  split
  · next p hp =>
    rw [if_neg (by rw [ho]; decide), sC1_ok hp]
    rfl
  · exact sv_int (t := .op1 o a) ho
theorem mk1_l {X : pX} {ρ : sR} {o : Unary} {a : sT} (ho : sk1 o = 1) : sv X ρ (mk1 o a) = .long (s1 o (sd X ρ a)).2 := by
  unfold mk1
  split
  · next p hp =>
    rw [if_pos ho, sC1_ok hp]
    rfl
  · exact sv_long (t := .op1 o a) ho
theorem stm_i {X : pX} {ρ : sR} (k : Nat) (a b : sT) : sv X ρ (stm k a b) = .int (sar k (sd X ρ a).1 (sd X ρ b).1) := by
  match k with
  | 0 => rfl
  | 1 => rfl
  | 2 => rfl
  | 3 => rfl
  | k + 4 => rfl
theorem mkw_i {X : pX} {ρ : sR} {k : Nat} {a b : sT} : sv X ρ (mkw k a b) = .int (sar k (sd X ρ a).1 (sd X ρ b).1) := by
  unfold mkw
  split
  · next hc =>
    obtain ⟨rfl, h1, rfl⟩ := hc
    rw [sv_int h1]
    simp only [sar, sd, Int32.add_zero]
  · exact stm_i k a b
theorem mkA_i {X : pX} {ρ : sR} {k : Nat} {a b : sT} : sv X ρ (mkA k a b) = .int (sar k (sd X ρ a).1 (sd X ρ b).1) := by
  unfold mkA
  split
  · next p q hp hq =>
    rw [sC1_ok hp, sC1_ok hq]
    rfl
  · split
    · next hc =>
      rcases hc with rfl | rfl
      · rw [mkw_i]; simp only [sar, Int32.add_comm (sd X ρ a).1]
      · rw [mkw_i]; simp only [sar, Int32.mul_comm (sd X ρ a).1]
    · exact stm_i k a b
  · exact mkw_i
/-! conditions: 0 a = b, 2 a < b of ints; 6, 8 of longs -/
abbrev sQ : Type := Nat × sT × sT
/-- an array, as a named condition looks at it -/
noncomputable def aarr (ρ : sR) (t : sT) : (Nat → Int32) × (Nat → Int64) := match t with
  | .elem (.arg a) _ => if a % 2 = 1 then (fun _ => 0, ρ.2.2.2.1 a) else (ρ.2.2.1 a, fun _ => 0)
  | _ => (fun _ => 0, fun _ => 0)
/-- the first n are of the six codes, none of them twice, and n is at most six -/
noncomputable def al6 (g : Nat → Int32) (n : Int) : Bool := decide (0 ≤ n) && (decide (n ≤ 6) && ((List.range n.toNat).all (fun i => ([33040, 33072, 33088, 34321, 34322, 65281] : List Int32).contains (g i)) && (List.range n.toNat).all (fun i => (List.range i).all (fun j => !(decide (g j = g i))))))
/-- conditions by name: what a term of it shows, an array and a number; terms in a row by sums -/
noncomputable def aits (X : pX) (ρ : sR) : sT → List (((Nat → Int32) × (Nat → Int64)) × Int)
  | .add a b => (aarr ρ a, if sk a = 1 then (sd X ρ a).2.toInt else (sd X ρ a).1.toInt) :: aits X ρ b
  | t => [(aarr ρ t, if sk t = 1 then (sd X ρ t).2.toInt else (sd X ρ t).1.toInt)]
/-- an entry's number: between what, of which set; places that stand apart are free -/
noncomputable def evt : List (Int × Int × Nat) := [(0, 4294967295, 0), (-9223372036854775808, 9223372036854775807, 0), (-9223372036854775808, 9223372036854775807, 0), (-9223372036854775808, 9223372036854775807, 0), (-9223372036854775808, 9223372036854775807, 0), (-9223372036854775808, 9223372036854775807, 0), (-9223372036854775808, 9223372036854775807, 0), (-9223372036854775808, 9223372036854775807, 0), (-9223372036854775808, 9223372036854775807, 0), (-9223372036854775808, 9223372036854775807, 0), (-9223372036854775808, 9223372036854775807, 0), (0, 4294967295, 8), (0, 100000, 0), (0, 2147483647, 0), (0, 255, 0), (0, 4294967295, 0), (0, 255, 0), (0, 4294967295, 0), (0, 4294967295, 0), (0, 65535, 0), (0, 255, 0), (0, 8388607, 0), (0, 8388607, 0), (0, 65535, 0), (0, 255, 0), (0, 4294967295, 0), (0, 4294967295, 0), (0, 4294967295, 0), (0, 4294967295, 0), (0, 255, 0), (0, 2, 0), (0, 255, 0), (0, 4294967295, 0), (0, 4294967295, 0), (0, 255, 0), (0, 4294967295, 9), (0, 255, 7), (0, 65535, 0), (0, 255, 0), (0, 4294967295, 9), (0, 255, 7), (0, 65535, 0), (0, 255, 0), (0, 4294967295, 9), (0, 255, 7), (0, 65535, 0), (0, 255, 0), (0, 4294967295, 9), (0, 255, 7), (0, 65535, 0), (0, 4, 0), (0, 4294967295, 11), (0, 4294967295, 11), (0, 4294967295, 11), (0, 4294967295, 11), (0, 4, 0), (0, 4294967295, 11), (0, 4294967295, 11), (0, 4294967295, 11), (0, 4294967295, 11), (0, 4, 0), (0, 4294967295, 11), (0, 4294967295, 11), (0, 4294967295, 11), (0, 4294967295, 11), (0, 4, 0), (0, 4294967295, 11), (0, 4294967295, 11), (0, 4294967295, 11), (0, 4294967295, 11), (0, 255, 0), (0, 4294967295, 9), (0, 255, 7), (0, 65535, 0), (0, 65535, 0), (0, 255, 0), (0, 4294967295, 9), (0, 255, 7), (0, 65535, 0), (0, 65535, 0), (0, 255, 0), (0, 4294967295, 9), (0, 255, 7), (0, 65535, 0), (0, 65535, 0), (0, 255, 0), (0, 4294967295, 9), (0, 255, 7), (0, 65535, 0), (0, 65535, 0), (0, 4, 0), (0, 4294967295, 12), (0, 4294967295, 12), (0, 4294967295, 12), (0, 4294967295, 12), (0, 4, 0), (0, 4294967295, 12), (0, 4294967295, 12), (0, 4294967295, 12), (0, 4294967295, 12), (0, 4, 0), (0, 4294967295, 12), (0, 4294967295, 12), (0, 4294967295, 12), (0, 4294967295, 12), (0, 4, 0), (0, 4294967295, 12), (0, 4294967295, 12), (0, 4294967295, 12), (0, 4294967295, 12), (0, 2147483647, 0), (0, 2147483647, 0), (0, 2147483647, 0), (1, 100, 0), (-9223372036854775808, 9223372036854775807, 0), (0, 65535, 0), (0, 65535, 0), ((-32768), 32767, 1), ((-32768), 32767, 2), ((-32768), 32767, 2), ((-32768), 32767, 3), ((-32768), 32767, 4), ((-128), 127, 5), (-9223372036854775808, 9223372036854775807, 0), ((-2147483648), 2147483647, 0), ((-2147483648), 2147483647, 0), (0, 1000000, 0), (0, 65535, 0), (0, 1000000, 0), (0, 65535, 0), ((-2147483648), 2147483647, 0), ((-2147483648), 2147483647, 0), ((-1000000000), 1000000000, 0), ((-1000000000), 1000000000, 0), (0, 255, 0), ((-1000000000), 1000000000, 0), ((-1000000000), 1000000000, 0), (1, 2000000, 0), (1, 2000000, 0), (1, 100000000, 0), (1, 100000000, 0), (1, 100000000, 0), ((-128), 127, 6), (0, 255, 0), (1, 2000000, 0), (1, 2000000, 0), (1, 100000000, 0), (0, 65535, 0), (-9223372036854775808, 9223372036854775807, 0), (-9223372036854775808, 9223372036854775807, 0), (-9223372036854775808, 9223372036854775807, 0), (0, 4294967295, 0), (0, 255, 0), (0, 4294967295, 0), ((-2000000), 2000000, 0), (0, 4294967295, 0)]
noncomputable def evs (s : Nat) (v : Int) : Bool := match s with
  | 1 => ([0, 1, 2, 5, 6] : List Int).contains v
  | 2 => ([0, 1] : List Int).contains v
  | 3 => ([1, 2] : List Int).contains v
  | 4 => ([0, 1, 2] : List Int).contains v
  | 5 => ([-1, 0, 1, 3, 6, 8] : List Int).contains v
  | 6 => ([0, 17, 18, 35] : List Int).contains v
  | 7 => decide (v ≤ 240) || ([254, 255] : List Int).contains v
  | 8 => ([0, 1073741824] : List Int).contains (v - v % 2048) && !(decide (v % 2048 = 0))
  | 9 => ([0, 2147483648] : List Int).contains (v - v % 2048) && !(decide (v % 2048 = 0))
  | 11 => ([0, 327688, 393232, 458784, 1614807056, 1616904200, 1618608160, 1619066912, 1619197984, 1619263520, 1622671376, 1627259168, 1627324448] : List Int).contains v
  | 12 => ([0, 268501000, 1614741520, 1614872592, 1616969736, 1617035296, 1617166368, 1617625120, 1617690656, 1622736912, 1622802464, 1622868000, 1627193376] : List Int).contains v
  | _ => true
noncomputable def evk (k : Nat) (v : Int) : Bool := match evt[k]? with
  | some (lo, hi, s) => decide (lo ≤ v) && (decide (v ≤ hi) && evs s v)
  | none => true
/-- a map: its first rows are no gaps, and at most 64 bits in all -/
noncomputable def evm (g : Nat → Int64) (m : Nat) : Bool := (List.range (g m).toInt.toNat).all (fun i => !(decide ((g (m + 1 + i)).toInt = 0))) && decide (((List.range (g m).toInt.toNat).map (fun i => (g (m + 1 + i)).toInt % 256)).sum ≤ 64)
noncomputable def evall (g : Nat → Int64) : Bool := (List.range 156).all (fun k => evk k (g k).toInt) && ([50, 55, 60, 65, 90, 95, 100, 105] : List Nat).all (evm g)
/-- a ring of 32 places that begins at p, beside a row: the first n are the same -/
noncomputable def aring (f g : Nat → Int32) (p n : Int) : Bool := (List.range n.toNat).all (fun j => decide (f ((p.toNat + j) % 32) = g j))
/-- the register of the first n codes -/
noncomputable def agrp (c : Int32) : Int32 := (c.toUInt32 >>> ((8 : Int32).toUInt32 &&& Int32.toUInt32 31)).toInt32
noncomputable def areg1 (c : Int32) : Nat := if agrp c = 129 then 17 else if agrp c = 134 then 33 else if agrp c = 255 then 129 else 1
noncomputable def areg (f : Nat → Int32) (n : Int) : Nat := (List.range n.toNat).foldl (fun r i => r ||| areg1 (f i)) 0
/-- index and sub of an entry in one -/
noncomputable def bkw : List Int := [4096, 4097, 4099, 69635, 135171, 200707, 266243, 331779, 397315, 462851, 528387, 4101, 4102, 4104, 4112, 69648, 4113, 69649, 4116, 4117, 4118, 69654, 135190, 4119, 4120, 69656, 135192, 200728, 266264, 4137, 69673, 4608, 70144, 135680, 5120, 70656, 136192, 332800, 5121, 70657, 136193, 332801, 5122, 70658, 136194, 332802, 5123, 70659, 136195, 332803, 5632, 71168, 136704, 202240, 267776, 5633, 71169, 136705, 202241, 267777, 5634, 71170, 136706, 202242, 267778, 5635, 71171, 136707, 202243, 267779, 6144, 71680, 137216, 202752, 333824, 6145, 71681, 137217, 202753, 333825, 6146, 71682, 137218, 202754, 333826, 6147, 71683, 137219, 202755, 333827, 6656, 72192, 137728, 203264, 268800, 6657, 72193, 137729, 203265, 268801, 6658, 72194, 137730, 203266, 268802, 6659, 72195, 137731, 203267, 268803, 8192, 8208, 8209, 8210, 24639, 24640, 24641, 24666, 24667, 24668, 24669, 24670, 24672, 24673, 24674, 24676, 24677, 24678, 24679, 24680, 24683, 24684, 24698, 24700, 24701, 90237, 155773, 24703, 24705, 24707, 24708, 24709, 24728, 24729, 90265, 155801, 24730, 24760, 24761, 24762, 24763, 24829, 24830, 90366, 24831, 25858]
/-- where an entry stands: -1 no such index, -2 no such sub -/
noncomputable def aslot (ix sb : Int) : Int := if decide (0 ≤ ix) && (decide (ix ≤ 65535) && bkw.any (fun w => decide (w % 65536 = ix))) then (match bkw.findIdx? (fun w => decide (w = ix + 65536 * sb)) with
  | some p => (p : Int)
  | none => -2) else -1
/-- what a row of a map says: the slot -/
noncomputable def mslot (v : Int) : Int := aslot (v / 65536) (v / 256 % 256)
noncomputable def mrow (g : Nat → Int64) (m i : Nat) : Int := if (i : Int) < (g m).toInt then (g (m + 1 + i)).toInt else 0
/-- a map as it was read: four slots, four widths, all the bits -/
noncomputable def amap (g : Nat → Int64) (m : Nat) (l : List Int) (n : Int) : Bool := decide (l = (List.range 4).map (fun i => mslot (mrow g m i)) ++ (List.range 4).map (fun i => mrow g m i % 256)) && decide (n = ((List.range 4).map (fun i => mrow g m i % 256)).sum)
/-- the SUM, bit by bit, and of the first n of a row -/
noncomputable def crb (b k s : Int32) : Int32 := if (s >>> ((15 : Int32) &&& 31)) &&& 1 = (b >>> (k &&& 31)) &&& 1 then (s <<< ((1 : Int32) &&& 31)) &&& 65535 else ((s <<< ((1 : Int32) &&& 31)) &&& 65535) ^^^ 4129
noncomputable def crm (s b : Int32) : Int32 := crb b 0 (crb b 1 (crb b 2 (crb b 3 (crb b 4 (crb b 5 (crb b 6 (crb b 7 s)))))))
noncomputable def acrc (f : Nat → Int32) : Nat → Int32
  | 0 => 0
  | n + 1 => crm (acrc f n) (f n)
/-- how many bytes an entry that is kept has, from and to; by the slots -/
def aks : List (Option (Int × Int)) := [none, none, none, none, none, none, none, none, none, none, none, some (4, 4), some (4, 4), none, none, none, none, none, none, some (2, 2), none, some (4, 4), some (4, 4), some (2, 2), none, none, none, none, none, none, some (1, 1), none, none, none, none, some (4, 4), some (1, 1), some (2, 2), none, some (4, 4), some (1, 1), some (2, 2), none, some (4, 4), some (1, 1), some (2, 2), none, some (4, 4), some (1, 1), some (2, 2), some (1, 1), some (4, 4), some (4, 4), some (4, 4), some (4, 4), some (1, 1), some (4, 4), some (4, 4), some (4, 4), some (4, 4), some (1, 1), some (4, 4), some (4, 4), some (4, 4), some (4, 4), some (1, 1), some (4, 4), some (4, 4), some (4, 4), some (4, 4), none, some (4, 4), some (1, 1), some (2, 2), some (2, 2), none, some (4, 4), some (1, 1), some (2, 2), some (2, 2), none, some (4, 4), some (1, 1), some (2, 2), some (2, 2), none, some (4, 4), some (1, 1), some (2, 2), some (2, 2), some (1, 1), some (4, 4), some (4, 4), some (4, 4), some (4, 4), some (1, 1), some (4, 4), some (4, 4), some (4, 4), some (4, 4), some (1, 1), some (4, 4), some (4, 4), some (4, 4), some (4, 4), some (1, 1), some (4, 4), some (4, 4), some (4, 4), some (4, 4), some (0, 24), none, some (0, 144), some (1, 1), none, none, none, some (2, 2), some (2, 2), some (2, 2), some (2, 2), some (2, 2), some (1, 1), none, none, none, some (4, 4), some (2, 2), some (4, 4), some (2, 2), none, none, none, some (4, 4), none, some (4, 4), some (4, 4), some (4, 4), some (4, 4), some (4, 4), some (4, 4), some (4, 4), some (1, 1), none, some (4, 4), some (4, 4), some (4, 4), some (2, 2), none, none, none, none, none, none, none, none]
/-- a bank's entries one after the other, as far as the end: where they end -/
noncomputable def awalk (f : Nat → Int32) (e : Int) : List (Option (Int × Int)) → Int → Option Int
  | [], at_ => some at_
  | none :: r, at_ => awalk f e r at_
  | some q :: r, at_ => if (decide (e ≤ at_) || (decide ((f at_.toNat).toInt < q.1) || decide (q.2 < (f at_.toNat).toInt))) = true then none else awalk f e r (at_ + 1 + (f at_.toNat).toInt)
noncomputable def alen (f : Nat → Int32) : Int := (f 6).toInt + 256 * (f 7).toInt
/-- does a bank count -/
noncomputable def acounts (f : Nat → Int32) : Bool := decide ((f 0).toInt = 165) && (decide ((f 1).toInt = 90) && (decide (11 ≤ alen f) && (decide (alen f ≤ 1024) && (decide (awalk f (alen f - 2) aks 8 = some (alen f - 2)) && decide ((acrc f (alen f - 2).toNat).toInt = (f (alen f - 2).toNat).toInt + 256 * (f (alen f - 1).toNat).toInt)))))
/-- the number of a bank; which of two counts -/
noncomputable def abno (f : Nat → Int32) : Int := (f 2).toInt + 256 * (f 3).toInt + 65536 * (f 4).toInt + 16777216 * (f 5).toInt
noncomputable def abest (f g : Nat → Int32) : Int := if acounts f = true then (if acounts g = true then (if abno f < abno g then 1 else 0) else 0) else (if acounts g = true then 1 else -1)
/-- the k-th map as it was read: slots, widths, bits -/
noncomputable def amapk (g : Nat → Int64) (m k : Nat) (s w : Nat → Int32) (b : Int) : Bool := (List.range 4).all (fun i => decide ((s (4 * k + i)).toInt = mslot (mrow g (m + 5 * k) i)) && decide ((w (4 * k + i)).toInt = mrow g (m + 5 * k) i % 256)) && decide (b = ((List.range 4).map (fun i => mrow g (m + 5 * k) i % 256)).sum)
/-- what a named condition of many things looks at: the i-th number, the i-th array -/
noncomputable def an_ (l : List (((Nat → Int32) × (Nat → Int64)) × Int)) (i : Nat) : Int := (l.map (fun q => q.2)).getD i 0
noncomputable def ai_ (l : List (((Nat → Int32) × (Nat → Int64)) × Int)) (i : Nat) : Nat → Int32 := (l.map (fun q => q.1.1)).getD i (fun _ => 0)
noncomputable def al_ (l : List (((Nat → Int32) × (Nat → Int64)) × Int)) (i : Nat) : Nat → Int64 := (l.map (fun q => q.1.2)).getD i (fun _ => 0)
/-- process data that comes in, of one k: 0 entries, 3 whether it begins anew, 5 waits, 6 the model's, 7 awaited, 8 the model's (1, 2, 4: nothing) -/
noncomputable def apdi (l : List (((Nat → Int32) × (Nat → Int64)) × Int)) (k : Nat) : Bool :=
  let a := an_ l
  (decide (a 6 = (if a 3 = 0 then a 5 else 0)) && decide (a 8 = (if a 3 = 0 then a 7 else 0))) &&
  ((if al_ l 0 (35 + 4 * k) &&& 2147483648 = 0 then true else decide (a 6 = 0) && decide (a 8 = 0)) &&
  (if a 6 = 0 then true else decide (al_ l 0 (36 + 4 * k) < 254)))
/-- ... that goes out: 3 whether it begins anew, 5 sent, 6 the model's, 7 syncs, 8 the model's (0, 1, 2, 4: nothing) -/
noncomputable def apdo (l : List (((Nat → Int32) × (Nat → Int64)) × Int)) (k : Nat) : Bool :=
  let a := an_ l
  decide (a 6 = (if a 3 = 0 then a 5 else 0)) && decide (a 8 = (if a 3 = 0 then a 7 else 0))
/-- a map, as it was read, if it doesn't begin anew: 0 whether it does, 1 the map's first slot, 2 entries, 3 slots, 4 widths; n the first place -/
noncomputable def amapm (g : Nat → Int64) (m at_ : Nat) (s w : Nat → Int32) : Bool := (List.range 4).all (fun i => decide ((s (at_ + i)).toInt = mslot (mrow g m i)) && decide ((w (at_ + i)).toInt = mrow g m i % 256))
noncomputable def apdm (l : List (((Nat → Int32) × (Nat → Int64)) × Int)) (at_ : Nat) : Bool := if an_ l 0 = 0 then amapm (al_ l 2) (an_ l 1).toNat at_ (ai_ l 3) (ai_ l 4) else true
/-- its bits: 0 whether it begins anew, 1 bits, 2 the map's first slot, 3 entries -/
noncomputable def apdb (l : List (((Nat → Int32) × (Nat → Int64)) × Int)) : Bool := if an_ l 0 = 0 then decide (an_ l 1 = ((List.range 4).map (fun i => mrow (al_ l 3) (an_ l 2).toNat i % 256)).sum) else true
/-- a heartbeat that is awaited: 0 entries, 1 whether it begins anew, 2 awaited, 3 the model's -/
noncomputable def apda (l : List (((Nat → Int32) × (Nat → Int64)) × Int)) (i : Nat) : Bool :=
  let a := an_ l
  decide (a 3 = (if a 1 = 0 then a 2 else 0)) && (if a 3 = 0 then true else decide ((0 : Int64) < (s2 .lushr (0, al_ l 0 (21 + i)) (16, 0)).2) && decide ((0 : Int64) < al_ l 0 (21 + i) &&& 65535))
/-- entries that can be written -/
def awr : List Nat := [2, 11, 12, 15, 17, 19, 21, 22, 23, 30, 35, 36, 37, 39, 40, 41, 43, 44, 45, 47, 48, 49, 50, 51, 52, 53, 54, 55, 56, 57, 58, 59, 60, 61, 62, 63, 64, 65, 66, 67, 68, 69, 71, 72, 73, 74, 76, 77, 78, 79, 81, 82, 83, 84, 86, 87, 88, 89, 90, 91, 92, 93, 94, 95, 96, 97, 98, 99, 100, 101, 102, 103, 104, 105, 106, 107, 108, 109, 110, 112, 113, 115, 117, 118, 119, 120, 121, 122, 126, 127, 128, 129, 132, 133, 135, 136, 137, 138, 139, 140, 141, 142, 144, 145, 146, 147, 153, 154]
def apcs (n : Int) : Int := if n ≤ 0 then 1 else (n + 6) / 7
/-- a transfer: 0 open, 1 where, 2 place, 3 slot, 4 told, 5 toldSize, 6 size, 7 movedSize, 8 turn, 9 its turn, 10 last, 11 lastPiece, 12 pieces, 13 its pieces, 14 due, 15 stage, 16 blockSize, 17 its blockSize, 18 sent, 19 movedAt, 20 blockSent, 21 bytes, 22 moved -/
noncomputable def atr (l : List (((Nat → Int32) × (Nat → Int64)) × Int)) : Bool :=
  let a := an_ l
  let alike := fun n : Int => (List.range n.toNat).all (fun j => decide ((ai_ l 21) j = (ai_ l 22) j))
  let wh := decide (0 ≤ a 2) && decide (bkw[(a 2).toNat]? = some (a 1))
  let dn := wh && (decide (a 3 = a 2) && (awr.contains (a 2).toNat && (decide (a 4 = a 5) && (decide (-1 ≤ a 4) && decide (a 4 ≤ 4294967295)))))
  let up := wh && (decide (a 6 = a 7) && (decide (0 ≤ a 6) && (decide (a 6 ≤ 144) && alike (a 6))))
  let tn := decide (a 8 = a 9) && (decide (a 8 = 0) || decide (a 8 = 1))
  if a 0 = 0 then true
  else if a 0 = 1 then dn && (tn && (decide (a 6 = a 7) && (decide (0 ≤ a 6) && (decide (a 6 ≤ 160) && alike (a 6)))))
  else if a 0 = 2 then dn && (decide (a 12 = a 13) && (decide (0 ≤ a 12) && (decide (a 12 ≤ 24) && (decide (a 10 = a 11) && (decide (0 ≤ a 10) && (decide (a 10 ≤ 7) && (((decide (a 14 = 0) && decide (a 15 = 0)) || (decide (a 14 = 193) && (decide (a 15 = 1) && decide (1 ≤ a 12)))) && alike (7 * a 12))))))))
  else if a 0 = 3 then up && (tn && (decide (a 18 = a 19) && (decide (0 ≤ a 18) && decide (a 18 ≤ a 6))))
  else if a 0 = 4 then up && (decide (7 * a 12 = a 19) && (decide (0 ≤ a 12) && (decide (a 12 ≤ apcs (a 6)) && (decide (a 16 = a 17) && (decide (1 ≤ a 16) && (decide (a 16 ≤ 16) && ((decide (a 14 = 163) && (decide (a 15 = 0) && decide (a 12 = 0))) || ((decide (a 14 = 162) && (decide (a 15 = 1) && (decide (a 18 = a 20) && (decide (0 ≤ a 18) && (decide (a 12 + a 18 ≤ apcs (a 6)) && decide (a 11 = (if a 12 + a 18 = apcs (a 6) then 1 else 0))))))) || (decide (a 14 = 161) && decide (a 15 = 2))))))))))
  else false
/-- the master's job: 0 status, 1 phase, 2 its stage, 3 where, 4 index, 5 sub, 6 turn, 7 its turn, 8 gone, 9 jobAt, 10 pieces, 11 sent, 12 last, 13 jobPiece, 14 jobPlace, 15 size -/
noncomputable def ajb (l : List (((Nat → Int32) × (Nat → Int64)) × Int)) : Bool :=
  let a := an_ l
  let tn := decide (a 6 = a 7) && (decide (a 6 = 0) || decide (a 6 = 1))
  if a 0 = 1 then (decide (a 2 = a 1 + 1) && (decide (0 ≤ a 1) && (decide (a 1 ≤ 10) && (decide (a 3 = a 4 + 65536 * a 5) && (decide (0 ≤ a 4) && (decide (a 4 ≤ 65535) && (decide (0 ≤ a 5) && decide (a 5 ≤ 255)))))))) &&
    (if a 1 = 1 then decide (a 6 = 0) && decide (a 8 = 0)
    else if a 1 = 2 then tn && (decide (a 8 = a 9) && (decide (0 ≤ a 8) && (decide (a 8 ≤ a 15) && decide (a 14 = (if a 8 = a 15 then 1 else 0)))))
    else if a 1 = 3 then decide (a 6 = 0)
    else if a 1 = 4 then tn
    else if a 1 = 5 then decide (a 10 = 0)
    else if a 1 = 6 then decide (7 * a 10 = a 9) && (decide (0 ≤ a 10) && (decide (a 11 = a 13) && (decide (0 ≤ a 11) && (decide (a 10 + a 11 ≤ apcs (a 15)) && decide (a 14 = (if a 10 + a 11 = apcs (a 15) then 1 else 0))))))
    else if a 1 = 8 then decide (a 12 = 0)
    else if a 1 = 9 then decide (a 12 = a 13) && (decide (0 ≤ a 12) && decide (a 12 ≤ 127))
    else true)
  else true
/-- the type's range of an entry's number -/
noncomputable def atyp (s : Nat) (v : Int) : Bool := match (pt_BOOK.getD (5 * s + 1) 0 &&& 15).toInt with
  | 0 => decide (0 ≤ v) && decide (v ≤ 255)
  | 1 => decide (0 ≤ v) && decide (v ≤ 65535)
  | 2 => decide (0 ≤ v) && decide (v ≤ 4294967295)
  | 3 => decide (-128 ≤ v) && decide (v ≤ 127)
  | 4 => decide (-32768 ≤ v) && decide (v ≤ 32767)
  | 5 => decide (-2147483648 ≤ v) && decide (v ≤ 2147483647)
  | _ => false
/-- the status word, of the power state, the network state, the mode and what is so -/
def astatb (pw nt md : Int) (nr t3 l3 s0 t8 go b12 b13 : Bool) : Int :=
  (if pw = 1 then 64 else if pw = 2 then 33 else if pw = 3 then 51 else if pw = 4 then 55 else if pw = 5 then 23 else if pw = 6 then 31 else 8) + (if nt = 5 then 512 else 0) +
  (if pw = 4 then
    (if md = 1 then cond nr 1024 0 + cond b12 4096 0
    else if md = 3 then cond t3 1024 0 + cond l3 2048 0 + cond s0 4096 0
    else if md = 8 then cond t8 5120 4096
    else if md = 6 then cond (!go && s0) 1024 0 + cond b12 4096 0 + cond b13 8192 0
    else if md = -1 then cond (!go && s0) 1024 0 + cond b12 4096 0
    else 0)
  else 0)
/-- an edge of the way, a place cut to the way -/
noncomputable def aedge (g : Nat → Int64) (up : Bool) : Int := if (g 136).toInt < (g 135).toInt then cond up 4000000000 (-4000000000) else cond up (g 136).toInt (g 135).toInt
noncomputable def acut (g : Nat → Int64) (x : Int) : Int := max (if (g 136).toInt < (g 135).toInt then -4000000000 else (g 135).toInt) (min (if (g 136).toInt < (g 135).toInt then 4000000000 else (g 136).toInt) x)
noncomputable def awant (g : Nat → Int64) : Int := 1000 * max (-(g 137).toInt) (min (g 137).toInt (g 154).toInt)
/-- 0 entries, 1 power, 2 network, 3 speed, 4 demand, 5 mode, 6 near, 7 whether homing or a program goes on, 8 bit 12, 9 bit 13 -/
noncomputable def astat (l : List (((Nat → Int32) × (Nat → Int64)) × Int)) : Int :=
  let a := an_ l; let g := al_ l 0
  astatb (a 1) (a 2) (a 5) (decide (1 ≤ a 6) && decide ((g 129).toInt ≤ a 6)) (decide (a 3 = awant g)) (!(decide (awant g = 0)) && (decide (a 3 = 0) && decide (a 4 = 1000000 * aedge g (decide (0 < awant g))))) (decide (a 3 = 0)) (decide (a 3 = 0) && decide (a 4 = 1000000 * acut g (g 132).toInt)) (!(decide (a 7 = 0))) (!(decide (a 8 = 0))) (!(decide (a 9 = 0)))
/-- what goes out of an entry: as astat, then 10 shaft, 11 moved, 12 inputs, 13 held, 14 register, 15 code, 16 - 18 the probe's -/
noncomputable def avo (l : List (((Nat → Int32) × (Nat → Int64)) × Int)) (s : Int) : Int :=
  let a := an_ l; let g := al_ l 0
  if s = 1 then a 14 else if s = 114 then a 15 else if s = 116 then astat l else if s = 123 then a 5
  else if s = 124 then Int.bmod (a 4 / 1000000) 4294967296 else if s = 125 then Int.bmod (a 10 / 1000000) 4294967296
  else if s = 130 then Int.bmod (Int.tdiv (a 3) 1000) 4294967296 else if s = 131 then Int.bmod (Int.tdiv (a 11) 1000) 4294967296
  else if s = 148 then a 16 + (if a 16 % 2 = 1 then 0 else (g 147).toInt % 2) else if s = 149 then a 17 else if s = 150 then a 18
  else if s = 151 then a 12 + 65536 * a 13 else 0
/-- what a map sends -/
noncomputable def aout (l : List (((Nat → Int32) × (Nat → Int64)) × Int)) (m : Nat) : Int :=
  Int.bmod ((List.range 4).foldl (fun (s : Int × Nat) i => (s.1 + (avo l (mslot (mrow (al_ l 0) m i)) % 2 ^ (mrow (al_ l 0) m i % 256).toNat) * 2 ^ s.2, s.2 + (mrow (al_ l 0) m i % 256).toNat)) (0, 0)).1 18446744073709551616
/-- entries that can't be written in state 4 -/
def axx : List Nat := [112, 133, 135, 136, 137]
/-- bit n of an int -/
noncomputable def abit (x : Int) (n : Nat) : Bool := (Int32.ofInt x).toBitVec.getLsbD n
/-- the bits of a map -/
noncomputable def amsum (g : Nat → Int64) (m : Nat) : Int := ((List.range 4).map (fun i => mrow g m i % 256)).sum
/-- process data that comes in, of one k: entries, slots, widths, whether it begins anew, bits, waits, the model's, awaited, the model's -/
noncomputable def apin (g : Nat → Int64) (s w : Nat → Int32) (k : Nat) (b : Bool) (bits wt hs aw ma : Int) : Bool :=
  cond b (decide (hs = 0) && decide (ma = 0)) ((decide (hs = wt) && decide (ma = aw)) && (decide (g (35 + 4 * k) &&& 2147483648 = 0) && ((decide (wt = 0) || decide (g (36 + 4 * k) < 254)) && (amapm g (50 + 5 * k) (4 * k) s w && decide (bits = amsum g (50 + 5 * k))))))
/-- ... that goes out: sent, the model's, syncs, the model's -/
noncomputable def apou (g : Nat → Int64) (s w : Nat → Int32) (k : Nat) (b : Bool) (bits st hs sy ms : Int) : Bool :=
  cond b (decide (hs = 0) && decide (ms = 0)) ((decide (hs = st) && decide (ms = sy)) && (amapm g (90 + 5 * k) (4 * k) s w && decide (bits = amsum g (90 + 5 * k))))
/-- a heartbeat that is awaited -/
noncomputable def apaw (g : Nat → Int64) (i : Nat) (b : Bool) (aw ma : Int) : Bool :=
  cond b (decide (ma = 0)) (decide (ma = aw) && (decide (aw = 0) || (decide ((0 : Int64) < (s2 .lushr (0, g (21 + i)) (16, 0)).2) && decide ((0 : Int64) < g (21 + i) &&& 65535))))
/-- what begins anew, and what both keep of process data and heartbeats: 0 entries, 1 anew, 2 - 5 slots and widths in, out; 6 - 9 bits in, 10 - 13 out; 14 waits, 18 the model's, 22 awaited, 26 the model's, 30 sent, 34 the model's, 38 syncs, 42 the model's (four each), 46 heartbeats awaited, 48 the model's -/
noncomputable def apall (l : List (((Nat → Int32) × (Nat → Int64)) × Int)) : Bool :=
  let a := an_ l
  (List.range 4).all (fun k => apin (al_ l 0) (ai_ l 2) (ai_ l 3) k (abit (a 1) (8 + k)) (a (6 + k)) (a (14 + k)) (a (18 + k)) (a (22 + k)) (a (26 + k)) && apou (al_ l 0) (ai_ l 4) (ai_ l 5) k (abit (a 1) (12 + k)) (a (10 + k)) (a (30 + k)) (a (34 + k)) (a (38 + k)) (a (42 + k))) && (List.range 2).all (fun i => apaw (al_ l 0) i (abit (a 1) (2 + i)) (a (46 + i)) (a (48 + i)))
/-- whether the p-th entry is the one that a row of a map names -/
noncomputable def amok (fl : Int32) (v : Int) (p : Nat) : Bool := decide ((pt_BOOK.getD (5 * p) 0).toInt = v / 256) && !(decide (pt_BOOK.getD (5 * p + 1) 0 &&& fl = 0))
/-- what is wrong with a map whose first n rows count -/
noncomputable def amcode (g : Nat → Int64) (m n : Nat) : Int := if (List.range n).all (fun i => !(decide ((g (m + 1 + i)).toInt = 0))) = true then (if ((List.range n).map (fun i => (g (m + 1 + i)).toInt % 256)).sum ≤ 64 then 0 else 100925506) else 100925505
/-- the first n rows of a map as they are read: slots and widths from at_ on, the sum of the widths -/
noncomputable def amapn (g : Nat → Int64) (m at_ n : Nat) (s w : Nat → Int32) (b : Int) : Bool := (List.range n).all (fun j => decide ((s (at_ + j)).toInt = mslot (mrow g m j)) && decide ((w (at_ + j)).toInt = mrow g m j % 256)) && decide (b = ((List.range n).map (fun j => mrow g m j % 256)).sum)
/-- as apall, but for the part in of the map whose rows begin at i, the part out at o -/
noncomputable def apalX (i o : Int) (l : List (((Nat → Int32) × (Nat → Int64)) × Int)) : Bool :=
  let a := an_ l
  (List.range 4).all (fun k => (decide ((4 * k : Int) = i) || apin (al_ l 0) (ai_ l 2) (ai_ l 3) k (abit (a 1) (8 + k)) (a (6 + k)) (a (14 + k)) (a (18 + k)) (a (22 + k)) (a (26 + k))) && (decide ((4 * k : Int) = o) || apou (al_ l 0) (ai_ l 4) (ai_ l 5) k (abit (a 1) (12 + k)) (a (10 + k)) (a (30 + k)) (a (34 + k)) (a (38 + k)) (a (42 + k)))) && (List.range 2).all (fun i => apaw (al_ l 0) i (abit (a 1) (2 + i)) (a (46 + i)) (a (48 + i)))
/-- what the first n rows of a map send: a sum, and its bits -/
noncomputable def aoutn (l : List (((Nat → Int32) × (Nat → Int64)) × Int)) (m n : Nat) : Int × Nat := (List.range n).foldl (fun (s : Int × Nat) i => (s.1 + (avo l (mslot (mrow (al_ l 0) m i)) % 2 ^ (mrow (al_ l 0) m i % 256).toNat) * 2 ^ s.2, s.2 + (mrow (al_ l 0) m i % 256).toNat)) (0, 0)
/-- the entries that are kept: the slot, and how many bytes it has (9 the text, 10 the program) -/
def agk : List (Nat × Nat) := [(11, 4), (12, 4), (19, 2), (21, 4), (22, 4), (23, 2), (30, 1), (35, 4), (36, 1), (37, 2), (39, 4), (40, 1), (41, 2), (43, 4), (44, 1), (45, 2), (47, 4), (48, 1), (49, 2), (50, 1), (51, 4), (52, 4), (53, 4), (54, 4), (55, 1), (56, 4), (57, 4), (58, 4), (59, 4), (60, 1), (61, 4), (62, 4), (63, 4), (64, 4), (65, 1), (66, 4), (67, 4), (68, 4), (69, 4), (71, 4), (72, 1), (73, 2), (74, 2), (76, 4), (77, 1), (78, 2), (79, 2), (81, 4), (82, 1), (83, 2), (84, 2), (86, 4), (87, 1), (88, 2), (89, 2), (90, 1), (91, 4), (92, 4), (93, 4), (94, 4), (95, 1), (96, 4), (97, 4), (98, 4), (99, 4), (100, 1), (101, 4), (102, 4), (103, 4), (104, 4), (105, 1), (106, 4), (107, 4), (108, 4), (109, 4), (110, 9), (112, 10), (113, 1), (117, 2), (118, 2), (119, 2), (120, 2), (121, 2), (122, 1), (126, 4), (127, 2), (128, 4), (129, 2), (133, 4), (135, 4), (136, 4), (137, 4), (138, 4), (139, 4), (140, 4), (141, 4), (142, 1), (144, 4), (145, 4), (146, 4), (147, 2)]
/-- the image of one entry, of the first n: how many bytes, and these -/
noncomputable def aimg1 (g : Nat → Int64) (t : Nat → Int32) (ts : Int) (p : Nat → Int32) (ps : Int) (q : Nat × Nat) : List Int := if q.2 = 9 then ts :: (List.range ts.toNat).map (fun j => (t j).toInt) else if q.2 = 10 then ps :: (List.range ps.toNat).map (fun j => (p j).toInt) else (q.2 : Int) :: (List.range q.2).map (fun j => (g q.1).toInt / 256 ^ j % 256)
noncomputable def aimg (g : Nat → Int64) (t : Nat → Int32) (ts : Int) (p : Nat → Int32) (ps : Int) (n : Nat) : List Int := (agk.take n).flatMap (aimg1 g t ts p ps)
/-- a row holds them from the eighth place on -/
noncomputable def aimgb (im : Nat → Int32) (l : List Int) : Bool := (List.range l.length).all (fun j => decide ((im (8 + j)).toInt = l.getD j 0))
/-- a whole image: a number, the entries, the sum -/
noncomputable def aimga (im : Nat → Int32) (l : List Int) (nu : Int) : Bool := (decide ((im 0).toInt = 165) && (decide ((im 1).toInt = 90) && (List.range 4).all (fun j => decide ((im (2 + j)).toInt = nu / 256 ^ j % 256)))) && ((decide ((im 6).toInt = ((l.length : Int) + 10) % 256) && decide ((im 7).toInt = ((l.length : Int) + 10) / 256)) && (aimgb im l && (decide ((im (8 + l.length)).toInt = (acrc im (8 + l.length)).toInt % 256) && decide ((im (9 + l.length)).toInt = (acrc im (8 + l.length)).toInt / 256))))
/-- the code of the latest of n -/
noncomputable def alast (f : Nat → Int32) (n : Int) : Int := if n ≤ 0 then 0 else (f (n - 1).toNat).toInt
/-- what an entry is at first, of the d-th drive -/
noncomputable def afst (d : Int) (p : Nat) : Int := if (pt_BOOK.getD (5 * p + 1) 0 &&& 15).toInt = 2 then ((pt_BOOK.getD (5 * p + 2) 0).toInt + (if pt_BOOK.getD (5 * p + 1) 0 &&& 1024 = 0 then 0 else d + 1)) % 4294967296 else (pt_BOOK.getD (5 * p + 2) 0).toInt + (if pt_BOOK.getD (5 * p + 1) 0 &&& 1024 = 0 then 0 else d + 1)
/-- the maps, as the class goes over them and as the model does -/
def amps : List Nat := [50, 55, 60, 65, 90, 95, 100, 105]
def ampm : List Nat := [50, 90, 55, 95, 60, 100, 65, 105]
/-- the entries, when the first n maps are mended -/
noncomputable def amnd (g : Nat → Int64) (d : Int) (n : Nat) (j : Nat) : Int := match (amps.take n).find? (fun m => decide (m ≤ j) && decide (j < m + 5)) with
  | some m => if amcode g m (g m).toInt.toNat = 0 then (g j).toInt else afst d j
  | none => (g j).toInt
/-- conditions by name, from the hundredth on: of arrays and numbers -/
noncomputable def apred (k : Nat) (l : List (((Nat → Int32) × (Nat → Int64)) × Int)) (n : Int) : Bool := match k, l with
  | 100, f :: _ => al6 f.1.1 n
  | 101, f :: _ => evall f.1.2
  | 102, p :: f :: g :: _ => aring f.1.1 g.1.1 p.2 n
  | 103, f :: g :: _ => (List.range n.toNat).all (fun j => decide (f.1.1 j = g.1.1 j))
  | 104, p :: e :: f :: _ => decide (p.2 = (areg f.1.1 n : Nat)) && decide (e.2 = alast f.1.1 n)
  | 105, w :: _ => decide (0 ≤ n) && decide (bkw[n.toNat]? = some w.2)
  | 106, p :: f :: g :: _ => (List.range n.toNat).all (fun j => decide (f.1.1 (p.2.toNat + j) = g.1.1 j))
  | 107, p :: f :: g :: _ => (List.range n.toNat).all (fun j => decide (f.1.2 (p.2.toNat + j) = g.1.2 j))
  | 108, f :: m :: r => amap f.1.2 m.2.toNat (r.map (fun q => q.2)) n
  | 109, i :: j :: _ => decide (n = aslot i.2 j.2)
  | 112, p :: f :: q :: g :: _ => (List.range n.toNat).all (fun j => decide (f.1.1 (p.2.toNat + j) = g.1.1 (q.2.toNat + j)))
  | 113, p :: f :: q :: g :: _ => (List.range n.toNat).all (fun j => decide (f.1.2 (p.2.toNat + j) = g.1.2 (q.2.toNat + j)))
  | 114, r :: f :: _ => decide (r.2 = (acrc f.1.1 n.toNat).toInt)
  | 115, f :: _ => decide (n = (if acounts f.1.1 = true then 1 else 0))
  | 116, b :: m :: f :: s :: w :: _ => amapk f.1.2 m.2.toNat n.toNat s.1.1 w.1.1 b.2
  | 117, x :: _ => decide (x.2 % 18446744073709551616 < 2 ^ n.toNat)
  | 118, p :: f :: _ => decide (awalk f.1.1 (alen f.1.1 - 2) (aks.take n.toNat) 8 = some p.2)
  | 119, r :: b :: s :: f :: _ => decide (r.2 = (f.1.2 (b.2 + 5 * n + s.2).toNat).toInt)
  | 120, l => apdi l n.toNat
  | 121, l => atr l
  | 122, l => ajb l
  | 123, l => apdo l n.toNat
  | 124, l => apda l n.toNat
  | 126, l => apdm l n.toNat
  | 128, l => apdb l
  | 129, s :: _ => evk s.2.toNat n
  | 130, s :: _ => atyp s.2.toNat n
  | 131, s :: v :: _ => decide (n = (if evs s.2.toNat v.2 = true then 1 else 0))
  | 132, l => decide (n = astat l)
  | 133, s :: l => decide (n = avo l s.2)
  | 134, m :: l => decide (n = aout l m.2.toNat)
  | 135, s :: _ => decide (0 ≤ s.2) && (awr.contains s.2.toNat && decide ((pt_BOOK.getD (5 * s.2.toNat + 1) 0 &&& 15).toInt = n))
  | 136, s :: _ => !(axx.contains s.2.toNat) || !(decide (n = 4))
  | 137, l => apall l
  | 139, f :: m :: v :: _ => decide (n = amcode f.1.2 m.2.toNat v.2.toNat)
  | 138, f :: v :: _ => (List.range n.toNat).all (fun p => !(amok (Int32.ofInt f.2) v.2 p))
  | 140, f :: m :: s :: w :: a :: b :: _ => amapn f.1.2 m.2.toNat a.2.toNat n.toNat s.1.1 w.1.1 b.2
  | 141, l => apalX n 100 l && (decide (n % 4 = 0) && (decide (0 ≤ n) && decide (n ≤ 12)))
  | 142, l => apalX 100 n l && (decide (n % 4 = 0) && (decide (0 ≤ n) && decide (n ≤ 12)))
  | 143, f :: m :: _ => decide (n = amsum f.1.2 m.2.toNat)
  | 144, m :: i :: t :: l => decide (n = Int.bmod (aoutn l m.2.toNat i.2.toNat).1 18446744073709551616) && decide (t.2 = (aoutn l m.2.toNat i.2.toNat).2)
  | 145, f :: m :: s :: w :: a :: _ => amapm f.1.2 m.2.toNat a.2.toNat s.1.1 w.1.1
  | 146, f :: m :: i :: _ => decide (n = mrow f.1.2 m.2.toNat i.2.toNat)
  | 147, g :: t :: ts :: p :: ps :: im :: sz :: _ => decide (sz.2 = 8 + ((aimg g.1.2 t.1.1 ts.2 p.1.1 ps.2 n.toNat).length : Int)) && aimgb im.1.1 (aimg g.1.2 t.1.1 ts.2 p.1.1 ps.2 n.toNat)
  | 148, g :: t :: ts :: p :: ps :: im :: nu :: _ => decide (n = 10 + ((aimg g.1.2 t.1.1 ts.2 p.1.1 ps.2 agk.length).length : Int)) && aimga im.1.1 (aimg g.1.2 t.1.1 ts.2 p.1.1 ps.2 agk.length) nu.2
  | 152, f :: _ => decide ((f.1.1 0).toInt = 165) && (decide ((f.1.1 1).toInt = 90) && (decide (11 ≤ alen f.1.1) && (decide (alen f.1.1 ≤ 1024) && decide (n = alen f.1.1 - 2))))
  | 153, f :: _ => decide ((acrc f.1.1 n.toNat).toInt = (f.1.1 n.toNat).toInt + 256 * (f.1.1 (n.toNat + 1)).toInt)
  | 149, f :: _ => decide (n = abno f.1.1)
  | 150, f :: g :: _ => decide (n = abest f.1.1 g.1.1)
  | 127, f :: g :: _ => (List.range 16).all (fun j => if (j : Int) < n ∨ n + 4 ≤ (j : Int) then decide (f.1.1 j = g.1.1 j) else true)
  | 151, g :: m :: _ => decide (n = amcode g.1.2 m.2.toNat (g.1.2 m.2.toNat).toInt.toNat)
  | 154, g :: d :: _ => (List.range n.toNat).all (fun j => decide ((g.1.2 j).toInt = afst d.2 j))
  | 155, g :: _ => (List.range 156).all (fun j => decide ((j : Int) < n) || evk j (g.1.2 j).toInt)
  | 156, f :: g :: _ => (List.range 156).all (fun j => decide (j = 1) || decide (f.1.2 j = g.1.2 j))
  | 157, f :: g :: d :: _ => (List.range 156).all (fun j => decide (j = 1) || decide ((f.1.2 j).toInt = amnd g.1.2 d.2 n.toNat j))
  | 158, g :: _ => (ampm.take n.toNat).all (fun m => decide (amcode g.1.2 m (g.1.2 m).toInt.toNat = 0))
  | 159, f :: g :: _ => (List.range 156).all (fun j => decide ((j : Int) < n) || decide (f.1.2 j = g.1.2 j))
  | _, _ => false
/-- the number of a term: an int's or a long's -/
noncomputable def sn (X : pX) (ρ : sR) (t : sT) : Int := if sk t = 1 then (sd X ρ t).2.toInt else (sd X ρ t).1.toInt
noncomputable def sc (X : pX) (ρ : sR) (c : sQ) : Bool := match c.1 with
  | 0 => decide ((sd X ρ c.2.1).1 = (sd X ρ c.2.2).1)
  | 2 => decide ((sd X ρ c.2.1).1 < (sd X ρ c.2.2).1)
  | 6 => decide ((sd X ρ c.2.1).2 = (sd X ρ c.2.2).2)
  | 8 => decide ((sd X ρ c.2.1).2 < (sd X ρ c.2.2).2)
  | k => Nat.ble 100 k && apred k (aits X ρ c.2.1) (sn X ρ c.2.2)
/-- below the hundredth the numbers alone count -/
theorem sc_sd {X : pX} {ρ1 ρ2 : sR} {k : Nat} {a b a' b' : sT} (hk : k < 100) (ha : sd X ρ1 a = sd X ρ2 a') (hb : sd X ρ1 b = sd X ρ2 b') : sc X ρ1 (k, a, b) = sc X ρ2 (k, a', b') := by
  unfold sc
  dsimp only
  rw [ha, hb]
  split
  · rfl
  · rfl
  · rfl
  · rfl
  · have e : Nat.ble 100 k = false := by
      cases h : Nat.ble 100 k with
      | false => rfl
      | true => exact absurd (Nat.le_of_ble_eq_true h) (by omega)
    simp only [e, Bool.false_and]
theorem sc_arr {X : pX} {ρ1 ρ2 : sR} {k : Nat} {a b : sT} (ha : sd X ρ1 a = sd X ρ2 a) (hb : sd X ρ1 b = sd X ρ2 b) (hr : aits X ρ1 a = aits X ρ2 a) : sc X ρ1 (k, a, b) = sc X ρ2 (k, a, b) := by
  unfold sc sn
  dsimp only
  rw [ha, hb, hr]
abbrev sFs : Type := List (sQ × Bool)
noncomputable def fall (X : pX) (ρ : sR) (F : sFs) : Prop := ∀ f ∈ F, sc X ρ f.1 = f.2
noncomputable def sfull (t : sT) : Int × Int := if sk t = 1 then (-9223372036854775808, 9223372036854775807) else (-2147483648, 2147483647)
theorem sfull_ok (X : pX) (ρ : sR) (t : sT) : (sfull t).1 ≤ sn X ρ t ∧ sn X ρ t ≤ (sfull t).2 := by
  unfold sfull sn
  split
  · exact ⟨Int64.le_toInt _, Int.le_of_lt_add_one (Int64.toInt_lt _)⟩
  · exact ⟨Int32.le_toInt _, Int.le_of_lt_add_one (Int32.toInt_lt _)⟩
/-- variables from the thousandth on lie between numbers, by their own number -/
noncomputable def vrngO (i : Nat) : Option (Int × Int) := if i < 1000 then none else match (i / 2) % 16 with
  | 1 => some (0, 1)
  | 2 => some (0, 255)
  | 3 => some (0, 8)
  | 4 => some (0, 16)
  | 5 => some (0, 24)
  | 6 => some (0, 160)
  | 7 => some (-1, 3)
  | 8 => some (0, 65535)
  | 9 => some (0, 144)
  | 10 => some (0, 31)
  | 11 => some (0, 32)
  | 12 => some (0, 16777215)
  | 13 => some (0, 1024)
  | 14 => some (0, 3)
  | 15 => some (0, 4)
  | _ => none
noncomputable def vrT (k : Nat) : Option (Int × Int) := (@Bool.rec (fun _ => Option (Int × Int)) (@Bool.rec (fun _ => Option (Int × Int)) (@Bool.rec (fun _ => Option (Int × Int)) (@Bool.rec (fun _ => Option (Int × Int)) (some (Int.ofNat 0, Int.ofNat 4)) (some (Int.ofNat 0, Int.ofNat 3)) (Nat.ble k 14)) (@Bool.rec (fun _ => Option (Int × Int)) (some (Int.ofNat 0, Int.ofNat 1024)) (some (Int.ofNat 0, Int.ofNat 16777215)) (Nat.ble k 12)) (Nat.ble k 13)) (@Bool.rec (fun _ => Option (Int × Int)) (@Bool.rec (fun _ => Option (Int × Int)) (some (Int.ofNat 0, Int.ofNat 32)) (some (Int.ofNat 0, Int.ofNat 31)) (Nat.ble k 10)) (@Bool.rec (fun _ => Option (Int × Int)) (some (Int.ofNat 0, Int.ofNat 144)) (some (Int.ofNat 0, Int.ofNat 65535)) (Nat.ble k 8)) (Nat.ble k 9)) (Nat.ble k 11)) (@Bool.rec (fun _ => Option (Int × Int)) (@Bool.rec (fun _ => Option (Int × Int)) (@Bool.rec (fun _ => Option (Int × Int)) (some (Int.negSucc 0, Int.ofNat 3)) (some (Int.ofNat 0, Int.ofNat 160)) (Nat.ble k 6)) (@Bool.rec (fun _ => Option (Int × Int)) (some (Int.ofNat 0, Int.ofNat 24)) (some (Int.ofNat 0, Int.ofNat 16)) (Nat.ble k 4)) (Nat.ble k 5)) (@Bool.rec (fun _ => Option (Int × Int)) (@Bool.rec (fun _ => Option (Int × Int)) (some (Int.ofNat 0, Int.ofNat 8)) (some (Int.ofNat 0, Int.ofNat 255)) (Nat.ble k 2)) (@Bool.rec (fun _ => Option (Int × Int)) (some (Int.ofNat 0, Int.ofNat 1)) (none) (Nat.ble k 0)) (Nat.ble k 1)) (Nat.ble k 3)) (Nat.ble k 7))
noncomputable def vrng (i : Nat) : Option (Int × Int) := @Bool.rec (fun _ => Option (Int × Int)) none (vrT (Nat.mod (Nat.div i 2) 16)) (Nat.ble 1000 i)
theorem vrng_def (i : Nat) : vrng i = vrngO i := by
  unfold vrng vrngO
  cases h : Nat.ble 1000 i with
  | false => rw [if_pos (by rcases Nat.lt_or_ge i 1000 with q | q; (· exact q); rw [Nat.ble_eq.mpr q] at h; cases h)]
  | true =>
    have h1 := Nat.le_of_ble_eq_true h
    rw [if_neg (by omega)]
    show vrT (i / 2 % 16) = _
    have hk : i / 2 % 16 < 16 := Nat.mod_lt _ (by decide)
    generalize i / 2 % 16 = k at hk
    rcases (show k = 0 ∨ k = 1 ∨ k = 2 ∨ k = 3 ∨ k = 4 ∨ k = 5 ∨ k = 6 ∨ k = 7 ∨ k = 8 ∨ k = 9 ∨ k = 10 ∨ k = 11 ∨ k = 12 ∨ k = 13 ∨ k = 14 ∨ k = 15 by omega) with e | e | e | e | e | e | e | e | e | e | e | e | e | e | e | e <;> subst e <;> rfl
noncomputable def vok (X : pX) (ρ : sR) : Prop := (∀ (i : Nat) (r : Int × Int), vrng i = some r → r.1 ≤ sn X ρ (.arg i) ∧ sn X ρ (.arg i) ≤ r.2) ∧ ∀ (a : Nat) (t : sT) (r : Int × Int), vrng a = some r → r.1 ≤ sn X ρ (.elem (.arg a) t) ∧ sn X ρ (.elem (.arg a) t) ≤ r.2
noncomputable def fok (X : pX) (ρ : sR) (F : sFs) : Prop := vok X ρ ∧ fall X ρ F
noncomputable def sbas (t : sT) : Int × Int := match t with
  | .arg i => (vrng i).getD (sfull t)
  | .elem (.arg a) _ => (vrng a).getD (sfull t)
  | t => sfull t
theorem sbas_ok {X : pX} {ρ : sR} (h : vok X ρ) (t : sT) : (sbas t).1 ≤ sn X ρ t ∧ sn X ρ t ≤ (sbas t).2 := by
  unfold sbas
  split
  · next i =>
    cases hr : vrng i with
    | none => exact sfull_ok X ρ _
    | some r => exact h.1 i r hr
  · next a u =>
    cases hr : vrng a with
    | none => exact sfull_ok X ρ _
    | some r => exact h.2 a u r hr
  · exact sfull_ok X ρ _
noncomputable def sC2 (t : sT) : Option Int := @Jvm.Term.rec (fun _ => Option Int) (fun _ => none) (fun v => some v.toInt) (fun v => some v.toInt) (none) (fun _ => none) (fun _ _ _ _ _ => none) (fun _ _ _ => none) (fun _ _ => none) (fun _ => none) (fun _ _ => none) (fun _ _ _ _ => none) (fun _ _ _ _ => none) (fun _ _ _ _ => none) (fun _ _ _ _ => none) (fun _ _ _ _ => none) (fun _ _ _ _ => none) (fun _ _ _ _ _ => none) (fun _ _ _ => none) (fun _ _ => none) (none) (none) (fun _ _ => none) t
theorem sC2_ok {X : pX} {ρ : sR} {t : sT} {z : Int} (h : sC2 t = some z) : sn X ρ t = z := by
  cases t <;> first | (cases h; done) | (cases h; rfl)
/-- a number that tells terms apart at a glance -/
noncomputable def thd0 (t : sT) : Nat := @Jvm.Term.rec (fun _ => Nat) (fun i => Nat.add (Nat.mul 8 i) 1) (fun v => Nat.add (Nat.mul 8 v.toBitVec.toNat) 2) (fun v => Nat.add (Nat.mul 8 v.toBitVec.toNat) 3) (0) (fun k => Nat.add (Nat.mul 64 k) 24) (fun _ _ _ _ _ => 0) (fun _ _ _ => 0) (fun _ _ => 0) (fun _ => 0) (fun _ _ => 0) (fun _ _ _ _ => 4) (fun _ _ _ _ => 5) (fun _ _ _ _ => 8) (fun _ _ _ _ => 16) (fun _ _ _ _ => 0) (fun _ _ _ _ => 0) (fun _ _ _ _ _ => 6) (fun _ _ _ => 7) (fun _ _ => 0) (0) (0) (fun _ _ => 0) t
noncomputable def thd1 (t : sT) : Nat := @Jvm.Term.rec (fun _ => Nat) (fun i => Nat.add (Nat.mul 8 i) 1) (fun v => Nat.add (Nat.mul 8 v.toBitVec.toNat) 2) (fun v => Nat.add (Nat.mul 8 v.toBitVec.toNat) 3) (0) (fun k => Nat.add (Nat.mul 64 k) 24) (fun _ _ _ _ _ => 0) (fun _ _ _ => 0) (fun _ _ => 0) (fun _ => 0) (fun _ _ => 0) (fun _ i _ _ => Nat.add (Nat.mul 8 (thd0 i)) 4) (fun a _ _ _ => Nat.add (Nat.mul 8 (thd0 a)) 5) (fun _ _ _ _ => 8) (fun _ _ _ _ => 16) (fun _ _ _ _ => 0) (fun _ _ _ _ => 0) (fun _ a _ _ _ => Nat.add (Nat.mul 8 (thd0 a)) 6) (fun _ a _ => Nat.add (Nat.mul 8 (thd0 a)) 7) (fun _ _ => 0) (0) (0) (fun _ _ => 0) t
noncomputable def thd (t : sT) : Nat := @Jvm.Term.rec (fun _ => Nat) (fun i => Nat.add (Nat.mul 8 i) 1) (fun v => Nat.add (Nat.mul 8 v.toBitVec.toNat) 2) (fun v => Nat.add (Nat.mul 8 v.toBitVec.toNat) 3) (0) (fun k => Nat.add (Nat.mul 64 k) 24) (fun _ _ _ _ _ => 0) (fun _ _ _ => 0) (fun _ _ => 0) (fun _ => 0) (fun _ _ => 0) (fun _ i _ _ => Nat.add (Nat.mul 8 (thd1 i)) 4) (fun a _ _ _ => Nat.add (Nat.mul 8 (thd1 a)) 5) (fun _ _ _ _ => 8) (fun _ _ _ _ => 16) (fun _ _ _ _ => 0) (fun _ _ _ _ => 0) (fun _ a _ _ _ => Nat.add (Nat.mul 8 (thd1 a)) 6) (fun _ a _ => Nat.add (Nat.mul 8 (thd1 a)) 7) (fun _ _ => 0) (0) (0) (fun _ _ => 0) t
noncomputable def ttag (t : sT) : Nat := @Jvm.Term.rec (fun _ => Nat) (fun _ => 0) (fun _ => 1) (fun _ => 2) (3) (fun _ => 4) (fun _ _ _ _ _ => 5) (fun _ _ _ => 6) (fun _ _ => 7) (fun _ => 8) (fun _ _ => 9) (fun _ _ _ _ => 10) (fun _ _ _ _ => 11) (fun _ _ _ _ => 12) (fun _ _ _ _ => 13) (fun _ _ _ _ => 14) (fun _ _ _ _ => 15) (fun _ _ _ _ _ => 16) (fun _ _ _ => 17) (fun _ _ => 18) (19) (20) (fun _ _ => 21) t
noncomputable def tp1 (t : sT) : sT := @Jvm.Term.rec (fun _ => sT) (fun _ => .null) (fun _ => .null) (fun _ => .null) (.null) (fun _ => .null) (fun _ _ _ _ _ => .null) (fun _ _ _ => .null) (fun _ _ => .null) (fun _ => .null) (fun t _ => t) (fun t _ _ _ => t) (fun a _ _ _ => a) (fun a _ _ _ => a) (fun a _ _ _ => a) (fun a _ _ _ => a) (fun a _ _ _ => a) (fun _ a _ _ _ => a) (fun _ a _ => a) (fun _ _ => .null) (.null) (.null) (fun t _ => t) t
noncomputable def tp2 (t : sT) : sT := @Jvm.Term.rec (fun _ => sT) (fun _ => .null) (fun _ => .null) (fun _ => .null) (.null) (fun _ => .null) (fun _ _ _ _ _ => .null) (fun _ _ _ => .null) (fun _ _ => .null) (fun _ => .null) (fun _ _ => .null) (fun _ i _ _ => i) (fun _ b _ _ => b) (fun _ b _ _ => b) (fun _ b _ _ => b) (fun _ b _ _ => b) (fun _ b _ _ => b) (fun _ _ b _ _ => b) (fun _ _ _ => .null) (fun _ _ => .null) (.null) (.null) (fun _ _ => .null) t
noncomputable def tpn (t : sT) : Nat := @Jvm.Term.rec (fun _ => Nat) (fun i => i) (fun v => v.toBitVec.toNat) (fun v => v.toBitVec.toNat) (0) (fun k => k) (fun _ _ _ _ _ => 0) (fun _ _ _ => 0) (fun _ i => i) (fun _ => 0) (fun _ _ => 0) (fun _ _ _ _ => 0) (fun _ _ _ _ => 0) (fun _ _ _ _ => 0) (fun _ _ _ _ => 0) (fun _ _ _ _ => 0) (fun _ _ _ _ => 0) (fun _ _ _ _ _ => 0) (fun _ _ _ => 0) (fun _ _ => 0) (0) (0) (fun _ _ => 0) t
noncomputable def bix (o : Binary) : Nat := @Jvm.Binary.rec (fun _ => Nat) (0) (1) (2) (3) (4) (5) (6) (7) (8) (9) (10) (11) (12) (13) (14) (15) (16) (17) (18) (19) (20) (21) (22) (23) (24) (25) (26) (27) (28) (29) (30) (31) o
noncomputable def uix (o : Unary) : Nat := @Jvm.Unary.rec (fun _ => Nat) (0) (1) (2) (3) (4) (5) (6) (7) (8) (9) (10) (11) (12) (13) (14) (15) (16) (17) (18) (19) (20) o
noncomputable def tpo (t : sT) : Nat := @Jvm.Term.rec (fun _ => Nat) (fun _ => 0) (fun _ => 0) (fun _ => 0) (0) (fun _ => 0) (fun _ _ _ _ _ => 0) (fun _ _ _ => 0) (fun _ _ => 0) (fun _ => 0) (fun _ _ => 0) (fun _ _ _ _ => 0) (fun _ _ _ _ => 0) (fun _ _ _ _ => 0) (fun _ _ _ _ => 0) (fun _ _ _ _ => 0) (fun _ _ _ _ => 0) (fun o _ _ _ _ => bix o) (fun o _ _ => uix o) (fun _ _ => 0) (0) (0) (fun _ _ => 0) t
theorem bix_inj : ∀ a b : Binary, bix a = bix b → a = b := by intro a b h; cases a <;> cases b <;> first | rfl | (exact absurd h (by decide))
theorem uix_inj : ∀ a b : Unary, uix a = uix b → a = b := by intro a b h; cases a <;> cases b <;> first | rfl | (exact absurd h (by decide))
noncomputable def tstr (c : String) (i : Nat) (y : sT) : Bool := match y with
  | .string d j => Nat.beq i j && decide (c = d)
  | _ => false
noncomputable def tqr (x y : sT) : Bool := @Jvm.Term.rec (fun _ => sT → Bool) (fun i y => Nat.beq (ttag y) 0 && Nat.beq (i) (tpn y)) (fun v y => Nat.beq (ttag y) 1 && Nat.beq (v.toBitVec.toNat) (tpn y)) (fun v y => Nat.beq (ttag y) 2 && Nat.beq (v.toBitVec.toNat) (tpn y)) (fun y => Nat.beq (ttag y) 3) (fun k y => Nat.beq (ttag y) 4 && Nat.beq (k) (tpn y)) (fun _ _ _ _ _ _ => false) (fun _ _ _ _ => false) (fun c i y => Nat.beq (ttag y) 7 && tstr c i y) (fun _ _ => false) (fun _ ht y => Nat.beq (ttag y) 9 && ht (tp1 y)) (fun _ _ ht hi y => Nat.beq (ttag y) 10 && (hi (tp2 y) && ht (tp1 y))) (fun _ _ ha hb y => Nat.beq (ttag y) 11 && (hb (tp2 y) && ha (tp1 y))) (fun _ _ ha hb y => Nat.beq (ttag y) 12 && (hb (tp2 y) && ha (tp1 y))) (fun _ _ ha hb y => Nat.beq (ttag y) 13 && (hb (tp2 y) && ha (tp1 y))) (fun _ _ ha hb y => Nat.beq (ttag y) 14 && (hb (tp2 y) && ha (tp1 y))) (fun _ _ ha hb y => Nat.beq (ttag y) 15 && (hb (tp2 y) && ha (tp1 y))) (fun o _ _ ha hb y => Nat.beq (ttag y) 16 && (Nat.beq (bix o) (tpo y) && (ha (tp1 y) && hb (tp2 y)))) (fun o _ ha y => Nat.beq (ttag y) 17 && (Nat.beq (uix o) (tpo y) && ha (tp1 y))) (fun _ _ _ => false) (fun _ => false) (fun _ => false) (fun _ ht y => Nat.beq (ttag y) 21 && ht (tp1 y)) x y
theorem tqr_ok : ∀ a b : sT, tqr a b = true → a = b := by
  intro a
  induction a with
  | arg i =>
    intro y h
    cases y <;> first | (cases h; done) | (next j => rw [Nat.eq_of_beq_eq_true (show Nat.beq i j = true from h)])
  | index k =>
    intro y h
    cases y <;> first | (cases h; done) | (next j => rw [Nat.eq_of_beq_eq_true (show Nat.beq k j = true from h)])
  | int v =>
    intro y h
    cases y <;> first | (cases h; done) | (next w => exact congrArg _ (Int32.toBitVec_inj.mp (BitVec.eq_of_toNat_eq (Nat.eq_of_beq_eq_true (show Nat.beq v.toBitVec.toNat w.toBitVec.toNat = true from h)))))
  | long v =>
    intro y h
    cases y <;> first | (cases h; done) | (next w => exact congrArg _ (Int64.toBitVec_inj.mp (BitVec.eq_of_toNat_eq (Nat.eq_of_beq_eq_true (show Nat.beq v.toBitVec.toNat w.toBitVec.toNat = true from h)))))
  | elem t i iht ihi =>
    intro y h
    cases y <;> first | (cases h; done) | (next z w => have h : (tqr i w && tqr t z) = true := h; simp only [Bool.and_eq_true] at h; rw [ihi _ h.1, iht _ h.2])
  | add a b iha ihb =>
    intro y h
    cases y <;> first | (cases h; done) | (next z w => have h : (tqr b w && tqr a z) = true := h; simp only [Bool.and_eq_true] at h; rw [ihb _ h.1, iha _ h.2])
  | sub a b iha ihb =>
    intro y h
    cases y <;> first | (cases h; done) | (next z w => have h : (tqr b w && tqr a z) = true := h; simp only [Bool.and_eq_true] at h; rw [ihb _ h.1, iha _ h.2])
  | mul a b iha ihb =>
    intro y h
    cases y <;> first | (cases h; done) | (next z w => have h : (tqr b w && tqr a z) = true := h; simp only [Bool.and_eq_true] at h; rw [ihb _ h.1, iha _ h.2])
  | div a b iha ihb =>
    intro y h
    cases y <;> first | (cases h; done) | (next z w => have h : (tqr b w && tqr a z) = true := h; simp only [Bool.and_eq_true] at h; rw [ihb _ h.1, iha _ h.2])
  | rem a b iha ihb =>
    intro y h
    cases y <;> first | (cases h; done) | (next z w => have h : (tqr b w && tqr a z) = true := h; simp only [Bool.and_eq_true] at h; rw [ihb _ h.1, iha _ h.2])
  | op2 o a b iha ihb =>
    intro y h
    cases y <;> first | (cases h; done) | (next p z w => have h : (Nat.beq (bix o) (bix p) && (tqr a z && tqr b w)) = true := h; simp only [Bool.and_eq_true] at h; rw [bix_inj _ _ (Nat.eq_of_beq_eq_true h.1), iha _ h.2.1, ihb _ h.2.2])
  | op1 o a iha =>
    intro y h
    cases y <;> first | (cases h; done) | (next p z => have h : (Nat.beq (uix o) (uix p) && tqr a z) = true := h; simp only [Bool.and_eq_true] at h; rw [uix_inj _ _ (Nat.eq_of_beq_eq_true h.1), iha _ h.2])
  | old t iht =>
    intro y h
    cases y <;> first | (cases h; done) | (next z => rw [iht _ (show tqr t z = true from h)])
  | length t iht =>
    intro y h
    cases y <;> first | (cases h; done) | (next z => rw [iht _ (show tqr t z = true from h)])
  | string c i =>
    intro y h
    cases y <;> first | (cases h; done) | (next d j => have h : (Nat.beq i j && decide (c = d)) = true := h; simp only [Bool.and_eq_true, decide_eq_true_eq] at h; rw [Nat.eq_of_beq_eq_true h.1, h.2])
  | null => intro y h; cases y <;> first | rfl | (cases h; done)
  | _ => intro y h; cases h
/-- two terms are one -/
noncomputable def tqe (a b : sT) : Bool := bif Nat.beq (thd a) (thd b) then tqr a b else false
theorem tqe_ok : ∀ a b : sT, tqe a b = true → a = b := by
  intro a b h
  unfold tqe at h
  cases hd : Nat.beq (thd a) (thd b) with
  | false => rw [hd] at h; cases h
  | true => rw [hd] at h; exact tqr_ok _ _ h
noncomputable def qqe (c d : sQ) : Bool := Nat.beq c.1 d.1 && (tqe c.2.1 d.2.1 && tqe c.2.2 d.2.2)
theorem qqe_ok {c d : sQ} (h : qqe c d = true) : c = d := by
  obtain ⟨k, a, b⟩ := c
  obtain ⟨k', a', b'⟩ := d
  simp only [qqe, Bool.and_eq_true] at h
  rw [Nat.eq_of_beq_eq_true h.1, tqe_ok _ _ h.2.1, tqe_ok _ _ h.2.2]
/-- what a fact says of a term -/
noncomputable def sside (t : sT) (w : Int × Int) (T : sT) : Option Int := if tqe T t = true then some 0 else match T with
  | .add a (.int c) => if tqe a t = true ∧ sk t = 0 ∧ -2147483648 ≤ w.1 + c.toInt ∧ w.2 + c.toInt ≤ 2147483647 then some c.toInt else none
  | _ => none
/-- a fact's side that is the term (but for a number added), and the number on the other -/
noncomputable def sotl (t : sT) (w : Int × Int) (f : sQ × Bool) : Option Int := match sside t w f.1.2.1, sC2 f.1.2.2 with
  | some z, some c => some (c - z)
  | _, _ => none
noncomputable def sotr (t : sT) (w : Int × Int) (f : sQ × Bool) : Option Int := match sside t w f.1.2.2, sC2 f.1.2.1 with
  | some z, some c => some (c - z)
  | _, _ => none
noncomputable def sone (t : sT) (f : sQ × Bool) (w : Int × Int) : Int × Int :=
  if f.1.1 = 2 ∨ f.1.1 = 8 then match sotl t w f with
    | some c => if f.2 = true then (w.1, min w.2 (c - 1)) else (max w.1 c, w.2)
    | none => match sotr t w f with
      | some c => if f.2 = true then (max w.1 (c + 1), w.2) else (w.1, min w.2 c)
      | none => w
  else if f.1.1 = 0 ∨ f.1.1 = 6 then match (match sotl t w f with
      | some c => some c
      | none => sotr t w f) with
    | some c => if f.2 = true then (max w.1 c, min w.2 c) else (if w.1 = c then c + 1 else w.1, if w.2 = c then c - 1 else w.2)
    | none => w
  else w
noncomputable def skokQ (c : sQ) : Bool := bif Nat.blt c.1 6 then Nat.beq (sk c.2.1) 0 && Nat.beq (sk c.2.2) 0 else bif Nat.blt c.1 100 then Nat.beq (sk c.2.1) 1 && Nat.beq (sk c.2.2) 1 else false
noncomputable def skok (c : sQ) : Bool := if c.1 < 6 then sk c.2.1 == 0 && sk c.2.2 == 0 else if c.1 < 100 then sk c.2.1 == 1 && sk c.2.2 == 1 else false
theorem skok_k {c : sQ} (h : skok c = true) : c.1 < 100 := by
  unfold skok at h
  split at h
  · omega
  · split at h
    · assumption
    · cases h
theorem sq_lt {X : pX} {ρ : sR} {c : sQ} (hk : skok c = true) (h : c.1 = 2 ∨ c.1 = 8) : sc X ρ c = decide (sn X ρ c.2.1 < sn X ρ c.2.2) := by
  obtain ⟨k, a, b⟩ := c
  dsimp only at h ⊢
  rcases h with rfl | rfl
  · simp only [skok, Nat.reduceLT, if_true, Bool.and_eq_true, beq_iff_eq] at hk
    simp only [sc, sn, hk.1, hk.2]
    exact decide_eq_decide.mpr Int32.lt_iff_toInt_lt
  · simp only [skok, Nat.reduceLT, if_false, if_true, Bool.and_eq_true, beq_iff_eq] at hk
    simp only [sc, sn, hk.1, hk.2]
    exact decide_eq_decide.mpr Int64.lt_iff_toInt_lt
theorem sq_eq {X : pX} {ρ : sR} {c : sQ} (hk : skok c = true) (h : c.1 = 0 ∨ c.1 = 6) : sc X ρ c = decide (sn X ρ c.2.1 = sn X ρ c.2.2) := by
  obtain ⟨k, a, b⟩ := c
  dsimp only at h ⊢
  rcases h with rfl | rfl
  · simp only [skok, Nat.reduceLT, if_true, Bool.and_eq_true, beq_iff_eq] at hk
    simp only [sc, sn, hk.1, hk.2]
    exact decide_eq_decide.mpr Int32.toInt_inj.symm
  · simp only [skok, Nat.reduceLT, if_false, if_true, Bool.and_eq_true, beq_iff_eq] at hk
    simp only [sc, sn, hk.1, hk.2]
    exact decide_eq_decide.mpr Int64.toInt_inj.symm
theorem s_add0 {x y : Int32} (h1 : -2147483648 ≤ x.toInt + y.toInt) (h2 : x.toInt + y.toInt ≤ 2147483647) : (x + y).toInt = x.toInt + y.toInt := by
  rw [Int32.toInt_add]
  exact Int.bmod_eq_of_le (by omega) (by omega)
theorem sside_ok {X : pX} {ρ : sR} {t T : sT} {w : Int × Int} {z : Int} (h : w.1 ≤ sn X ρ t ∧ sn X ρ t ≤ w.2) (hs : sside t w T = some z) : sn X ρ T = sn X ρ t + z := by
  unfold sside at hs
  split at hs
  · next e => cases hs; rw [tqe_ok _ _ e, Int.add_zero]
  · split at hs
    · next a c _ =>
      split at hs
      · next hc =>
        obtain ⟨ha, h1, h2, h3⟩ := hc
        have ha := tqe_ok _ _ ha
        cases hs
        have e1 : sn X ρ t = (sd X ρ t).1.toInt := by unfold sn; rw [if_neg (by rw [h1]; decide)]
        rw [e1] at h ⊢
        rw [ha]
        show ((sd X ρ t).1 + c).toInt = _
        exact s_add0 (by omega) (by omega)
      · cases hs
    · cases hs
theorem sotl_ok {X : pX} {ρ : sR} {t : sT} {w : Int × Int} {f : sQ × Bool} {c : Int} (h : w.1 ≤ sn X ρ t ∧ sn X ρ t ≤ w.2) (hs : sotl t w f = some c) : sn X ρ f.1.2.2 - sn X ρ f.1.2.1 = c - sn X ρ t := by
  unfold sotl at hs
  split at hs
  · next z c' hz hc =>
    cases hs
    rw [sside_ok h hz, sC2_ok hc]
    omega
  · cases hs
theorem sotr_ok {X : pX} {ρ : sR} {t : sT} {w : Int × Int} {f : sQ × Bool} {c : Int} (h : w.1 ≤ sn X ρ t ∧ sn X ρ t ≤ w.2) (hs : sotr t w f = some c) : sn X ρ f.1.2.1 - sn X ρ f.1.2.2 = c - sn X ρ t := by
  unfold sotr at hs
  split at hs
  · next z c' hz hc =>
    cases hs
    rw [sside_ok h hz, sC2_ok hc]
    omega
  · cases hs
theorem sone_ok {X : pX} {ρ : sR} {t : sT} {f : sQ × Bool} {w : Int × Int} (hf : sc X ρ f.1 = f.2) (hk : skok f.1 = true) (h : w.1 ≤ sn X ρ t ∧ sn X ρ t ≤ w.2) : (sone t f w).1 ≤ sn X ρ t ∧ sn X ρ t ≤ (sone t f w).2 := by
  unfold sone
  split
  · next hc =>
    rw [sq_lt hk hc] at hf
    split
    · next c hcc =>
      have e := sotl_ok h hcc
      split
      · next hv => rw [hv] at hf; have := of_decide_eq_true hf; dsimp only; omega
      · next hv =>
        have hv : f.2 = false := by cases h9 : f.2 <;> simp_all
        rw [hv] at hf; have := of_decide_eq_false hf; dsimp only; omega
    · split
      · next c hcc =>
        have e := sotr_ok h hcc
        split
        · next hv => rw [hv] at hf; have := of_decide_eq_true hf; dsimp only; omega
        · next hv =>
          have hv : f.2 = false := by cases h9 : f.2 <;> simp_all
          rw [hv] at hf; have := of_decide_eq_false hf; dsimp only; omega
      · exact h
  · split
    · next hc =>
      rw [sq_eq hk hc] at hf
      split
      · next c hcc =>
        have key : decide (sn X ρ t = c) = f.2 := by
          rw [← hf]
          apply decide_eq_decide.mpr
          split at hcc
          · next c' h' => cases hcc; have e := sotl_ok h h'; constructor <;> intro _ <;> omega
          · have e := sotr_ok h hcc; constructor <;> intro _ <;> omega
        split
        · next hv => rw [hv] at key; have := of_decide_eq_true key; dsimp only; omega
        · next hv =>
          have hv : f.2 = false := by cases h9 : f.2 <;> simp_all
          rw [hv] at key
          have := of_decide_eq_false key
          dsimp only
          constructor <;> split <;> omega
      · exact h
    · exact h
/-- a quick look whether two terms may be one -/
noncomputable def tbq (a b : sT) : Bool := Nat.beq (thd a) (thd b)
noncomputable def thdA (t : sT) : Nat := @Jvm.Term.rec (fun _ => Nat) (fun _ => 0) (fun _ => 0) (fun _ => 0) (0) (fun _ => 0) (fun _ _ _ _ _ => 0) (fun _ _ _ => 0) (fun _ _ => 0) (fun _ => 0) (fun _ _ => 0) (fun _ _ _ _ => 0) (fun a _ _ _ => thd a) (fun _ _ _ _ => 0) (fun _ _ _ _ => 0) (fun _ _ _ _ => 0) (fun _ _ _ _ => 0) (fun _ _ _ _ _ => 0) (fun _ _ _ => 0) (fun _ _ => 0) (0) (0) (fun _ _ => 0) t
/-- may the fact say something of the term -/
noncomputable def trel (t : sT) (c : sQ) : Bool := Nat.beq (thd c.2.1) (thd t) || (Nat.beq (thd c.2.2) (thd t) || (Nat.beq (thdA c.2.1) (thd t) || Nat.beq (thdA c.2.2) (thd t)))
noncomputable def sref (F : sFs) (t : sT) (w : Int × Int) : Int × Int := F.foldr (fun f w => if trel t f.1 = true then (if skok f.1 = true then sone t f w else w) else w) w
theorem sref_ok {X : pX} {ρ : sR} {t : sT} : ∀ (F : sFs) (w : Int × Int), fall X ρ F → w.1 ≤ sn X ρ t ∧ sn X ρ t ≤ w.2 → (sref F t w).1 ≤ sn X ρ t ∧ sn X ρ t ≤ (sref F t w).2
  | [], w, _, h => h
  | f :: F, w, hF, h => by
    have ih := sref_ok F w (fun g hg => hF g (List.mem_cons_of_mem _ hg)) h
    unfold sref at ih ⊢
    rw [List.foldr_cons]
    split
    · split
      · next hk => exact sone_ok (hF f List.mem_cons_self) hk ih
      · exact ih
    · exact ih
/-- between which numbers a term lies -/
noncomputable def sivlO (F : sFs) : sT → Int × Int
  | .int v => (v.toInt, v.toInt)
  | .long v => (v.toInt, v.toInt)
  | .op2 o a b => sref F (.op2 o a b) (match o, b with
    | .iand, .int m => if 0 ≤ m.toInt then (0, m.toInt) else sfull (.op2 o a b)
    | _, _ => sfull (.op2 o a b))
  | .op1 o a => sref F (.op1 o a) (if sk a = 0 then (match o with
    | .i2l => sivlO F a
    | _ => sfull (.op1 o a)) else if sk a = 1 then (match o with
    | .l2i => if -2147483648 ≤ (sivlO F a).1 ∧ (sivlO F a).2 ≤ 2147483647 then sivlO F a else sfull (.op1 .l2i a)
    | _ => sfull (.op1 o a)) else sfull (.op1 o a))
  | .add a b => sref F (.add a b) (if sk a = 0 ∧ sk b = 0 then (if -2147483648 ≤ (sivlO F a).1 + (sivlO F b).1 ∧ (sivlO F a).2 + (sivlO F b).2 ≤ 2147483647 then ((sivlO F a).1 + (sivlO F b).1, (sivlO F a).2 + (sivlO F b).2) else sfull (.add a b)) else sfull (.add a b))
  | .sub a b => sref F (.sub a b) (if sk a = 0 ∧ sk b = 0 then (if -2147483648 ≤ (sivlO F a).1 - (sivlO F b).2 ∧ (sivlO F a).2 - (sivlO F b).1 ≤ 2147483647 then ((sivlO F a).1 - (sivlO F b).2, (sivlO F a).2 - (sivlO F b).1) else sfull (.sub a b)) else sfull (.sub a b))
  | .mul a b => sref F (.mul a b) (if sk a = 0 ∧ sk b = 0 then (match sC2 b with
    | some c => if 0 ≤ c ∧ -2147483648 ≤ c * (sivlO F a).1 ∧ c * (sivlO F a).2 ≤ 2147483647 then (c * (sivlO F a).1, c * (sivlO F a).2) else sfull (.mul a b)
    | none => match sC2 a with
      | some c => if 0 ≤ c ∧ -2147483648 ≤ c * (sivlO F b).1 ∧ c * (sivlO F b).2 ≤ 2147483647 then (c * (sivlO F b).1, c * (sivlO F b).2) else sfull (.mul a b)
      | none => sfull (.mul a b)) else sfull (.mul a b))
  | .div a b => sref F (.div a b) (if sk a = 0 ∧ sk b = 0 then (match sC2 b with
    | some c => if 0 < c ∧ 0 ≤ (sivlO F a).1 then ((sivlO F a).1 / c, (sivlO F a).2 / c) else sfull (.div a b)
    | none => sfull (.div a b)) else sfull (.div a b))
  | .rem a b => sref F (.rem a b) (if sk a = 0 ∧ sk b = 0 then (match sC2 b with
    | some c => if 0 < c ∧ 0 ≤ (sivlO F a).1 then (if (sivlO F a).2 < c then sivlO F a else (0, c - 1)) else sfull (.rem a b)
    | none => sfull (.rem a b)) else sfull (.rem a b))
  | t => sref F t (sbas t)
theorem s_and {x m : Int32} (h : 0 ≤ m.toInt) : 0 ≤ (x &&& m).toInt ∧ (x &&& m).toInt ≤ m.toInt := by
  have hm : m.toBitVec.msb = false := by
    rw [BitVec.msb_eq_toInt]
    exact decide_eq_false (Int.not_lt.mpr h)
  have hx : (x &&& m).toBitVec.msb = false := by rw [Int32.toBitVec_and, BitVec.msb_and, hm, Bool.and_false]
  show 0 ≤ (x &&& m).toBitVec.toInt ∧ (x &&& m).toBitVec.toInt ≤ m.toBitVec.toInt
  rw [BitVec.toInt_eq_toNat_of_msb hx, BitVec.toInt_eq_toNat_of_msb hm, Int32.toBitVec_and, BitVec.toNat_and]
  have h9 := @Nat.and_le_right x.toBitVec.toNat m.toBitVec.toNat
  omega
theorem s_add {x y : Int32} (h1 : -2147483648 ≤ x.toInt + y.toInt) (h2 : x.toInt + y.toInt ≤ 2147483647) : (x + y).toInt = x.toInt + y.toInt := by
  rw [Int32.toInt_add]
  exact Int.bmod_eq_of_le (by omega) (by omega)
theorem s_sub {x y : Int32} (h1 : -2147483648 ≤ x.toInt - y.toInt) (h2 : x.toInt - y.toInt ≤ 2147483647) : (x - y).toInt = x.toInt - y.toInt := by
  rw [Int32.toInt_sub]
  exact Int.bmod_eq_of_le (by omega) (by omega)
theorem s_mul {x y : Int32} (h1 : -2147483648 ≤ x.toInt * y.toInt) (h2 : x.toInt * y.toInt ≤ 2147483647) : (x * y).toInt = x.toInt * y.toInt := by
  rw [Int32.toInt_mul]
  exact Int.bmod_eq_of_le (by omega) (by omega)
theorem s_div {x y : Int32} (hx : 0 ≤ x.toInt) (hy : 0 < y.toInt) : (x / y).toInt = x.toInt / y.toInt := by
  have h1 := Int32.toInt_lt x
  have h2 : x.toInt / y.toInt ≤ x.toInt := Int.ediv_le_self _ hx
  have h3 : 0 ≤ x.toInt / y.toInt := Int.ediv_nonneg hx (by omega)
  rw [Int32.toInt_div, Int.tdiv_eq_ediv_of_nonneg hx]
  exact Int.bmod_eq_of_le (by omega) (by omega)
theorem s_rem {x y : Int32} (hx : 0 ≤ x.toInt) (hy : 0 < y.toInt) : (x - x / y * y).toInt = x.toInt % y.toInt := by
  have h1 := Int32.toInt_lt x
  have e1 := s_div hx hy
  have h3 : 0 ≤ x.toInt / y.toInt := Int.ediv_nonneg hx (by omega)
  have e2 := Int.mul_ediv_add_emod x.toInt y.toInt
  have h4 := Int.emod_nonneg x.toInt (show y.toInt ≠ 0 by omega)
  have e3 : x.toInt / y.toInt * y.toInt = y.toInt * (x.toInt / y.toInt) := Int.mul_comm _ _
  have h5 : 0 ≤ y.toInt * (x.toInt / y.toInt) := Int.mul_nonneg (by omega) h3
  have e4 : (x / y * y).toInt = x.toInt / y.toInt * y.toInt := by
    rw [s_mul (by rw [e1]; omega) (by rw [e1]; omega), e1]
  rw [s_sub (by rw [e4]; omega) (by rw [e4]; omega), e4]
  omega
theorem s_mulc {c l x h : Int} (hc : 0 ≤ c) (h1 : l ≤ x) (h2 : x ≤ h) : c * l ≤ c * x ∧ c * x ≤ c * h := ⟨Int.mul_le_mul_of_nonneg_left h1 hc, Int.mul_le_mul_of_nonneg_left h2 hc⟩
theorem sn_i {X : pX} {ρ : sR} {t : sT} (h : sk t = 0) : sn X ρ t = (sd X ρ t).1.toInt := by
  unfold sn
  rw [if_neg (by rw [h]; decide)]
theorem sivlO_ok {X : pX} {ρ : sR} {F : sFs} (hF : fok X ρ F) : ∀ t : sT, (sivlO F t).1 ≤ sn X ρ t ∧ sn X ρ t ≤ (sivlO F t).2 := by
  intro t
  induction t with
  | int v => exact ⟨Int.le_refl _, Int.le_refl _⟩
  | long v => exact ⟨Int.le_refl _, Int.le_refl _⟩
  | op2 o a b iha ihb =>
    refine sref_ok F _ hF.2 ?_
    split
    · next m =>
      split
      · next hm => exact s_and hm
      · exact sfull_ok X ρ _
    · exact sfull_ok X ρ _
  | op1 o a iha =>
    refine sref_ok F _ hF.2 ?_
    split
    · next hk =>
      split
      · rw [sn_i hk] at iha
        have e9 : sn X ρ (.op1 .i2l a) = (sd X ρ a).1.toInt := by
          show (sd X ρ a).1.toInt64.toInt = _
          exact Int32.toInt_toInt64 _
        rw [e9]; exact iha
      · exact sfull_ok X ρ _
    · split
      · next hk =>
        split
        · split
          · next hr =>
            have e0 : sn X ρ a = (sd X ρ a).2.toInt := by unfold sn; rw [if_pos hk]
            rw [e0] at iha
            have e9 : sn X ρ (.op1 .l2i a) = (sd X ρ a).2.toInt := by
              show (sd X ρ a).2.toInt32.toInt = _
              rw [Int64.toInt_toInt32]
              exact Int.bmod_eq_of_le (by omega) (by omega)
            rw [e9]; exact iha
          · exact sfull_ok X ρ _
        · exact sfull_ok X ρ _
      · exact sfull_ok X ρ _
  | add a b iha ihb =>
    refine sref_ok F _ hF.2 ?_
    split
    · next hk =>
      split
      · next hr =>
        rw [sn_i hk.1] at iha
        rw [sn_i hk.2] at ihb
        have e9 : sn X ρ (.add a b) = (sd X ρ a).1.toInt + (sd X ρ b).1.toInt := s_add (by omega) (by omega)
        rw [e9]; dsimp only; omega
      · exact sfull_ok X ρ _
    · exact sfull_ok X ρ _
  | sub a b iha ihb =>
    refine sref_ok F _ hF.2 ?_
    split
    · next hk =>
      split
      · next hr =>
        rw [sn_i hk.1] at iha
        rw [sn_i hk.2] at ihb
        have e9 : sn X ρ (.sub a b) = (sd X ρ a).1.toInt - (sd X ρ b).1.toInt := s_sub (by omega) (by omega)
        rw [e9]; dsimp only; omega
      · exact sfull_ok X ρ _
    · exact sfull_ok X ρ _
  | mul a b iha ihb =>
    refine sref_ok F _ hF.2 ?_
    split
    · next hk =>
      rw [sn_i hk.1] at iha
      rw [sn_i hk.2] at ihb
      have ea : ∀ c, sC2 a = some c → (sd X ρ a).1.toInt = c := fun c hc => by rw [← sn_i hk.1]; exact sC2_ok hc
      have eb : ∀ c, sC2 b = some c → (sd X ρ b).1.toInt = c := fun c hc => by rw [← sn_i hk.2]; exact sC2_ok hc
      split
      · next c hc =>
        split
        · next hr =>
          have m := s_mulc hr.1 iha.1 iha.2
          have e0 : (sd X ρ a).1.toInt * (sd X ρ b).1.toInt = c * (sd X ρ a).1.toInt := by rw [eb c hc, Int.mul_comm]
          have e9 : sn X ρ (.mul a b) = (sd X ρ a).1.toInt * (sd X ρ b).1.toInt := s_mul (by rw [e0]; omega) (by rw [e0]; omega)
          rw [e9, e0]; exact m
        · exact sfull_ok X ρ _
      · split
        · next c hc =>
          split
          · next hr =>
            have m := s_mulc hr.1 ihb.1 ihb.2
            have e0 : (sd X ρ a).1.toInt * (sd X ρ b).1.toInt = c * (sd X ρ b).1.toInt := by rw [ea c hc]
            have e9 : sn X ρ (.mul a b) = (sd X ρ a).1.toInt * (sd X ρ b).1.toInt := s_mul (by rw [e0]; omega) (by rw [e0]; omega)
            rw [e9, e0]; exact m
          · exact sfull_ok X ρ _
        · exact sfull_ok X ρ _
    · exact sfull_ok X ρ _
  | div a b iha ihb =>
    refine sref_ok F _ hF.2 ?_
    split
    · next hk =>
      rw [sn_i hk.1] at iha
      rw [sn_i hk.2] at ihb
      split
      · next c hc =>
        have eb : (sd X ρ b).1.toInt = c := by rw [← sn_i hk.2]; exact sC2_ok hc
        split
        · next hr =>
          have e9 : sn X ρ (.div a b) = (sd X ρ a).1.toInt / c := by
            show ((sd X ρ a).1 / (sd X ρ b).1).toInt = _
            rw [s_div (by omega) (by omega), eb]
          rw [e9]
          exact ⟨Int.ediv_le_ediv hr.1 iha.1, Int.ediv_le_ediv hr.1 iha.2⟩
        · exact sfull_ok X ρ _
      · exact sfull_ok X ρ _
    · exact sfull_ok X ρ _
  | rem a b iha ihb =>
    refine sref_ok F _ hF.2 ?_
    split
    · next hk =>
      rw [sn_i hk.1] at iha
      rw [sn_i hk.2] at ihb
      split
      · next c hc =>
        have eb : (sd X ρ b).1.toInt = c := by rw [← sn_i hk.2]; exact sC2_ok hc
        split
        · next hr =>
          have e9 : sn X ρ (.rem a b) = (sd X ρ a).1.toInt % c := by
            show ((sd X ρ a).1 - (sd X ρ a).1 / (sd X ρ b).1 * (sd X ρ b).1).toInt = _
            rw [s_rem (by omega) (by omega), eb]
          rw [e9]
          split
          · next hlt =>
            rw [Int.emod_eq_of_lt (by omega) (by omega)]
            exact iha
          · exact ⟨Int.emod_nonneg _ (by omega), Int.le_sub_one_of_lt (Int.emod_lt_of_pos _ hr.1)⟩
        · exact sfull_ok X ρ _
      · exact sfull_ok X ρ _
    · exact sfull_ok X ρ _
  | _ => exact sref_ok F _ hF.2 (sbas_ok hF.1 _)
/-- the same, with numbers, variables and places first -/
noncomputable def sivl (F : sFs) (t : sT) : Int × Int := @Option.rec Int (fun _ => Int × Int) (@Bool.rec (fun _ => Int × Int) (@Bool.rec (fun _ => Int × Int) (sivlO F t) (sref F t (sbas t)) (Nat.beq (ttag t) 10)) (sref F t (sbas t)) (Nat.beq (ttag t) 0)) (fun z => (z, z)) (sC2 t)
theorem sivl_eqO (F : sFs) (t : sT) : sivl F t = sivlO F t := by cases t <;> rfl
theorem sivl_ok {X : pX} {ρ : sR} {F : sFs} (hF : fok X ρ F) (t : sT) : (sivl F t).1 ≤ sn X ρ t ∧ sn X ρ t ≤ (sivl F t).2 := by
  rw [sivl_eqO]
  exact sivlO_ok hF t
/-- the facts gainsay each other -/
noncomputable def seqs (F : sFs) (t : sT) (w : Int × Int) : Int × Int := F.foldr (fun f w => if f.1.1 = 0 ∧ f.2 = true ∧ skok f.1 = true then (if tqe f.1.2.1 t = true then (max w.1 (sivl F f.1.2.2).1, min w.2 (sivl F f.1.2.2).2) else if tqe f.1.2.2 t = true then (max w.1 (sivl F f.1.2.1).1, min w.2 (sivl F f.1.2.1).2) else w) else w) w
theorem seqs_go {X : pX} {ρ : sR} {F : sFs} (hF : fok X ρ F) {t : sT} {w : Int × Int} (h : w.1 ≤ sn X ρ t ∧ sn X ρ t ≤ w.2) : ∀ (A : sFs), (∀ f ∈ A, f ∈ F) → (A.foldr (fun f w => if f.1.1 = 0 ∧ f.2 = true ∧ skok f.1 = true then (if tqe f.1.2.1 t = true then (max w.1 (sivl F f.1.2.2).1, min w.2 (sivl F f.1.2.2).2) else if tqe f.1.2.2 t = true then (max w.1 (sivl F f.1.2.1).1, min w.2 (sivl F f.1.2.1).2) else w) else w) w).1 ≤ sn X ρ t ∧ sn X ρ t ≤ (A.foldr (fun f w => if f.1.1 = 0 ∧ f.2 = true ∧ skok f.1 = true then (if tqe f.1.2.1 t = true then (max w.1 (sivl F f.1.2.2).1, min w.2 (sivl F f.1.2.2).2) else if tqe f.1.2.2 t = true then (max w.1 (sivl F f.1.2.1).1, min w.2 (sivl F f.1.2.1).2) else w) else w) w).2
  | [], _ => h
  | f :: A, hA => by
    have ih := seqs_go hF h A (fun g hg => hA g (List.mem_cons_of_mem _ hg))
    rw [List.foldr_cons]
    split
    · next hc =>
      have h1 := hF.2 f (hA f List.mem_cons_self)
      rw [sq_eq hc.2.2 (Or.inl hc.1), hc.2.1] at h1
      have h1 := of_decide_eq_true h1
      split
      · next ht =>
        have h2 := sivl_ok hF f.1.2.2
        rw [tqe_ok _ _ ht] at h1
        dsimp only
        omega
      · split
        · next ht =>
          have h2 := sivl_ok hF f.1.2.1
          rw [tqe_ok _ _ ht] at h1
          dsimp only
          omega
        · exact ih
    · exact ih
noncomputable def sivw (F : sFs) (t : sT) : Int × Int := sref F t (seqs F t (sivl F t))
noncomputable def scon (F : sFs) : Bool := F.any (fun f => decide ((sivw F f.1.2.1).2 < (sivw F f.1.2.1).1) || decide ((sivw F f.1.2.2).2 < (sivw F f.1.2.2).1))
theorem scon_ok {X : pX} {ρ : sR} {F : sFs} (hF : fok X ρ F) (h : scon F = true) : False := by
  obtain ⟨f, -, h1⟩ := List.any_eq_true.mp h
  simp only [Bool.or_eq_true, decide_eq_true_eq] at h1
  have h2 := sref_ok F _ hF.2 (seqs_go hF (sivl_ok hF f.1.2.1) F (fun _ h => h))
  have h3 := sref_ok F _ hF.2 (seqs_go hF (sivl_ok hF f.1.2.2) F (fun _ h => h))
  unfold sivw seqs at h1
  omega
/-- an int term's number, if a term's is known -/
noncomputable def sevt (t : sT) (k : Int32) (T : sT) : Option Int32 := if tqe T t = true then some k else match T with
  | .int v => some v
  | .add a b => match sevt t k a, sevt t k b with
    | some x, some y => some (x + y)
    | _, _ => none
  | .mul a b => match sevt t k a, sevt t k b with
    | some x, some y => some (x * y)
    | _, _ => none
  | .op2 o a b => match o with
    | .iand => match sevt t k a, sevt t k b with
      | some x, some y => some (x &&& y)
      | _, _ => none
    | _ => none
  | _ => none
theorem sevt_ok {X : pX} {ρ : sR} {t : sT} {k : Int32} (ht : (sd X ρ t).1 = k) : ∀ (T : sT) (v : Int32), sevt t k T = some v → (sd X ρ T).1 = v := by
  intro T
  induction T with
  | add a b iha ihb =>
    intro v h
    unfold sevt at h
    split at h
    · next e => cases h; rw [tqe_ok _ _ e]; exact ht
    · dsimp only at h
      split at h
      · next x y hx hy => cases h; show (sd X ρ a).1 + (sd X ρ b).1 = _; rw [iha x hx, ihb y hy]
      · cases h
  | mul a b iha ihb =>
    intro v h
    unfold sevt at h
    split at h
    · next e => cases h; rw [tqe_ok _ _ e]; exact ht
    · dsimp only at h
      split at h
      · next x y hx hy => cases h; show (sd X ρ a).1 * (sd X ρ b).1 = _; rw [iha x hx, ihb y hy]
      · cases h
  | op2 o a b iha ihb =>
    intro v h
    unfold sevt at h
    split at h
    · next e => cases h; rw [tqe_ok _ _ e]; exact ht
    · dsimp only at h
      split at h
      · split at h
        · next x y hx hy => cases h; show (sd X ρ a).1 &&& (sd X ρ b).1 = _; rw [iha x hx, ihb y hy]
        · cases h
      · cases h
  | int w =>
    intro v h
    unfold sevt at h
    split at h
    · next e => cases h; rw [tqe_ok _ _ e]; exact ht
    · cases h; rfl
  | _ =>
    intro v h
    unfold sevt at h
    split at h
    · next e => cases h; rw [tqe_ok _ _ e]; exact ht
    · cases h
/-- may the term lie in that one -/
noncomputable def tocc (t : sT) : sT → Bool
  | .add a b => tbq (.add a b) t || (tocc t a || tocc t b)
  | .mul a b => tocc t a || tocc t b
  | .op2 o a b => tbq (.op2 o a b) t || (tocc t a || tocc t b)
  | T => tbq T t
noncomputable def sgain (F : sFs) (t : sT) (k : Int32) : Bool := F.any (fun f => (tocc t f.1.2.1 || tocc t f.1.2.2) && (match f.1.1 with
  | 0 => (match sevt t k f.1.2.1, sevt t k f.1.2.2 with
    | some a, some b => decide (a = b) != f.2
    | _, _ => false)
  | 2 => (match sevt t k f.1.2.1, sevt t k f.1.2.2 with
    | some a, some b => decide (a < b) != f.2
    | _, _ => false)
  | _ => false))
theorem sgain_ok {X : pX} {ρ : sR} {F : sFs} (hF : fok X ρ F) {t : sT} {k : Int32} (h : sgain F t k = true) : ¬ (sd X ρ t).1 = k := fun ht => by
  obtain ⟨f, hf, h1⟩ := List.any_eq_true.mp h
  have h2 := hF.2 f hf
  obtain ⟨⟨c, a, b⟩, v⟩ := f
  simp only [Bool.and_eq_true] at h1
  have h1 := h1.2
  dsimp only at h1 h2
  split at h1
  · split at h1
    · next x y hx hy =>
      have e1 := sevt_ok ht a x hx
      have e2 := sevt_ok ht b y hy
      have h3 : decide ((sd X ρ a).1 = (sd X ρ b).1) = v := h2
      rw [e1, e2] at h3
      rw [h3] at h1
      simp at h1
    · cases h1
  · split at h1
    · next x y hx hy =>
      have e1 := sevt_ok ht a x hx
      have e2 := sevt_ok ht b y hy
      have h3 : decide ((sd X ρ a).1 < (sd X ρ b).1) = v := h2
      rw [e1, e2] at h3
      rw [h3] at h1
      simp at h1
    · cases h1
  · cases h1
noncomputable def sref2 (F : sFs) (c : sQ) : Bool := match sC1 c.2.2 with
  | some q => sgain F c.2.1 q.1
  | none => match sC1 c.2.1 with
    | some p => sgain F c.2.2 p.1
    | none => false
theorem sref2_ok {X : pX} {ρ : sR} {F : sFs} (hF : fok X ρ F) {a b : sT} (h : sref2 F (0, a, b) = true) : sc X ρ (0, a, b) = false := by
  unfold sref2 at h
  dsimp only at h
  show decide ((sd X ρ a).1 = (sd X ρ b).1) = false
  split at h
  · next q hq =>
    rw [sC1_ok hq]
    exact decide_eq_false (sgain_ok hF h)
  · split at h
    · next p hp =>
      rw [sC1_ok hp]
      exact decide_eq_false (fun e => sgain_ok hF h e.symm)
    · cases h
/-- is the condition decided -/
noncomputable def sdc (k : Nat) (p q : Int32 × Int64) : Option Bool := match k with
  | 0 => some (decide (p.1 = q.1))
  | 2 => some (decide (p.1 < q.1))
  | 6 => some (decide (p.2 = q.2))
  | 8 => some (decide (p.2 < q.2))
  | _ => none
noncomputable def sdecs (F : sFs) (c : sQ) : Option Bool := if skok c = true then
    if tqe c.2.1 c.2.2 = true then (if c.1 = 0 ∨ c.1 = 6 then some true else if c.1 = 2 ∨ c.1 = 8 then some false else none)
    else if c.1 = 2 ∨ c.1 = 8 then
      if (sivl F c.2.1).2 < (sivl F c.2.2).1 then some true else if (sivl F c.2.2).2 ≤ (sivl F c.2.1).1 then some false else
      match F.find? (fun f => qqe f.1 c) with
      | some f => some f.2
      | none => none
    else if c.1 = 0 ∨ c.1 = 6 then
      if (sivl F c.2.1).2 < (sivl F c.2.2).1 ∨ (sivl F c.2.2).2 < (sivl F c.2.1).1 then some false
      else if (sivl F c.2.1).1 = (sivl F c.2.1).2 ∧ (sivl F c.2.2).1 = (sivl F c.2.2).2 ∧ (sivl F c.2.1).1 = (sivl F c.2.2).1 then some true
      else match F.find? (fun f => qqe f.1 c) with
      | some f => some f.2
      | none => match F.find? (fun f => qqe f.1 (c.1, c.2.2, c.2.1)) with
        | some f => some f.2
        | none => if c.1 = 0 ∧ sref2 F c = true then some false else none
    else none
  else none
theorem sdecs_ok {X : pX} {ρ : sR} {F : sFs} (hF : fok X ρ F) {c : sQ} {v : Bool} (h : sdecs F c = some v) : sc X ρ c = v := by
  unfold sdecs at h
  have fnd : ∀ f, F.find? (fun f => qqe f.1 c) = some f → sc X ρ c = f.2 := fun f hf => by
    have h0 : qqe f.1 c = true := List.find?_some (p := fun f : sQ × Bool => qqe f.1 c) hf
    have h1 := qqe_ok h0
    have h2 := hF.2 f (List.mem_of_find?_eq_some hf)
    rw [h1] at h2
    exact h2
  split at h
  · next hk =>
    have ia := sivl_ok hF c.2.1
    have ib := sivl_ok hF c.2.2
    split at h
    · next he =>
      have he := tqe_ok _ _ he
      split at h
      · next h0 => cases h; rw [sq_eq hk h0, he]; exact decide_eq_true rfl
      · split at h
        · next h2 => cases h; rw [sq_lt hk h2, he]; exact decide_eq_false (by omega)
        · cases h
    · split at h
      · next h2 =>
        split at h
        · cases h; rw [sq_lt hk h2]; exact decide_eq_true (by omega)
        · split at h
          · cases h; rw [sq_lt hk h2]; exact decide_eq_false (by omega)
          · split at h
            · next f hf => cases h; exact fnd f hf
            · cases h
      · split at h
        · next h0 =>
          split at h
          · cases h; rw [sq_eq hk h0]; exact decide_eq_false (by omega)
          · split at h
            · cases h; rw [sq_eq hk h0]; exact decide_eq_true (by omega)
            · split at h
              · next f hf => cases h; exact fnd f hf
              · split at h
                · next f hf =>
                  cases h
                  have h7 : qqe f.1 (c.1, c.2.2, c.2.1) = true := List.find?_some (p := fun f : sQ × Bool => qqe f.1 (c.1, c.2.2, c.2.1)) hf
                  have h8 := hF.2 f (List.mem_of_find?_eq_some hf)
                  have h9 := qqe_ok h7
                  rw [h9] at h8
                  have hk2 : skok (c.1, c.2.2, c.2.1) = true := by
                    unfold skok at hk ⊢
                    dsimp only
                    split at hk
                    · next h6 => rw [if_pos h6, Bool.and_comm]; exact hk
                    · next h6 => rw [if_neg h6, Bool.and_comm]; exact hk
                  rw [sq_eq hk2 h0] at h8
                  rw [sq_eq hk h0, ← h8]
                  exact decide_eq_decide.mpr ⟨Eq.symm, Eq.symm⟩
                · split at h
                  · next hr =>
                    cases h
                    obtain ⟨k, a, b⟩ := c
                    obtain ⟨rfl, hr⟩ := hr
                    exact sref2_ok hF hr
                  · cases h
        · cases h
  · cases h
/-- what a term's parts look like, as bits -/
noncomputable def tmh1 (t : sT) : Nat := Nat.shiftLeft 1 (Nat.mod (thd t) 1021)
noncomputable def tmh (t : sT) : Nat := @Jvm.Term.rec (fun _ => Nat) (fun i => tmh1 (.arg i)) (fun _ => 0) (fun _ => 0) (0) (fun _ => 0) (fun _ _ _ _ _ => 0) (fun _ _ _ => 0) (fun _ _ => 0) (fun _ => 0) (fun _ _ => 0) (fun t i _ hi => Nat.lor (tmh1 (.elem t i)) hi) (fun a b ha hb => Nat.lor (tmh1 (.add a b)) (Nat.lor ha hb)) (fun _ _ ha hb => Nat.lor ha hb) (fun _ _ ha hb => Nat.lor ha hb) (fun _ _ ha hb => Nat.lor ha hb) (fun _ _ ha hb => Nat.lor ha hb) (fun o a b ha hb => Nat.lor (tmh1 (.op2 o a b)) (Nat.lor ha hb)) (fun o a ha => Nat.lor (tmh1 (.op1 o a)) ha) (fun _ _ => 0) (0) (0) (fun _ _ => 0) t
noncomputable def qmh (c : sQ) : Nat := Nat.lor (tmh c.2.1) (tmh c.2.2)
/-- the facts that may say something of it -/
noncomputable def frel (F : sFs) (m : Nat) : sFs := @List.rec (sQ × Bool) (fun _ => sFs) [] (fun f _ ih => @Bool.rec (fun _ => sFs) (f :: ih) ih (Nat.beq (Nat.land (qmh f.1) m) 0)) F
theorem frel_mem {m : Nat} : ∀ {F : sFs} {f : sQ × Bool}, f ∈ frel F m → f ∈ F
  | [], _, h => h
  | g :: r, f, h => by
    have h : f ∈ @Bool.rec (fun _ => sFs) (g :: frel r m) (frel r m) (Nat.beq (Nat.land (qmh g.1) m) 0) := h
    cases hq : Nat.beq (Nat.land (qmh g.1) m) 0 with
    | true => rw [hq] at h; exact List.mem_cons_of_mem _ (frel_mem h)
    | false =>
      rw [hq] at h
      rcases List.mem_cons.mp h with e | h
      · rw [e]; exact List.mem_cons_self
      · exact List.mem_cons_of_mem _ (frel_mem h)
/-- whole numbers compared quickly -/
noncomputable def zlt (a b : Int) : Bool := @Int.rec (fun _ => Bool) (fun m => @Int.rec (fun _ => Bool) (fun n => Nat.ble (Nat.succ m) n) (fun _ => false) b) (fun m => @Int.rec (fun _ => Bool) (fun _ => true) (fun n => Nat.ble (Nat.succ n) m) b) a
theorem zlt_iff {a b : Int} : zlt a b = true ↔ a < b := by
  cases a with
  | ofNat m =>
    have e1 : Int.ofNat m = ((m : Nat) : Int) := rfl
    cases b with
    | ofNat n =>
      have e2 : Int.ofNat n = ((n : Nat) : Int) := rfl
      show Nat.ble (Nat.succ m) n = true ↔ _
      rw [Nat.ble_eq, e1, e2]
      constructor <;> intro h <;> omega
    | negSucc n =>
      show false = true ↔ _
      rw [e1]
      constructor
      · intro h; cases h
      · intro h; exfalso; omega
  | negSucc m =>
    cases b with
    | ofNat n =>
      have e2 : Int.ofNat n = ((n : Nat) : Int) := rfl
      show true = true ↔ _
      rw [e2]
      constructor
      · intro _; omega
      · intro _; rfl
    | negSucc n =>
      show Nat.ble (Nat.succ n) m = true ↔ _
      rw [Nat.ble_eq]
      constructor <;> intro h <;> omega
noncomputable def sfd (c : sQ) (F : sFs) : Option Bool := @List.rec (sQ × Bool) (fun _ => Option Bool) none (fun f _ ih => @Bool.rec (fun _ => Option Bool) ih (some f.2) (qqe f.1 c)) F
theorem sfd_ok {X : pX} {ρ : sR} {c : sQ} {b : Bool} : ∀ {F : sFs}, fall X ρ F → sfd c F = some b → sc X ρ c = b
  | [], _, h => by cases h
  | f :: r, hF, h => by
    have h : @Bool.rec (fun _ => Option Bool) (sfd c r) (some f.2) (qqe f.1 c) = some b := h
    cases hq : qqe f.1 c with
    | false => rw [hq] at h; exact sfd_ok (fun g hg => hF g (List.mem_cons_of_mem _ hg)) h
    | true =>
      rw [hq] at h
      have h1 := hF f List.mem_cons_self
      rw [qqe_ok hq] at h1
      rw [h1]
      exact Option.some.inj h
noncomputable def klt (k : Nat) : Bool := @Bool.rec (fun _ => Bool) (Nat.beq k 8) true (Nat.beq k 2)
noncomputable def keq (k : Nat) : Bool := @Bool.rec (fun _ => Bool) (Nat.beq k 6) true (Nat.beq k 0)
noncomputable def sdlt (F : sFs) (c : sQ) (ia ib : Int × Int) : Option Bool := @Bool.rec (fun _ => Option Bool) (@Bool.rec (fun _ => Option Bool) (some false) (sfd c F) (zlt ia.1 ib.2)) (some true) (zlt ia.2 ib.1)
noncomputable def sdeq (F : sFs) (c : sQ) (ia ib : Int × Int) : Option Bool := @Bool.rec (fun _ => Option Bool) (@Bool.rec (fun _ => Option Bool) (@Bool.rec (fun _ => Option Bool) (@Option.rec Bool (fun _ => Option Bool) (@Option.rec Bool (fun _ => Option Bool) (@Bool.rec (fun _ => Option Bool) none (@Bool.rec (fun _ => Option Bool) none (some false) (sref2 F c)) (Nat.beq c.1 0)) (fun b => some b) (sfd (c.1, c.2.2, c.2.1) F)) (fun b => some b) (sfd c F)) (some true) (@Bool.rec (fun _ => Bool) (@Bool.rec (fun _ => Bool) true false (zlt ib.1 ia.2)) false (zlt ia.1 ib.2))) (some false) (zlt ib.2 ia.1)) (some false) (zlt ia.2 ib.1)
noncomputable def sdecsQ (F : sFs) (c : sQ) : Option Bool := @Bool.rec (fun _ => Option Bool) none (@Bool.rec (fun _ => Option Bool) (@Bool.rec (fun _ => Option Bool) (@Bool.rec (fun _ => Option Bool) none (sdeq F c (sivl F c.2.1) (sivl F c.2.2)) (keq c.1)) (sdlt F c (sivl F c.2.1) (sivl F c.2.2)) (klt c.1)) (@Bool.rec (fun _ => Option Bool) (@Bool.rec (fun _ => Option Bool) none (some false) (klt c.1)) (some true) (keq c.1)) (tqe c.2.1 c.2.2)) (skok c)
theorem klt_ok {k : Nat} (h : klt k = true) : k = 2 ∨ k = 8 := by
  unfold klt at h
  cases h1 : Nat.beq k 2 with
  | true => exact Or.inl (Nat.eq_of_beq_eq_true h1)
  | false => rw [h1] at h; exact Or.inr (Nat.eq_of_beq_eq_true h)
theorem keq_ok {k : Nat} (h : keq k = true) : k = 0 ∨ k = 6 := by
  unfold keq at h
  cases h1 : Nat.beq k 0 with
  | true => exact Or.inl (Nat.eq_of_beq_eq_true h1)
  | false => rw [h1] at h; exact Or.inr (Nat.eq_of_beq_eq_true h)
theorem zlt_no {a b : Int} (h : zlt a b = false) : ¬ a < b := fun q => by rw [zlt_iff.mpr q] at h; cases h
theorem sdecsQ_ok {X : pX} {ρ : sR} {F : sFs} (hF : fok X ρ F) {c : sQ} {v : Bool} (h : sdecsQ F c = some v) : sc X ρ c = v := by
  unfold sdecsQ at h
  cases hk : skok c with
  | false => rw [hk] at h; cases h
  | true =>
    rw [hk] at h
    have ia := sivl_ok hF c.2.1
    have ib := sivl_ok hF c.2.2
    cases ht : tqe c.2.1 c.2.2 with
    | true =>
      rw [ht] at h
      have he := tqe_ok _ _ ht
      cases h0 : keq c.1 with
      | true =>
        rw [h0] at h
        cases h
        rw [sq_eq hk (keq_ok h0), he]
        exact decide_eq_true rfl
      | false =>
        rw [h0] at h
        cases h2 : klt c.1 with
        | true =>
          rw [h2] at h
          cases h
          rw [sq_lt hk (klt_ok h2), he]
          exact decide_eq_false (by omega)
        | false => rw [h2] at h; cases h
    | false =>
      rw [ht] at h
      cases h2 : klt c.1 with
      | true =>
        rw [h2] at h
        have h : sdlt F c (sivl F c.2.1) (sivl F c.2.2) = some v := h
        unfold sdlt at h
        cases q1 : zlt (sivl F c.2.1).2 (sivl F c.2.2).1 with
        | true =>
          rw [q1] at h
          cases h
          have := zlt_iff.mp q1
          rw [sq_lt hk (klt_ok h2)]
          exact decide_eq_true (by omega)
        | false =>
          rw [q1] at h
          cases q2 : zlt (sivl F c.2.1).1 (sivl F c.2.2).2 with
          | false =>
            rw [q2] at h
            cases h
            have := zlt_no q2
            rw [sq_lt hk (klt_ok h2)]
            exact decide_eq_false (by omega)
          | true => rw [q2] at h; exact sfd_ok hF.2 h
      | false =>
        rw [h2] at h
        cases h0 : keq c.1 with
        | false => rw [h0] at h; cases h
        | true =>
          rw [h0] at h
          have h : sdeq F c (sivl F c.2.1) (sivl F c.2.2) = some v := h
          unfold sdeq at h
          have h0 := keq_ok h0
          cases q1 : zlt (sivl F c.2.1).2 (sivl F c.2.2).1 with
          | true =>
            rw [q1] at h
            cases h
            have := zlt_iff.mp q1
            rw [sq_eq hk h0]
            exact decide_eq_false (by omega)
          | false =>
            rw [q1] at h
            cases q2 : zlt (sivl F c.2.2).2 (sivl F c.2.1).1 with
            | true =>
              rw [q2] at h
              cases h
              have := zlt_iff.mp q2
              rw [sq_eq hk h0]
              exact decide_eq_false (by omega)
            | false =>
              rw [q2] at h
              have rest : @Option.rec Bool (fun _ => Option Bool) (@Option.rec Bool (fun _ => Option Bool) (@Bool.rec (fun _ => Option Bool) none (@Bool.rec (fun _ => Option Bool) none (some false) (sref2 F c)) (Nat.beq c.1 0)) (fun b => some b) (sfd (c.1, c.2.2, c.2.1) F)) (fun b => some b) (sfd c F) = some v → sc X ρ c = v := fun h => by
                cases f1 : sfd c F with
                | some b => rw [f1] at h; cases h; exact sfd_ok hF.2 f1
                | none =>
                  rw [f1] at h
                  cases f2 : sfd (c.1, c.2.2, c.2.1) F with
                  | some b =>
                    rw [f2] at h
                    cases h
                    have h8 := sfd_ok hF.2 f2
                    have hk2 : skok (c.1, c.2.2, c.2.1) = true := by
                      unfold skok at hk ⊢
                      dsimp only
                      split at hk
                      · next h6 => rw [if_pos h6, Bool.and_comm]; exact hk
                      · next h6 => rw [if_neg h6, Bool.and_comm]; exact hk
                    rw [sq_eq hk2 h0] at h8
                    rw [sq_eq hk h0, ← h8]
                    exact decide_eq_decide.mpr ⟨Eq.symm, Eq.symm⟩
                  | none =>
                    rw [f2] at h
                    cases h9 : Nat.beq c.1 0 with
                    | false => rw [h9] at h; cases h
                    | true =>
                      rw [h9] at h
                      cases hr : sref2 F c with
                      | false => rw [hr] at h; cases h
                      | true =>
                        rw [hr] at h
                        cases h
                        obtain ⟨k, a, b⟩ := c
                        have e : k = 0 := Nat.eq_of_beq_eq_true h9
                        subst e
                        exact sref2_ok hF hr
              cases q3 : zlt (sivl F c.2.1).1 (sivl F c.2.2).2 with
              | true => rw [q3] at h; exact rest h
              | false =>
                rw [q3] at h
                cases q4 : zlt (sivl F c.2.2).1 (sivl F c.2.1).2 with
                | true => rw [q4] at h; exact rest h
                | false =>
                  rw [q4] at h
                  cases h
                  have h5 := zlt_no q3
                  have h6 := zlt_no q4
                  rw [sq_eq hk h0]
                  exact decide_eq_true (by omega)
/-- the facts that speak of a condition; all of them where it names no number -/
noncomputable def frl0 (F : sFs) (m : Nat) : sFs := @Bool.rec (fun _ => sFs) (frel F m) F (Nat.beq m 0)
theorem frl0_mem {m : Nat} {F : sFs} {f : sQ × Bool} (h : f ∈ frl0 F m) : f ∈ F := by
  unfold frl0 at h
  cases hm : Nat.beq m 0 with
  | true => rw [hm] at h; exact h
  | false => rw [hm] at h; exact frel_mem h
noncomputable def sdec (F : sFs) (c : sQ) : Option Bool := match sC1 c.2.1, sC1 c.2.2 with
  | some p, some q => sdc c.1 p q
  | _, _ => sdecsQ (frl0 F (qmh c)) c
theorem sdec_k {F : sFs} {c : sQ} {v : Bool} (h : sdec F c = some v) : c.1 < 100 := by
  unfold sdec at h
  split at h
  · unfold sdc at h
    split at h <;> first | omega | (cases h; done)
  · unfold sdecsQ at h
    cases hk : skok c with
    | true => exact skok_k hk
    | false => rw [hk] at h; cases h
theorem sdec_ok {X : pX} {ρ : sR} {F : sFs} (hF : fok X ρ F) {c : sQ} {v : Bool} (h : sdec F c = some v) : sc X ρ c = v := by
  obtain ⟨k, a, b⟩ := c
  unfold sdec at h
  dsimp only at h
  split at h
  · next p q hp hq =>
    unfold sdc at h
    simp only [sc, sC1_ok hp, sC1_ok hq]
    split at h <;> first | (cases h; rfl) | (cases h; done)
  · exact sdecsQ_ok ⟨hF.1, fun f hf => hF.2 f (frl0_mem hf)⟩ h
/-- a condition of the code, laid out: negated or not, and one of the four -/
noncomputable def scn (cnd : Jvm.ClassFile.Cond) (lg : Nat) (a b : sT) : Bool × sQ := match cnd with
  | .eq => (false, (0 + lg, a, b))
  | .ne => (true, (0 + lg, a, b))
  | .lt => (false, (2 + lg, a, b))
  | .ge => (true, (2 + lg, a, b))
  | .gt => (false, (2 + lg, b, a))
  | .le => (true, (2 + lg, b, a))
theorem s_le32 (x y : Int32) : decide (y ≤ x) = !decide (x < y) := by
  by_cases h : x < y
  · rw [decide_eq_true h, decide_eq_false (Int32.not_le.mpr h)]; rfl
  · rw [decide_eq_false h, decide_eq_true (Int32.not_lt.mp h)]; rfl
theorem s_le64 (x y : Int64) : decide (y ≤ x) = !decide (x < y) := by
  by_cases h : x < y
  · rw [decide_eq_true h, decide_eq_false (Int64.not_le.mpr h)]; rfl
  · rw [decide_eq_false h, decide_eq_true (Int64.not_lt.mp h)]; rfl
theorem scn_ok (X : pX) (ρ : sR) (cnd : Jvm.ClassFile.Cond) (a b : sT) : pm_c2 cnd (sd X ρ a).1 (sd X ρ b).1 = ((scn cnd 0 a b).1 != sc X ρ (scn cnd 0 a b).2) := by
  cases cnd
  · exact (Bool.false_bne _).symm
  · exact decide_not.trans (Bool.true_bne _).symm
  · exact (Bool.false_bne _).symm
  · exact (s_le32 _ _).trans (Bool.true_bne _).symm
  · exact (Bool.false_bne _).symm
  · exact (s_le32 _ _).trans (Bool.true_bne _).symm
noncomputable def pm_l2 (cnd : Jvm.ClassFile.Cond) (x y : Int64) : Bool := match cnd with
  | .eq => decide (x = y)
  | .ne => decide (¬ x = y)
  | .lt => decide (x < y)
  | .ge => decide (y ≤ x)
  | .gt => decide (y < x)
  | .le => decide (x ≤ y)
theorem pm_l2_ok (cnd : Jvm.ClassFile.Cond) (x y : Int64) : pm_c1 cnd (lg_cmp x y) = pm_l2 cnd x y := by
  cases cnd <;> simp only [pm_c1, pm_l2, lg_cmp_ge, lg_cmp_le, lg_cmp_gt, lg_cmp_lt, lg_cmp_eq]
theorem scl_ok (X : pX) (ρ : sR) (cnd : Jvm.ClassFile.Cond) (a b : sT) : pm_l2 cnd (sd X ρ a).2 (sd X ρ b).2 = ((scn cnd 6 a b).1 != sc X ρ (scn cnd 6 a b).2) := by
  cases cnd
  · exact (Bool.false_bne _).symm
  · exact decide_not.trans (Bool.true_bne _).symm
  · exact (Bool.false_bne _).symm
  · exact (s_le64 _ _).trans (Bool.true_bne _).symm
  · exact (Bool.false_bne _).symm
  · exact (s_le64 _ _).trans (Bool.true_bne _).symm
